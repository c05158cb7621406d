/-! blobs by a seed -/
def jlcg (s : Int) : Int := (Int64.ofInt (1103515245 * s + 12345) &&& Int64.ofInt 2147483647).toInt
theorem jlcg_r (s : Int) : 0 ≤ jlcg s ∧ jlcg s ≤ 2147483647 := by
  unfold jlcg
  generalize Int64.ofInt (1103515245 * s + 12345) = a
  have e : (a &&& Int64.ofInt 2147483647).toBitVec.toNat ≤ 2147483647 := by
    rw [Int64.toBitVec_and, BitVec.toNat_and, show (Int64.ofInt 2147483647).toBitVec.toNat = 2147483647 by decide]
    exact Nat.and_le_right
  have e2 : (a &&& Int64.ofInt 2147483647).toInt = ((a &&& Int64.ofInt 2147483647).toBitVec.toNat : Int) := by
    show (a &&& Int64.ofInt 2147483647).toBitVec.toInt = _
    rw [BitVec.toInt_eq_toNat_of_lt (by omega)]
  omega
def jsd (s : Int) : Nat → Int
  | 0 => s
  | n + 1 => jlcg (jsd s n)
theorem jsd_r {s : Int} (h0 : 0 ≤ s) (h1 : s ≤ 2147483647) (n : Nat) : 0 ≤ jsd s n ∧ jsd s n ≤ 2147483647 := by
  cases n with
  | zero => exact ⟨h0, h1⟩
  | succ n => exact jlcg_r _
theorem jsd_a (s : Int) (a b : Nat) : jsd (jsd s a) b = jsd s (a + b) := by
  induction b with
  | zero => rfl
  | succ b ih => show jlcg (jsd (jsd s a) b) = jlcg (jsd s (a + b)); rw [ih]
def jdd (s : Int) (j : Int) : Int := if jsd s (j + 1).toNat / 65536 % 3 = 0 then -1 else 0
theorem jdd_r (s j : Int) : -1 ≤ jdd s j ∧ jdd s j ≤ 4 := by unfold jdd; split <;> omega
def jdrc (s : Int) : Nat → Int
  | 0 => 0
  | t + 1 => jdrc s t + jcor 4 3 (jdd (jsd s (12 * t)))
def jdrO (s : Int) : List (List jT) := jSc (jgk 4 3 (jdd s)) 144
def jdrn (s : Int) : Nat → Int
  | 0 => 0
  | t + 1 => jdrn s t + ((jdrO (jsd s (12 * t))).length : Int)
def jdra (s : Int) (t : Nat) (w : Int) : Int := if w = 0 then jdrc s t else if w = 1 then jdrn s t else jsd s (12 * t)
def jdrp (hp : jm_H) (s : Int) : Option jm_V → jm_H → Prop := fun rv h => rv = some (jI (jsd s 12)) ∧ h 5 1 = 4 ∧ h 5 2 = 3 ∧ (∀ j, 0 ≤ j → j < 12 → h 6 j = jdd s j) ∧ jG h 5 6 ∧ jFr hp h [5, 6]
theorem c_x_draw_L (hp : jm_H) (s : Int) (hs : 0 ≤ s ∧ s ≤ 2147483647) : ∀ (m : Nat) (p : Int) (h : jm_H), 0 ≤ p → p ≤ 12 → h 5 1 = 4 → h 5 2 = 3 → (∀ j, 0 ≤ j → j < p → h 6 j = jdd s j) → jG h 5 6 → jFr hp h [5, 6] → 12 - p < m → jm_Ev 129 10 [jR 5, jI s, jI (jsd s p.toNat), jI p] [] h (jdrp hp s) := by
  intro fu
  induction fu with
  | zero => intro p h h0 h1 a1 a2 hd hG hfr hm; omega
  | succ fu ih =>
    intro p h h0 h1 a1 a2 hd hG hfr hm
    refine jm_Ev.bl 2 (pc' := 13) (A' := [jR 5, jI s, jI (jsd s p.toNat), jI p]) (st' := [jI 12, jI p]) (hp' := h) rfl ?_
    refine jE_icmp_ge rfl (by omega) (by omega) (fun c13 => ?_) (fun c13 => ?_)
    · refine jm_Ev.bl 1 (pc' := 59) (A' := [jR 5, jI s, jI (jsd s p.toNat), jI p]) (st' := [jI (jsd s p.toNat)]) (hp' := h) rfl ?_
      exact jE_ret rfl ⟨jrI (by rw [show p = 12 by omega]; rfl), a1, a2, fun j j0 j1 => hd j j0 (by omega), hG, hfr⟩
    · refine jm_Ev.bl 2 (pc' := 20) (A' := [jR 5, jI s, jI (jsd s p.toNat), jI p]) (st' := [jI (jsd s p.toNat), jL 1103515245]) (hp' := h) rfl ?_
      refine jE_i2l rfl (by have := jsd_r hs.1 hs.2 p.toNat; omega) ?_
      refine jm_Ev.bl 6 (pc' := 31) (A' := [jR 5, jI s, jI (jsd s p.toNat), jI p]) (st' := [jI ((Int64.ofInt ((1103515245 * (jsd s p.toNat)) + 12345) &&& Int64.ofInt 2147483647).toInt)]) (hp' := h) rfl ?_
      have enx : jsd s (p + 1).toNat = jlcg (jsd s p.toNat) := by rw [show (p + 1).toNat = p.toNat + 1 by omega]; rfl
      have nxr := jlcg_r (jsd s p.toNat)
      rw [← enx] at nxr
      refine jE_top (w := (jsd s (p + 1).toNat)) (by rw [enx]; rfl) ?_
      refine jm_Ev.bl 5 (pc' := 38) (A' := [jR 5, jI s, jI (jsd s (p + 1).toNat), jI p]) (st' := [jI 65536, jI (jsd s (p + 1).toNat), jI p, jR 5]) (hp' := h) rfl ?_
      refine jE_idiv rfl (by omega) (by omega) ?_
      refine jm_Ev.bl 1 (pc' := 40) (A' := [jR 5, jI s, jI (jsd s (p + 1).toNat), jI p]) (st' := [jI 3, jI ((jsd s (p + 1).toNat) / 65536), jI p, jR 5]) (hp' := h) rfl ?_
      refine jE_irem rfl (by omega) (by omega) ?_
      refine jE_if_ne rfl (by omega) (fun c41 => ?_) (fun c41 => ?_)
      · refine jm_Ev.bl 1 (pc' := 49) (A' := [jR 5, jI s, jI (jsd s (p + 1).toNat), jI p]) (st' := [jI 0, jI p, jR 5]) (hp' := h) rfl ?_
        refine jE_callV (vs := [jR 5, jI p, jI 0]) (r := []) (nx := 52) (hp1 := (jm_hs h 6 p 0)) rfl (c_g_set_5 h (hG) p 0 (by omega) (by rw [a1, a2]; omega)) ?_
        refine jm_Ev.bl 2 (pc' := 10) (A' := [jR 5, jI s, jI (jsd s (p + 1).toNat), jI (p + 1)]) (st' := []) (hp' := (jm_hs h 6 p 0)) rfl ?_
        exact ih (p + 1) _ (by omega) (by omega) a1 a2 (jhs_lt hd (by unfold jdd; rw [if_neg c41])) ⟨hG.1, hG.2.1, hG.2.2.1, hG.2.2.2.1, jhs_in hG.2.2.2.2 ⟨by omega, by omega⟩⟩ (hfr.set (by simp)) (by omega)
      · refine jm_Ev.bl 2 (pc' := 49) (A' := [jR 5, jI s, jI (jsd s (p + 1).toNat), jI p]) (st' := [jI (-1), jI p, jR 5]) (hp' := h) rfl ?_
        refine jE_callV (vs := [jR 5, jI p, jI (-1)]) (r := []) (nx := 52) (hp1 := (jm_hs h 6 p (-1))) rfl (c_g_set_5 h (hG) p (-1) (by omega) (by rw [a1, a2]; omega)) ?_
        refine jm_Ev.bl 2 (pc' := 10) (A' := [jR 5, jI s, jI (jsd s (p + 1).toNat), jI (p + 1)]) (st' := []) (hp' := (jm_hs h 6 p (-1))) rfl ?_
        exact ih (p + 1) _ (by omega) (by omega) a1 a2 (jhs_lt hd (by unfold jdd; rw [if_pos c41])) ⟨hG.1, hG.2.1, hG.2.2.1, hG.2.2.2.1, jhs_in hG.2.2.2.2 ⟨by omega, by omega⟩⟩ (hfr.set (by simp)) (by omega)
theorem c_x_drawInto (hp : jm_H) (s : Int) (hs : 0 ≤ s ∧ s ≤ 2147483647) : jm_Ev 129 0 [jR 5, jI s, jU, jU] [] hp (jdrp hp s) := by
  refine jm_Ev.bl 5 (pc' := 5) (A' := [jR 5, jI s, jI s, jU]) (st' := [jI 3, jI 4, jR 5]) (hp' := hp) rfl ?_
  refine jE_call (vs := [jR 5, jI 4, jI 3]) (r := []) (nx := 8) rfl (c_g_clear_5 hp 4 3) (fun rv5 h hh => ?_)
  obtain ⟨rfl, a1, a2, a3, hfr⟩ := hh
  refine jm_Ev.bl 2 (pc' := 10) (A' := [jR 5, jI s, jI s, jI 0]) (st' := []) (hp' := h) rfl ?_
  exact c_x_draw_L hp s hs 13 0 h (by omega) (by omega) a1 a2 (fun j a b => by omega) ⟨by omega, by omega, by omega, by omega, fun j a b => by rw [a3 j a b]; omega⟩ hfr (by omega)
def jdrw (t s w : Int) : Int := if 1 ≤ t ∧ t ≤ 3 ∧ 0 ≤ s ∧ 0 ≤ w ∧ w ≤ 2 then jdra s t.toNat w else -102
def jxdr (hp : jm_H) (v : Int) : Option jm_V → jm_H → Prop := fun rv h => rv = some (jI v) ∧ jG h 5 6 ∧ jFr hp h [5, 6, 43, 44, 45, 46, 47, 48, 49, 50, 51, 52, 53, 54, 55]
theorem jdrn_r (s : Int) (t : Nat) : 0 ≤ jdrn s t ∧ jdrn s t ≤ 15 * (t : Int) := by
  induction t with
  | zero => unfold jdrn; omega
  | succ t ih =>
    have := jInv_15 (jK5_of (w := 4) (h := 3) (d := jdd (jsd s (12 * t))) (by omega) (by omega)) (jSc_inv (jK5_of (by omega) (by omega)) 144)
    unfold jdrn
    unfold jdrO
    omega
theorem jdrc_r (s : Int) (t : Nat) : 0 ≤ jdrc s t ∧ jdrc s t ≤ 60 * (t : Int) := by
  induction t with
  | zero => unfold jdrc; omega
  | succ t ih =>
    have := jcor_r (w := 4) (h := 3) (d := jdd (jsd s (12 * t))) (by omega) (by omega)
    unfold jdrc
    omega
theorem c_x_drawn_L (hp : jm_H) (t s wt : Int) (ht : 1 ≤ t ∧ t ≤ 3) (hs : 0 ≤ s ∧ s ≤ 2147483647) (hw : 0 ≤ wt ∧ wt ≤ 2) (v : Int) (hv : v = jdra s t.toNat wt) : ∀ (m : Nat) (i : Nat) (c : Int) (h : jm_H), (i : Int) ≤ t → (wt = 0 → c = jdrc s i) → jG h 5 6 → jFr hp h [5, 6, 43, 44, 45, 46, 47, 48, 49, 50, 51, 52, 53, 54, 55] → t - i < m → jm_Ev 113 38 [jR 0, jI t, jI s, jI wt, jI (jsd s (12 * i)), jI c, jI (jdrn s i), jI (i : Int)] [] h (jxdr hp v) := by
  intro fu
  induction fu with
  | zero => intro i c h h1 hc hG hfr hm; omega
  | succ fu ih =>
    intro i c h h1 hc hG hfr hm
    refine jm_Ev.bl 2 (pc' := 41) (A' := [jR 0, jI t, jI s, jI wt, jI (jsd s (12 * i)), jI c, jI (jdrn s i), jI (i : Int)]) (st' := [jI t, jI (i : Int)]) (hp' := h) rfl ?_
    refine jE_icmp_ge rfl (by omega) (by omega) (fun c41 => ?_) (fun c41 => ?_)
    · refine jm_Ev.bl 1 (pc' := 98) (A' := [jR 0, jI t, jI s, jI wt, jI (jsd s (12 * i)), jI c, jI (jdrn s i), jI (i : Int)]) (st' := [jI wt]) (hp' := h) rfl ?_
      refine jE_if_ne rfl (by omega) (fun c98 => ?_) (fun c98 => ?_)
      · refine jm_Ev.bl 2 (pc' := 108) (A' := [jR 0, jI t, jI s, jI wt, jI (jsd s (12 * i)), jI c, jI (jdrn s i), jI (i : Int)]) (st' := [jI 1, jI wt]) (hp' := h) rfl ?_
        refine jE_icmp_ne rfl (by omega) (by omega) (fun c108 => ?_) (fun c108 => ?_)
        · refine jm_Ev.bl 1 (pc' := 118) (A' := [jR 0, jI t, jI s, jI wt, jI (jsd s (12 * i)), jI c, jI (jdrn s i), jI (i : Int)]) (st' := [jI (jsd s (12 * i))]) (hp' := h) rfl ?_
          exact jE_ret rfl ⟨jrI (by rw [hv, show t.toNat = i by omega]; unfold jdra; rw [if_neg c98, if_neg c108]), hG, hfr⟩
        · refine jm_Ev.bl 2 (pc' := 118) (A' := [jR 0, jI t, jI s, jI wt, jI (jsd s (12 * i)), jI c, jI (jdrn s i), jI (i : Int)]) (st' := [jI (jdrn s i)]) (hp' := h) rfl ?_
          exact jE_ret rfl ⟨jrI (by rw [hv, show t.toNat = i by omega]; unfold jdra; rw [if_neg c98, if_pos c108]), hG, hfr⟩
      · refine jm_Ev.bl 2 (pc' := 118) (A' := [jR 0, jI t, jI s, jI wt, jI (jsd s (12 * i)), jI c, jI (jdrn s i), jI (i : Int)]) (st' := [jI c]) (hp' := h) rfl ?_
        exact jE_ret rfl ⟨jrI (by rw [hv, hc c98, show t.toNat = i by omega]; unfold jdra; rw [if_pos c98]), hG, hfr⟩
    · refine jm_Ev.bl 3 (pc' := 50) (A' := [jR 0, jI t, jI s, jI wt, jI (jsd s (12 * i)), jI c, jI (jdrn s i), jI (i : Int)]) (st' := [jI (jsd s (12 * i)), jR 5]) (hp' := h) rfl ?_
      refine jE_call (vs := [jR 5, jI (jsd s (12 * i))]) (r := []) (nx := 53) rfl (c_x_drawInto h (jsd s (12 * i)) (jsd_r hs.1 hs.2 _)) (fun rv50 h1 hh => ?_)
      obtain ⟨rfl, a1, a2, a3, hG1, hf1⟩ := hh
      rw [jsd_a]
      have eK : jgk (h1 5 1) (h1 5 2) (h1 6) = jgk 4 3 (jdd (jsd s (12 * i))) := by rw [a1, a2]; exact jgk_cg (fun j j0 j1 => a3 j j0 (by omega))
      refine jm_Ev.bl 5 (pc' := 63) (A' := [jR 0, jI t, jI s, jI wt, jI (jsd s (12 * i + 12)), jI c, jI (jdrn s i), jI (i : Int)]) (st' := [jR 5, jR 43]) (hp' := h1) rfl ?_
      refine jE_call (vs := [jR 43, jR 5]) (r := []) (nx := 66) rfl (c_o_trace_43 h1 hG1) (fun rv63 h2 hh2 => ?_)
      obtain ⟨rfl, hO, hf2⟩ := hh2
      rw [eK] at hO
      have hG2 : jG h2 5 6 := by unfold jG; rw [hf2 5 (by simp), hf2 6 (by simp)]; exact hG1
      have hf4 : jFr hp h2 [5, 6, 43, 44, 45, 46, 47, 48, 49, 50, 51, 52, 53, 54, 55] := hfr.tr (hf1.tr hf2 (V := [5, 6, 43, 44, 45, 46, 47, 48, 49, 50, 51, 52, 53, 54, 55]) (by simp) (by simp)) (by simp) (by simp)
      refine jm_Ev.bl 4 (pc' := 75) (A' := [jR 0, jI t, jI s, jI wt, jI (jsd s (12 * i + 12)), jI c, jI (jdrn s i), jI (i : Int)]) (st' := [jI (h2 43 0), jI (jdrn s i)]) (hp' := h2) rfl ?_
      rw [show h2 43 0 = ((jdrO (jsd s (12 * i))).length : Int) from hO.1]
      refine jm_Ev.bl 3 (pc' := 79) (A' := [jR 0, jI t, jI s, jI wt, jI (jsd s (12 * i + 12)), jI c, jI ((jdrn s i) + ((jdrO (jsd s (12 * i))).length : Int)), jI (i : Int)]) (st' := [jI wt]) (hp' := h2) rfl ?_
      refine jE_if_ne rfl (by omega) (fun c79 => ?_) (fun c79 => ?_)
      · refine jm_Ev.bl 2 (pc' := 38) (A' := [jR 0, jI t, jI s, jI wt, jI (jsd s (12 * i + 12)), jI c, jI ((jdrn s i) + ((jdrO (jsd s (12 * i))).length : Int)), jI ((i : Int) + 1)]) (st' := []) (hp' := h2) rfl ?_
        have z := ih (i + 1) c h2 (by omega) (fun z => absurd z c79) hG2 hf4 (by omega)
        rw [show 12 * (i + 1) = 12 * i + 12 by omega, show ((i + 1 : Nat) : Int) = (i : Int) + 1 by omega] at z
        exact z
      · refine jm_Ev.bl 2 (pc' := 85) (A' := [jR 0, jI t, jI s, jI wt, jI (jsd s (12 * i + 12)), jI c, jI ((jdrn s i) + ((jdrO (jsd s (12 * i))).length : Int)), jI (i : Int)]) (st' := [jR 0, jI c]) (hp' := h2) rfl ?_
        refine jE_call (vs := [jR 0]) (r := [jI c]) (nx := 88) rfl (c_x_tried h2 _ _ (jK5_of (by omega) (by omega)) (jSc_inv (jK5_of (by omega) (by omega)) 144) hO) (fun rv85 h3 hh3 => ?_)
        obtain ⟨rfl, hf3⟩ := hh3
        have hG3 : jG h3 5 6 := by unfold jG; rw [hf3 5 (by simp), hf3 6 (by simp)]; exact hG2
        have hf5 : jFr hp h3 [5, 6, 43, 44, 45, 46, 47, 48, 49, 50, 51, 52, 53, 54, 55] := hf4.tr hf3 (by simp) (by simp)
        refine jm_Ev.bl 4 (pc' := 38) (A' := [jR 0, jI t, jI s, jI wt, jI (jsd s (12 * i + 12)), jI (c + (jcor 4 3 (jdd (jsd s (12 * i))))), jI ((jdrn s i) + ((jdrO (jsd s (12 * i))).length : Int)), jI ((i : Int) + 1)]) (st' := []) (hp' := h3) rfl ?_
        have z := ih (i + 1) (c + jcor 4 3 (jdd (jsd s (12 * i)))) h3 (by omega) (fun z => by rw [hc z]; rfl) hG3 hf5 (by omega)
        rw [show 12 * (i + 1) = 12 * i + 12 by omega, show ((i + 1 : Nat) : Int) = (i : Int) + 1 by omega] at z
        exact z
theorem c_x_drawn (hp : jm_H) (t s wt : Int) (ht : jR32 t) (hs : jR32 s) (hw : jR32 wt) (hG : jG hp 5 6) : jm_Ev 113 0 [jR 0, jI t, jI s, jI wt, jU, jU, jU, jU] [] hp (jxdr hp (jdrw t s wt)) := by
  refine jm_Ev.bl 2 (pc' := 2) (A' := [jR 0, jI t, jI s, jI wt, jU, jU, jU, jU]) (st' := [jI 1, jI t]) (hp' := hp) rfl ?_
  refine jE_icmp_lt rfl (by omega) (by omega) (fun c2 => ?_) (fun c2 => ?_)
  · refine jm_Ev.bl 1 (pc' := 25) (A' := [jR 0, jI t, jI s, jI wt, jU, jU, jU, jU]) (st' := [jI (-102)]) (hp' := hp) rfl ?_
    exact jE_ret rfl ⟨jrI (by unfold jdrw; rw [if_neg (fun z => by omega)]), hG, jFr.rf⟩
  · refine jm_Ev.bl 2 (pc' := 7) (A' := [jR 0, jI t, jI s, jI wt, jU, jU, jU, jU]) (st' := [jI 3, jI t]) (hp' := hp) rfl ?_
    refine jE_icmp_gt rfl (by omega) (by omega) (fun c7 => ?_) (fun c7 => ?_)
    · refine jm_Ev.bl 1 (pc' := 25) (A' := [jR 0, jI t, jI s, jI wt, jU, jU, jU, jU]) (st' := [jI (-102)]) (hp' := hp) rfl ?_
      exact jE_ret rfl ⟨jrI (by unfold jdrw; rw [if_neg (fun z => by omega)]), hG, jFr.rf⟩
    · refine jm_Ev.bl 1 (pc' := 11) (A' := [jR 0, jI t, jI s, jI wt, jU, jU, jU, jU]) (st' := [jI s]) (hp' := hp) rfl ?_
      refine jE_if_lt rfl (by omega) (fun c11 => ?_) (fun c11 => ?_)
      · refine jm_Ev.bl 1 (pc' := 25) (A' := [jR 0, jI t, jI s, jI wt, jU, jU, jU, jU]) (st' := [jI (-102)]) (hp' := hp) rfl ?_
        exact jE_ret rfl ⟨jrI (by unfold jdrw; rw [if_neg (fun z => by omega)]), hG, jFr.rf⟩
      · refine jm_Ev.bl 1 (pc' := 15) (A' := [jR 0, jI t, jI s, jI wt, jU, jU, jU, jU]) (st' := [jI wt]) (hp' := hp) rfl ?_
        refine jE_if_lt rfl (by omega) (fun c15 => ?_) (fun c15 => ?_)
        · refine jm_Ev.bl 1 (pc' := 25) (A' := [jR 0, jI t, jI s, jI wt, jU, jU, jU, jU]) (st' := [jI (-102)]) (hp' := hp) rfl ?_
          exact jE_ret rfl ⟨jrI (by unfold jdrw; rw [if_neg (fun z => by omega)]), hG, jFr.rf⟩
        · refine jm_Ev.bl 2 (pc' := 20) (A' := [jR 0, jI t, jI s, jI wt, jU, jU, jU, jU]) (st' := [jI 2, jI wt]) (hp' := hp) rfl ?_
          refine jE_icmp_le rfl (by omega) (by omega) (fun c20 => ?_) (fun c20 => ?_)
          · refine jm_Ev.bl 8 (pc' := 38) (A' := [jR 0, jI t, jI s, jI wt, jI s, jI 0, jI 0, jI 0]) (st' := []) (hp' := hp) rfl ?_
            exact c_x_drawn_L hp t s wt (by omega) (by omega) (by omega) _ (by unfold jdrw; rw [if_pos ⟨by omega, by omega, by omega, by omega, by omega⟩]) 4 0 0 hp (by omega) (fun _ => rfl) hG jFr.rf (by omega)
          · refine jm_Ev.bl 1 (pc' := 25) (A' := [jR 0, jI t, jI s, jI wt, jU, jU, jU, jU]) (st' := [jI (-102)]) (hp' := hp) rfl ?_
            exact jE_ret rfl ⟨jrI (by unfold jdrw; rw [if_neg (fun z => by omega)]), hG, jFr.rf⟩
