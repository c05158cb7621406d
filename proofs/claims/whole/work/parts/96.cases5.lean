/-! call by call: put, take, turn, mirror -/
def jnew2 (hp : jm_H) (nw nh : Int) (F : Int → Int → Int) : Option jm_V → jm_H → Prop := fun rv h => rv = none ∧ h 3 1 = nw ∧ h 3 2 = nh ∧ (∀ x y, 0 ≤ x → x < nw → 0 ≤ y → y < nh → h 4 (y * nw + x) = F x y) ∧ (∀ j, 0 ≤ j → j < 25 → -1 ≤ h 4 j ∧ h 4 j ≤ 4) ∧ jFr hp h [3, 4]
theorem c_g_turnFrom_M {Q : Option jm_V → jm_H → Prop} (hp : jm_H) (hG : jG hp 5 6) (k : ∀ h : jm_H, h 3 1 = (hp 5 2) → h 3 2 = (hp 5 1) → (∀ x y, 0 ≤ x → x < (hp 5 2) → 0 ≤ y → y < (hp 5 1) → h 4 (y * (hp 5 2) + x) = (fun x y => jgk (hp 5 1) (hp 5 2) (hp 6) y ((hp 5 2) - 1 - x)) x y) → (∀ j, 0 ≤ j → j < 25 → -1 ≤ h 4 j ∧ h 4 j ≤ 4) → jFr hp h [3, 4] → ∀ z, jm_Ev 37 69 [jR 3, jR 5, jI (hp 5 1), z] [] h Q) : ∀ (n : Nat) (y : Int) (z : jm_V) (h : jm_H), 0 ≤ y → y ≤ (hp 5 1) → h 3 1 = (hp 5 2) → h 3 2 = (hp 5 1) → (∀ j, 0 ≤ j → j < 25 → -1 ≤ h 4 j ∧ h 4 j ≤ 4) → jFr hp h [3, 4] → jdone h (hp 5 2) (fun x y => jgk (hp 5 1) (hp 5 2) (hp 6) y ((hp 5 2) - 1 - x)) 0 y → (hp 5 1) - y < n → jm_Ev 37 14 [jR 3, jR 5, jI y, z] [] h Q := by
  obtain ⟨gw0, gw5, gh0, gh5, gk⟩ := id hG
  intro n
  induction n with
  | zero => intro y z h hy0 hy1 e1 e2 hk hf hd hn; omega
  | succ n ih =>
    intro y z h hy0 hy1 e1 e2 hk hf hd hn
    refine jm_Ev.bl 3 (pc' := 19) (A' := [jR 3, jR 5, jI y, z]) (st' := [jI (h 3 2), jI y]) (hp' := h) rfl ?_
    refine jE_icmp_ge rfl (by omega) (by omega) (fun c19 => ?_) (fun c19 => ?_)
    · have ey : y = (hp 5 1) := by omega
      subst ey
      exact k h e1 e2 (fun x y a b c d => hd x y a b c (Or.inl d)) hk hf z
    · refine jm_Ev.bl 2 (pc' := 24) (A' := [jR 3, jR 5, jI y, jI 0]) (st' := []) (hp' := h) rfl ?_
      exact c_g_turnFrom_L2 hp hG y hy0 (by omega) (fun h a b c d e => (jm_Ev.bl 2 (pc' := 14) (A' := [jR 3, jR 5, jI (y + 1), jI (hp 5 2)]) (st' := []) (hp' := h) rfl (ih (y + 1) (jI (hp 5 2)) h (by omega) (by omega) a b c d e (by omega)))) 6 0 h (by omega) (by omega) e1 e2 hk hf hd (by omega)
theorem c_g_turnFrom2 (hp : jm_H) (hG : jG hp 5 6) : jm_Ev 37 0 [jR 3, jR 5, jU, jU] [] hp (jnew2 hp (hp 5 2) (hp 5 1) (fun x y => jgk (hp 5 1) (hp 5 2) (hp 6) y ((hp 5 2) - 1 - x))) := by
  obtain ⟨gw0, gw5, gh0, gh5, gk⟩ := id hG
  refine jm_Ev.bl 5 (pc' := 9) (A' := [jR 3, jR 5, jU, jU]) (st' := [jI (hp 5 1), jI (hp 5 2), jR 3]) (hp' := hp) rfl ?_
  refine jE_call (vs := [jR 3, jI (hp 5 2), jI (hp 5 1)]) (r := []) (nx := 12) rfl (c_g_clear_3 hp (hp 5 2) (hp 5 1)) (fun rv9 h hq => ?_)
  obtain ⟨rfl, a, b, c, d⟩ := hq
  refine jm_Ev.bl 2 (pc' := 14) (A' := [jR 3, jR 5, jI 0, jU]) (st' := []) (hp' := h) rfl ?_
  exact c_g_turnFrom_M hp hG (fun h a b c d e z => jE_ret rfl ⟨rfl, a, b, c, d, e⟩) 6 0 _ h (by omega) (by omega) a b (fun j u v => by rw [c j u v]; omega) d (fun x y a b c d => by omega) (by omega)
theorem c_g_mirrorFrom_M {Q : Option jm_V → jm_H → Prop} (hp : jm_H) (hG : jG hp 5 6) (k : ∀ h : jm_H, h 3 1 = (hp 5 1) → h 3 2 = (hp 5 2) → (∀ x y, 0 ≤ x → x < (hp 5 1) → 0 ≤ y → y < (hp 5 2) → h 4 (y * (hp 5 1) + x) = (fun x y => jgk (hp 5 1) (hp 5 2) (hp 6) ((hp 5 1) - 1 - x) y) x y) → (∀ j, 0 ≤ j → j < 25 → -1 ≤ h 4 j ∧ h 4 j ≤ 4) → jFr hp h [3, 4] → ∀ z, jm_Ev 38 69 [jR 3, jR 5, jI (hp 5 2), z] [] h Q) : ∀ (n : Nat) (y : Int) (z : jm_V) (h : jm_H), 0 ≤ y → y ≤ (hp 5 2) → h 3 1 = (hp 5 1) → h 3 2 = (hp 5 2) → (∀ j, 0 ≤ j → j < 25 → -1 ≤ h 4 j ∧ h 4 j ≤ 4) → jFr hp h [3, 4] → jdone h (hp 5 1) (fun x y => jgk (hp 5 1) (hp 5 2) (hp 6) ((hp 5 1) - 1 - x) y) 0 y → (hp 5 2) - y < n → jm_Ev 38 14 [jR 3, jR 5, jI y, z] [] h Q := by
  obtain ⟨gw0, gw5, gh0, gh5, gk⟩ := id hG
  intro n
  induction n with
  | zero => intro y z h hy0 hy1 e1 e2 hk hf hd hn; omega
  | succ n ih =>
    intro y z h hy0 hy1 e1 e2 hk hf hd hn
    refine jm_Ev.bl 3 (pc' := 19) (A' := [jR 3, jR 5, jI y, z]) (st' := [jI (h 3 2), jI y]) (hp' := h) rfl ?_
    refine jE_icmp_ge rfl (by omega) (by omega) (fun c19 => ?_) (fun c19 => ?_)
    · have ey : y = (hp 5 2) := by omega
      subst ey
      exact k h e1 e2 (fun x y a b c d => hd x y a b c (Or.inl d)) hk hf z
    · refine jm_Ev.bl 2 (pc' := 24) (A' := [jR 3, jR 5, jI y, jI 0]) (st' := []) (hp' := h) rfl ?_
      exact c_g_mirrorFrom_L2 hp hG y hy0 (by omega) (fun h a b c d e => (jm_Ev.bl 2 (pc' := 14) (A' := [jR 3, jR 5, jI (y + 1), jI (hp 5 1)]) (st' := []) (hp' := h) rfl (ih (y + 1) (jI (hp 5 1)) h (by omega) (by omega) a b c d e (by omega)))) 6 0 h (by omega) (by omega) e1 e2 hk hf hd (by omega)
theorem c_g_mirrorFrom2 (hp : jm_H) (hG : jG hp 5 6) : jm_Ev 38 0 [jR 3, jR 5, jU, jU] [] hp (jnew2 hp (hp 5 1) (hp 5 2) (fun x y => jgk (hp 5 1) (hp 5 2) (hp 6) ((hp 5 1) - 1 - x) y)) := by
  obtain ⟨gw0, gw5, gh0, gh5, gk⟩ := id hG
  refine jm_Ev.bl 5 (pc' := 9) (A' := [jR 3, jR 5, jU, jU]) (st' := [jI (hp 5 2), jI (hp 5 1), jR 3]) (hp' := hp) rfl ?_
  refine jE_call (vs := [jR 3, jI (hp 5 1), jI (hp 5 2)]) (r := []) (nx := 12) rfl (c_g_clear_3 hp (hp 5 1) (hp 5 2)) (fun rv9 h hq => ?_)
  obtain ⟨rfl, a, b, c, d⟩ := hq
  refine jm_Ev.bl 2 (pc' := 14) (A' := [jR 3, jR 5, jI 0, jU]) (st' := []) (hp' := h) rfl ?_
  exact c_g_mirrorFrom_M hp hG (fun h a b c d e z => jE_ret rfl ⟨rfl, a, b, c, d, e⟩) 6 0 _ h (by omega) (by omega) a b (fun j u v => by rw [c j u v]; omega) d (fun x y a b c d => by omega) (by omega)
theorem jRR_0 {h : jm_H} (a : ∀ k, 0 ≤ k → k < 5 → h 19 k = 0) (b : ∀ j, 0 ≤ j → j < 15 → h 74 j = -1) : jRR h := by
  refine ⟨fun j j0 j1 => by rw [a j j0 j1]; omega, fun x y x0 x1 y0 y1 => ?_⟩
  rw [a x x0 x1, b (3 * x + y) (by omega) (by omega), if_neg (by omega)]
  exact ⟨rfl, fun z => by omega⟩
theorem jcnt_wd {d : Int → Int} {p : Int} (p0 : 0 ≤ p) (hd : d p ≠ -1) : ∀ n : Nat, jcnt (jwd d p) n = jcnt d n - (if p < (n : Int) then 1 else 0) := by
  intro n
  induction n with
  | zero => unfold jcnt; rw [if_neg (by omega)]; rfl
  | succ n ih =>
    unfold jcnt
    rw [ih]
    by_cases e : (n : Int) = p
    · have e1 : jwd d p (n : Int) = -1 := by unfold jwd; rw [if_pos e]
      rw [e1, if_pos rfl, e, if_neg hd, if_neg (by omega), if_pos (by omega)]
      omega
    · have e1 : jwd d p (n : Int) = d (n : Int) := by unfold jwd; rw [if_neg e]
      rw [e1]
      by_cases f : p < (n : Int)
      · rw [if_pos f, if_pos (show p < ((n + 1 : Nat) : Int) by omega)]; omega
      · rw [if_neg f, if_neg (show ¬ p < ((n + 1 : Nat) : Int) by omega)]; omega
theorem k_put (xs ls : Int → Int) (n : Int) (hp : jm_H) (hR : jREL xs ls n hp) (hn : n ≤ 1000000) (p w : Int) (hp32 : jR32 p) (hw : jR32 w) : jm_Ev 104 0 [jR 0, jI p, jI w] [] hp (jSam 190 [jR 56, jI p, jI w] xs ls n) := by
  obtain ⟨rP, rD, rC, rS, rR, rK, r5, rL, rM, rX⟩ := id hR
  have wh := jwh rD.1
  have e67 : hp 56 6 * hp 56 7 = hp 3 1 * hp 3 2 := by rw [rD.2.1, rD.2.2.1]
  refine jm_Ev.bl 3 (pc' := 5) (A' := [jR 0, jI p, jI w]) (st' := [jI p, jR 3]) (hp' := hp) rfl ?_
  refine jE_callI (vs := [jR 3, jI p]) (r := []) (nx := 8) (v := jI (jb (decide (0 ≤ p ∧ p < hp 3 1 * hp 3 2)))) (hp1 := hp) rfl (c_g_has_3 hp rD.1 p hp32) ?_
  refine jE_ifd_ne rfl (fun c8 => ?_) (fun c8 => ?_)
  · refine jm_Ev.bl 1 (pc' := 15) (A' := [jR 0, jI p, jI w]) (st' := [jI w]) (hp' := hp) rfl ?_
    refine jE_callI (vs := [jI w]) (r := []) (nx := 18) (v := jI (jb (decide (0 ≤ w ∧ w < 5)))) (hp1 := hp) rfl (c_isKind hp w hw) ?_
    refine jE_ifd_ne rfl (fun c18 => ?_) (fun c18 => ?_)
    · refine jm_Ev.bl 4 (pc' := 30) (A' := [jR 0, jI p, jI w]) (st' := [jI w, jI p, jR 3]) (hp' := hp) rfl ?_
      refine jE_callV (vs := [jR 3, jI p, jI w]) (r := []) (nx := 33) (hp1 := (jm_hs hp 4 p w)) rfl (c_g_set_3 hp rD.1 p w (by omega) (by omega)) ?_
      refine jm_Ev.bl 1 (pc' := 34) (A' := [jR 0, jI p, jI w]) (st' := [jR 0]) (hp' := (jm_hs hp 4 p w)) rfl ?_
      refine jE_call (vs := [jR 0]) (r := []) (nx := 37) rfl (c_x_dotsChanged (jm_hs hp 4 p w) ⟨rD.1.1, rD.1.2.1, rD.1.2.2.1, rD.1.2.2.2.1, jhs_in rD.1.2.2.2.2 ⟨by omega, by omega⟩⟩) (fun rv34 h1 hh => ?_)
      obtain ⟨rfl, h19, hC1, hf1⟩ := hh
      refine jm_Ev.bl 3 (pc' := 44) (A' := [jR 0, jI p, jI w]) (st' := [jI (h1 20 0)]) (hp' := h1) rfl ?_
      have hf1q : jFq hp h1 [4, 19, 20, 21, 22, 23, 24, 25, 26, 27, 28, 29, 30, 31, 34, 35] [] := ((jFr.rf.set (k := 4) (j := p) (v := w) (S := [4]) (by simp)).tr hf1 (V := [4, 19, 20, 21, 22, 23, 24, 25, 26, 27, 28, 29, 30, 31, 34, 35]) (by simp) (by simp)).q
      have rM1 : jMC h1 := jMC_fr rM hf1q (by intro q hq z; simp at z <;> omega) (by simp)
      have e58 : h1 58 = hp 58 := hf1q.pl 58 (by simp) (by simp)
      have f6 : h1 56 6 = hp 56 6 := hf1q.fd 6 (by simp) (by simp)
      have f7 : h1 56 7 = hp 56 7 := hf1q.fd 7 (by simp) (by simp)
      have hM2 : jMG (jm_hs h1 58 p w) := ⟨rM1.1.1, rM1.1.2.1, rM1.1.2.2.1, rM1.1.2.2.2.1, jhs_in rM1.1.2.2.2.2 ⟨by omega, by omega⟩⟩
      have eK : jmK (jm_hs h1 58 p w) = jK0 (jm_hs hp 4 p w) := by
        unfold jmK jK0
        rw [show (jm_hs h1 58 p w) 56 6 = hp 3 1 from f6.trans rD.2.1, show (jm_hs h1 58 p w) 56 7 = hp 3 2 from f7.trans rD.2.2.1, show (jm_hs hp 4 p w) 3 = hp 3 from rfl]
        refine jgk_cg (fun j j0 j1 => ?_)
        rw [js_hs_eq, js_hs_eq, e58]
        split
        · rfl
        · exact rD.2.2.2.1 j j0 j1
      have eO : jmO (jm_hs h1 58 p w) = jO0 (jm_hs hp 4 p w) := by unfold jmO jO0; rw [eK]
      have l15 := jInv_15 hC1.1 hC1.2.1
      have e20 := hC1.2.2.1.1
      have e671 : h1 56 6 * h1 56 7 = hp 3 1 * hp 3 2 := by rw [f6, f7]; exact e67
      refine jE_ret rfl ⟨_, rfl, ⟨by omega, by omega⟩, ⟨(hf1q.pl 82 (by simp) (by simp)).trans rX.1, (hf1q.pl 85 (by simp) (by simp)).trans rX.2⟩, ?_⟩
      show jm_Ev 190 0 [jR 56, jI p, jI w] [] h1 _
      refine jm_Ev.bl 2 (pc' := 2) (A' := [jR 56, jI p, jI w]) (st' := [jI p, jR 56]) (hp' := h1) rfl ?_
      refine jE_callI (vs := [jR 56, jI p]) (r := []) (nx := 5) (v := jI (jb (decide (0 ≤ p ∧ p < hp 3 1 * hp 3 2)))) (hp1 := h1) rfl (e671 ▸ c_m_isPlace h1 rM1.1 p hp32) ?_
      refine jE_ifd_ne rfl (fun m5 => ?_) (fun m5 => ?_)
      · refine jm_Ev.bl 1 (pc' := 12) (A' := [jR 56, jI p, jI w]) (st' := [jI w]) (hp' := h1) rfl ?_
        refine jE_i2l rfl (by omega) ?_
        refine jm_Ev.bl 2 (pc' := 17) (A' := [jR 56, jI p, jI w]) (st' := [jL 4, jL 0, jL w]) (hp' := h1) rfl ?_
        refine jE_callI (vs := [jL w, jL 0, jL 4]) (r := []) (nx := 20) (v := jI (jb (decide (0 ≤ w ∧ w ≤ 4)))) (hp1 := h1) rfl (c_m_in h1 w 0 4 (by omega) (by omega) (by omega)) ?_
        refine jE_ifd_ne rfl (fun m20 => ?_) (fun m20 => ?_)
        · refine jm_Ev.bl 4 (pc' := 32) (A' := [jR 56, jI p, jI w]) (st' := [jI w, jI p, jR 58]) (hp' := h1) rfl ?_
          refine jE_iast (n := 25) rfl rfl (by omega) ?_
          refine jm_Ev.bl 1 (pc' := 34) (A' := [jR 56, jI p, jI w]) (st' := [jR 56]) (hp' := (jm_hs h1 58 p w)) rfl ?_
          refine jE_call (vs := [jR 56]) (r := []) (nx := 37) rfl (c_m_outlinesNow (jm_hs h1 58 p w) hM2) (fun rv34 h2 hh2 => ?_)
          obtain ⟨rfl, g74, hM3, hf2⟩ := hh2
          have hz : jFq hp h2 [4, 19, 20, 21, 22, 23, 24, 25, 26, 27, 28, 29, 30, 31, 34, 35, 58, 74, 59, 60, 61, 62, 63, 64, 65, 66, 67, 68, 69, 70, 71, 72] [10, 11, 26] := (hf1q.wk (V := [4, 19, 20, 21, 22, 23, 24, 25, 26, 27, 28, 29, 30, 31, 34, 35, 58, 74, 59, 60, 61, 62, 63, 64, 65, 66, 67, 68, 69, 70, 71, 72]) (E := [10, 11, 26]) (by simp) (by simp)).tr ((jFq.rf.set (k := 58) (j := p) (v := w) (S := [58]) (F := []) (by simp)).tr hf2 (V := [4, 19, 20, 21, 22, 23, 24, 25, 26, 27, 28, 29, 30, 31, 34, 35, 58, 74, 59, 60, 61, 62, 63, 64, 65, 66, 67, 68, 69, 70, 71, 72]) (E := [10, 11, 26]) (by simp) (by simp) (by simp) (by simp)) (by simp) (by simp) (by simp) (by simp)
          have g58 : h2 58 = (jm_hs h1 58 p w) 58 := hf2.pl 58 (by simp) (by simp)
          have g4 : h2 4 = (jm_hs hp 4 p w) 4 := (hf2.pl 4 (by simp) (by simp)).trans (hf1 4 (by simp))
          have g3 : h2 3 = hp 3 := hz.pl 3 (by simp) (by simp)
          have hD : jRD h2 := by
            refine ⟨?_, ?_, ?_, ?_, ?_, ?_⟩
            · unfold jG; rw [g3, g4]; exact ⟨rD.1.1, rD.1.2.1, rD.1.2.2.1, rD.1.2.2.2.1, jhs_in rD.1.2.2.2.2 ⟨by omega, by omega⟩⟩
            · rw [g3, hz.fd 6 (by simp) (by simp)]; exact rD.2.1
            · rw [g3, hz.fd 7 (by simp) (by simp)]; exact rD.2.2.1
            · rw [g3]
              intro j j0 j1
              rw [g58, g4, js_hs_eq, js_hs_eq, e58]
              split
              · rfl
              · exact rD.2.2.2.1 j j0 j1
            · rw [g3]; exact rD.2.2.2.2.1
            · rw [g3, g4]; intro _; exact (jcnt_pos _).mpr ⟨p, by omega, by omega, by rw [js_hs_eq, if_pos rfl]; omega⟩
          have hL : jRL h2 := by
            have k0 : jK0 h2 = jK0 (jm_hs hp 4 p w) := by unfold jK0; rw [g3, g4]; rfl
            have k1 : jO0 h2 = jO0 (jm_hs hp 4 p w) := by unfold jO0; rw [k0]
            unfold jRL
            rw [k0, k1]
            exact jCl_m hC1 ((jFq.rf.set (k := 58) (j := p) (v := w) (S := [58]) (F := []) (by simp)).tr hf2 (V := [58, 74, 59, 60, 61, 62, 63, 64, 65, 66, 67, 68, 69, 70, 71, 72]) (E := [10, 11, 26]) (by simp) (by simp) (by simp) (by simp)) (by intro q hq z; simp at z <;> omega)
          have hRR : jRR h2 := jRR_0 (fun k a b => by rw [show h2 19 = h1 19 from hf2.pl 19 (by simp) (by simp)]; exact h19 k a b) g74
          exact jE_ret rfl ⟨jrI (by rw [eO]; exact hC1.2.2.1.1.symm), ⟨jRP_fr rP hz (by simp) (by simp), hD, jRC_fr (show n ≤ n + 1 by omega) rC hz (by simp) (by simp), jRS_fr rS hz (by simp) (by simp), hRR, jRK_fr rK hz (by simp) (by simp), jR5_fr r5 hz (by simp), hL, hM3, jRX_fr rX hz (by simp)⟩⟩
        · refine jm_Ev.bl 1 (pc' := 25) (A' := [jR 56, jI p, jI w]) (st' := [jI (-102)]) (hp' := h1) rfl ?_
          omega
      · refine jm_Ev.bl 1 (pc' := 10) (A' := [jR 56, jI p, jI w]) (st' := [jI (-101)]) (hp' := h1) rfl ?_
        exact absurd c8 m5
    · refine jm_Ev.bl 1 (pc' := 23) (A' := [jR 0, jI p, jI w]) (st' := [jI (-102)]) (hp' := hp) rfl ?_
      refine jE_ret rfl ⟨_, rfl, by omega, rX, ?_⟩
      show jm_Ev 190 0 [jR 56, jI p, jI w] [] hp _
      refine jm_Ev.bl 2 (pc' := 2) (A' := [jR 56, jI p, jI w]) (st' := [jI p, jR 56]) (hp' := hp) rfl ?_
      refine jE_callI (vs := [jR 56, jI p]) (r := []) (nx := 5) (v := jI (jb (decide (0 ≤ p ∧ p < hp 3 1 * hp 3 2)))) (hp1 := hp) rfl (e67 ▸ c_m_isPlace hp rM.1 p hp32) ?_
      refine jE_ifd_ne rfl (fun m5 => ?_) (fun m5 => ?_)
      · refine jm_Ev.bl 1 (pc' := 12) (A' := [jR 56, jI p, jI w]) (st' := [jI w]) (hp' := hp) rfl ?_
        refine jE_i2l rfl (by omega) ?_
        refine jm_Ev.bl 2 (pc' := 17) (A' := [jR 56, jI p, jI w]) (st' := [jL 4, jL 0, jL w]) (hp' := hp) rfl ?_
        refine jE_callI (vs := [jL w, jL 0, jL 4]) (r := []) (nx := 20) (v := jI (jb (decide (0 ≤ w ∧ w ≤ 4)))) (hp1 := hp) rfl (c_m_in hp w 0 4 (by omega) (by omega) (by omega)) ?_
        refine jE_ifd_ne rfl (fun m20 => ?_) (fun m20 => ?_)
        · omega
        · refine jm_Ev.bl 1 (pc' := 25) (A' := [jR 56, jI p, jI w]) (st' := [jI (-102)]) (hp' := hp) rfl ?_
          exact jE_ret rfl ⟨rfl, ⟨jRP_fr rP (jFq.rf (S := []) (F := [])) (by simp) (by simp), jRD_fr rD (jFq.rf (S := []) (F := [])) (by simp) (by simp), jRC_fr (show n ≤ n + 1 by omega) rC (jFq.rf (S := []) (F := [])) (by simp) (by simp), jRS_fr rS (jFq.rf (S := []) (F := [])) (by simp) (by simp), jRR_fr rR (jFq.rf (S := []) (F := [])) (by simp), jRK_fr rK (jFq.rf (S := []) (F := [])) (by simp) (by simp), jR5_fr r5 (jFq.rf (S := []) (F := [])) (by simp), jRL_fr rL (jFq.rf (S := []) (F := [])) (by intro q hq z; simp at z <;> omega), jMC_fr rM (jFq.rf (S := []) (F := [])) (by intro q hq z; simp at z <;> omega) (by simp), jRX_fr rX (jFq.rf (S := []) (F := [])) (by simp)⟩⟩
      · refine jm_Ev.bl 1 (pc' := 10) (A' := [jR 56, jI p, jI w]) (st' := [jI (-101)]) (hp' := hp) rfl ?_
        exact absurd c8 m5
  · refine jm_Ev.bl 1 (pc' := 13) (A' := [jR 0, jI p, jI w]) (st' := [jI (-101)]) (hp' := hp) rfl ?_
    refine jE_ret rfl ⟨_, rfl, by omega, rX, ?_⟩
    show jm_Ev 190 0 [jR 56, jI p, jI w] [] hp _
    refine jm_Ev.bl 2 (pc' := 2) (A' := [jR 56, jI p, jI w]) (st' := [jI p, jR 56]) (hp' := hp) rfl ?_
    refine jE_callI (vs := [jR 56, jI p]) (r := []) (nx := 5) (v := jI (jb (decide (0 ≤ p ∧ p < hp 3 1 * hp 3 2)))) (hp1 := hp) rfl (e67 ▸ c_m_isPlace hp rM.1 p hp32) ?_
    refine jE_ifd_ne rfl (fun m5 => ?_) (fun m5 => ?_)
    · refine jm_Ev.bl 1 (pc' := 12) (A' := [jR 56, jI p, jI w]) (st' := [jI w]) (hp' := hp) rfl ?_
      refine jE_i2l rfl (by omega) ?_
      refine jm_Ev.bl 2 (pc' := 17) (A' := [jR 56, jI p, jI w]) (st' := [jL 4, jL 0, jL w]) (hp' := hp) rfl ?_
      refine jE_callI (vs := [jL w, jL 0, jL 4]) (r := []) (nx := 20) (v := jI (jb (decide (0 ≤ w ∧ w ≤ 4)))) (hp1 := hp) rfl (c_m_in hp w 0 4 (by omega) (by omega) (by omega)) ?_
      refine jE_ifd_ne rfl (fun m20 => ?_) (fun m20 => ?_)
      · exact absurd m5 c8
      · refine jm_Ev.bl 1 (pc' := 25) (A' := [jR 56, jI p, jI w]) (st' := [jI (-102)]) (hp' := hp) rfl ?_
        exact absurd m5 c8
    · refine jm_Ev.bl 1 (pc' := 10) (A' := [jR 56, jI p, jI w]) (st' := [jI (-101)]) (hp' := hp) rfl ?_
      exact jE_ret rfl ⟨rfl, ⟨jRP_fr rP (jFq.rf (S := []) (F := [])) (by simp) (by simp), jRD_fr rD (jFq.rf (S := []) (F := [])) (by simp) (by simp), jRC_fr (show n ≤ n + 1 by omega) rC (jFq.rf (S := []) (F := [])) (by simp) (by simp), jRS_fr rS (jFq.rf (S := []) (F := [])) (by simp) (by simp), jRR_fr rR (jFq.rf (S := []) (F := [])) (by simp), jRK_fr rK (jFq.rf (S := []) (F := [])) (by simp) (by simp), jR5_fr r5 (jFq.rf (S := []) (F := [])) (by simp), jRL_fr rL (jFq.rf (S := []) (F := [])) (by intro q hq z; simp at z <;> omega), jMC_fr rM (jFq.rf (S := []) (F := [])) (by intro q hq z; simp at z <;> omega) (by simp), jRX_fr rX (jFq.rf (S := []) (F := [])) (by simp)⟩⟩
theorem k_take (xs ls : Int → Int) (n : Int) (hp : jm_H) (hR : jREL xs ls n hp) (hn : n ≤ 1000000) (p : Int) (hp32 : jR32 p) : jm_Ev 105 0 [jR 0, jI p] [] hp (jSam 191 [jR 56, jI p] xs ls n) := by
  obtain ⟨rP, rD, rC, rS, rR, rK, r5, rL, rM, rX⟩ := id hR
  have wh := jwh rD.1
  have e67 : hp 56 6 * hp 56 7 = hp 3 1 * hp 3 2 := by rw [rD.2.1, rD.2.2.1]
  have gr : jR32 (jgp (hp 3 1) (hp 3 2) (hp 4) p) := by
    unfold jgp
    split
    · rename_i z; have := rD.1.2.2.2.2 p z.1 (by omega); exact ⟨by omega, by omega⟩
    · exact ⟨by omega, by omega⟩
  have ghd : (jgp (hp 3 1) (hp 3 2) (hp 4) p) ≠ -1 ↔ ((0 ≤ p ∧ p < hp 3 1 * hp 3 2) ∧ hp 58 p ≠ -1) := by
    unfold jgp
    constructor
    · intro z
      split at z
      · rename_i y; exact ⟨y, by rw [rD.2.2.2.1 p y.1 y.2]; exact z⟩
      · exact absurd rfl z
    · intro z
      rw [if_pos z.1, ← rD.2.2.2.1 p z.1.1 z.1.2]
      exact z.2
  have eC : jcnt (hp 58) (hp 56 6 * hp 56 7).toNat = (jcnt (hp 4) (hp 3 1 * hp 3 2).toNat) := by rw [e67]; exact jcnt_cg _ (fun j a b => rD.2.2.2.1 j a (by omega))
  have ccr := jcnt_r (hp 4) (hp 3 1 * hp 3 2).toNat
  refine jm_Ev.bl 3 (pc' := 5) (A' := [jR 0, jI p]) (st' := [jI p, jR 3]) (hp' := hp) rfl ?_
  refine jE_callI (vs := [jR 3, jI p]) (r := []) (nx := 8) (v := jI (jgp (hp 3 1) (hp 3 2) (hp 4) p)) (hp1 := hp) rfl (c_g_kindAt_3 hp rD.1 p hp32) ?_
  refine jm_Ev.bl 1 (pc' := 9) (A' := [jR 0, jI p]) (st' := [jI (-1), jI (jgp (hp 3 1) (hp 3 2) (hp 4) p)]) (hp' := hp) rfl ?_
  refine jE_icmp_ne rfl (by omega) (by omega) (fun c9 => ?_) (fun c9 => ?_)
  · refine jm_Ev.bl 2 (pc' := 19) (A' := [jR 0, jI p]) (st' := [jR 3]) (hp' := hp) rfl ?_
    refine jE_callI (vs := [jR 3]) (r := []) (nx := 22) (v := jI (jcnt (hp 4) (hp 3 1 * hp 3 2).toNat)) (hp1 := hp) rfl (c_g_dots_3 hp rD.1) ?_
    refine jm_Ev.bl 1 (pc' := 23) (A' := [jR 0, jI p]) (st' := [jI 1, jI (jcnt (hp 4) (hp 3 1 * hp 3 2).toNat)]) (hp' := hp) rfl ?_
    refine jE_icmp_ne rfl (by omega) (by omega) (fun c23 => ?_) (fun c23 => ?_)
    · refine jm_Ev.bl 4 (pc' := 35) (A' := [jR 0, jI p]) (st' := [jI (-1), jI p, jR 3]) (hp' := hp) rfl ?_
      refine jE_callV (vs := [jR 3, jI p, jI (-1)]) (r := []) (nx := 38) (hp1 := (jm_hs hp 4 p (-1))) rfl (c_g_set_3 hp rD.1 p (-1) (ghd.mp c9).1.1 (ghd.mp c9).1.2) ?_
      refine jm_Ev.bl 1 (pc' := 39) (A' := [jR 0, jI p]) (st' := [jR 0]) (hp' := (jm_hs hp 4 p (-1))) rfl ?_
      refine jE_call (vs := [jR 0]) (r := []) (nx := 42) rfl (c_x_dotsChanged (jm_hs hp 4 p (-1)) ⟨rD.1.1, rD.1.2.1, rD.1.2.2.1, rD.1.2.2.2.1, jhs_in rD.1.2.2.2.2 ⟨by omega, by omega⟩⟩) (fun rv39 h1 hh => ?_)
      obtain ⟨rfl, h19, hC1, hf1⟩ := hh
      refine jm_Ev.bl 3 (pc' := 49) (A' := [jR 0, jI p]) (st' := [jI (h1 20 0)]) (hp' := h1) rfl ?_
      have hf1q : jFq hp h1 [4, 19, 20, 21, 22, 23, 24, 25, 26, 27, 28, 29, 30, 31, 34, 35] [] := ((jFr.rf.set (k := 4) (j := p) (v := (-1)) (S := [4]) (by simp)).tr hf1 (V := [4, 19, 20, 21, 22, 23, 24, 25, 26, 27, 28, 29, 30, 31, 34, 35]) (by simp) (by simp)).q
      have rM1 : jMC h1 := jMC_fr rM hf1q (by intro q hq z; simp at z <;> omega) (by simp)
      have e58 : h1 58 = hp 58 := hf1q.pl 58 (by simp) (by simp)
      have f6 : h1 56 6 = hp 56 6 := hf1q.fd 6 (by simp) (by simp)
      have f7 : h1 56 7 = hp 56 7 := hf1q.fd 7 (by simp) (by simp)
      have hM2 : jMG (jm_hs h1 58 p (-1)) := ⟨rM1.1.1, rM1.1.2.1, rM1.1.2.2.1, rM1.1.2.2.2.1, jhs_in rM1.1.2.2.2.2 ⟨by omega, by omega⟩⟩
      have eK : jmK (jm_hs h1 58 p (-1)) = jK0 (jm_hs hp 4 p (-1)) := by
        unfold jmK jK0
        rw [show (jm_hs h1 58 p (-1)) 56 6 = hp 3 1 from f6.trans rD.2.1, show (jm_hs h1 58 p (-1)) 56 7 = hp 3 2 from f7.trans rD.2.2.1, show (jm_hs hp 4 p (-1)) 3 = hp 3 from rfl]
        refine jgk_cg (fun j j0 j1 => ?_)
        rw [js_hs_eq, js_hs_eq, e58]
        split
        · rfl
        · exact rD.2.2.2.1 j j0 j1
      have eO : jmO (jm_hs h1 58 p (-1)) = jO0 (jm_hs hp 4 p (-1)) := by unfold jmO jO0; rw [eK]
      have l15 := jInv_15 hC1.1 hC1.2.1
      have e20 := hC1.2.2.1.1
      have e671 : h1 56 6 * h1 56 7 = hp 3 1 * hp 3 2 := by rw [f6, f7]; exact e67
      have eC1 : jcnt (h1 58) (h1 56 6 * h1 56 7).toNat = (jcnt (hp 4) (hp 3 1 * hp 3 2).toNat) := by rw [f6, f7, e58]; exact eC
      refine jE_ret rfl ⟨_, rfl, ⟨by omega, by omega⟩, ⟨(hf1q.pl 82 (by simp) (by simp)).trans rX.1, (hf1q.pl 85 (by simp) (by simp)).trans rX.2⟩, ?_⟩
      show jm_Ev 191 0 [jR 56, jI p] [] h1 _
      refine jm_Ev.bl 2 (pc' := 2) (A' := [jR 56, jI p]) (st' := [jI p, jR 56]) (hp' := h1) rfl ?_
      refine jE_callI (vs := [jR 56, jI p]) (r := []) (nx := 5) (v := jI (jb (decide ((0 ≤ p ∧ p < hp 3 1 * hp 3 2) ∧ hp 58 p ≠ -1)))) (hp1 := h1) rfl (e58 ▸ e671 ▸ c_m_hasDot h1 rM1.1 p hp32) ?_
      refine jE_ifd_ne rfl (fun m5 => ?_) (fun m5 => ?_)
      · refine jm_Ev.bl 1 (pc' := 12) (A' := [jR 56, jI p]) (st' := [jR 56]) (hp' := h1) rfl ?_
        refine jE_callI (vs := [jR 56]) (r := []) (nx := 15) (v := jI (jcnt (hp 4) (hp 3 1 * hp 3 2).toNat)) (hp1 := h1) rfl (eC1 ▸ c_m_dotMany h1 rM1.1) ?_
        refine jm_Ev.bl 1 (pc' := 16) (A' := [jR 56, jI p]) (st' := [jI 1, jI (jcnt (hp 4) (hp 3 1 * hp 3 2).toNat)]) (hp' := h1) rfl ?_
        refine jE_icmp_ne rfl (by omega) (by omega) (fun m16 => ?_) (fun m16 => ?_)
        · refine jm_Ev.bl 4 (pc' := 28) (A' := [jR 56, jI p]) (st' := [jI (-1), jI p, jR 58]) (hp' := h1) rfl ?_
          refine jE_iast (n := 25) rfl rfl (by omega) ?_
          refine jm_Ev.bl 1 (pc' := 30) (A' := [jR 56, jI p]) (st' := [jR 56]) (hp' := (jm_hs h1 58 p (-1))) rfl ?_
          refine jE_call (vs := [jR 56]) (r := []) (nx := 33) rfl (c_m_outlinesNow (jm_hs h1 58 p (-1)) hM2) (fun rv30 h2 hh2 => ?_)
          obtain ⟨rfl, g74, hM3, hf2⟩ := hh2
          have hz : jFq hp h2 [4, 19, 20, 21, 22, 23, 24, 25, 26, 27, 28, 29, 30, 31, 34, 35, 58, 74, 59, 60, 61, 62, 63, 64, 65, 66, 67, 68, 69, 70, 71, 72] [10, 11, 26] := (hf1q.wk (V := [4, 19, 20, 21, 22, 23, 24, 25, 26, 27, 28, 29, 30, 31, 34, 35, 58, 74, 59, 60, 61, 62, 63, 64, 65, 66, 67, 68, 69, 70, 71, 72]) (E := [10, 11, 26]) (by simp) (by simp)).tr ((jFq.rf.set (k := 58) (j := p) (v := (-1)) (S := [58]) (F := []) (by simp)).tr hf2 (V := [4, 19, 20, 21, 22, 23, 24, 25, 26, 27, 28, 29, 30, 31, 34, 35, 58, 74, 59, 60, 61, 62, 63, 64, 65, 66, 67, 68, 69, 70, 71, 72]) (E := [10, 11, 26]) (by simp) (by simp) (by simp) (by simp)) (by simp) (by simp) (by simp) (by simp)
          have g58 : h2 58 = (jm_hs h1 58 p (-1)) 58 := hf2.pl 58 (by simp) (by simp)
          have g4 : h2 4 = (jm_hs hp 4 p (-1)) 4 := (hf2.pl 4 (by simp) (by simp)).trans (hf1 4 (by simp))
          have g3 : h2 3 = hp 3 := hz.pl 3 (by simp) (by simp)
          have hD : jRD h2 := by
            refine ⟨?_, ?_, ?_, ?_, ?_, ?_⟩
            · unfold jG; rw [g3, g4]; exact ⟨rD.1.1, rD.1.2.1, rD.1.2.2.1, rD.1.2.2.2.1, jhs_in rD.1.2.2.2.2 ⟨by omega, by omega⟩⟩
            · rw [g3, hz.fd 6 (by simp) (by simp)]; exact rD.2.1
            · rw [g3, hz.fd 7 (by simp) (by simp)]; exact rD.2.2.1
            · rw [g3]
              intro j j0 j1
              rw [g58, g4, js_hs_eq, js_hs_eq, e58]
              split
              · rfl
              · exact rD.2.2.2.1 j j0 j1
            · rw [g3]; exact rD.2.2.2.2.1
            · rw [g3, g4]; intro _; have cw := jcnt_wd (d := hp 4) (p := p) (by omega) (by rw [← rD.2.2.2.1 p m5.1.1 m5.1.2]; exact m5.2) (hp 3 1 * hp 3 2).toNat
              rw [show (jm_hs hp 4 p (-1) 4) = jwd (hp 4) p from funext (fun j => js_hs_eq), cw]
              have := rD.2.2.2.2.2 (fun z => by rw [z, Int.zero_mul] at wh m5; omega)
              split <;> omega
          have hL : jRL h2 := by
            have k0 : jK0 h2 = jK0 (jm_hs hp 4 p (-1)) := by unfold jK0; rw [g3, g4]; rfl
            have k1 : jO0 h2 = jO0 (jm_hs hp 4 p (-1)) := by unfold jO0; rw [k0]
            unfold jRL
            rw [k0, k1]
            exact jCl_m hC1 ((jFq.rf.set (k := 58) (j := p) (v := (-1)) (S := [58]) (F := []) (by simp)).tr hf2 (V := [58, 74, 59, 60, 61, 62, 63, 64, 65, 66, 67, 68, 69, 70, 71, 72]) (E := [10, 11, 26]) (by simp) (by simp) (by simp) (by simp)) (by intro q hq z; simp at z <;> omega)
          have hRR : jRR h2 := jRR_0 (fun k a b => by rw [show h2 19 = h1 19 from hf2.pl 19 (by simp) (by simp)]; exact h19 k a b) g74
          exact jE_ret rfl ⟨jrI (by rw [eO]; exact hC1.2.2.1.1.symm), ⟨jRP_fr rP hz (by simp) (by simp), hD, jRC_fr (show n ≤ n + 1 by omega) rC hz (by simp) (by simp), jRS_fr rS hz (by simp) (by simp), hRR, jRK_fr rK hz (by simp) (by simp), jR5_fr r5 hz (by simp), hL, hM3, jRX_fr rX hz (by simp)⟩⟩
        · refine jm_Ev.bl 1 (pc' := 21) (A' := [jR 56, jI p]) (st' := [jI (-103)]) (hp' := h1) rfl ?_
          omega
      · refine jm_Ev.bl 1 (pc' := 10) (A' := [jR 56, jI p]) (st' := [jI (-101)]) (hp' := h1) rfl ?_
        exact absurd (ghd.mp c9) m5
    · refine jm_Ev.bl 1 (pc' := 28) (A' := [jR 0, jI p]) (st' := [jI (-103)]) (hp' := hp) rfl ?_
      refine jE_ret rfl ⟨_, rfl, by omega, rX, ?_⟩
      show jm_Ev 191 0 [jR 56, jI p] [] hp _
      refine jm_Ev.bl 2 (pc' := 2) (A' := [jR 56, jI p]) (st' := [jI p, jR 56]) (hp' := hp) rfl ?_
      refine jE_callI (vs := [jR 56, jI p]) (r := []) (nx := 5) (v := jI (jb (decide ((0 ≤ p ∧ p < hp 3 1 * hp 3 2) ∧ hp 58 p ≠ -1)))) (hp1 := hp) rfl (e67 ▸ c_m_hasDot hp rM.1 p hp32) ?_
      refine jE_ifd_ne rfl (fun m5 => ?_) (fun m5 => ?_)
      · refine jm_Ev.bl 1 (pc' := 12) (A' := [jR 56, jI p]) (st' := [jR 56]) (hp' := hp) rfl ?_
        refine jE_callI (vs := [jR 56]) (r := []) (nx := 15) (v := jI (jcnt (hp 4) (hp 3 1 * hp 3 2).toNat)) (hp1 := hp) rfl (eC ▸ c_m_dotMany hp rM.1) ?_
        refine jm_Ev.bl 1 (pc' := 16) (A' := [jR 56, jI p]) (st' := [jI 1, jI (jcnt (hp 4) (hp 3 1 * hp 3 2).toNat)]) (hp' := hp) rfl ?_
        refine jE_icmp_ne rfl (by omega) (by omega) (fun m16 => ?_) (fun m16 => ?_)
        · omega
        · refine jm_Ev.bl 1 (pc' := 21) (A' := [jR 56, jI p]) (st' := [jI (-103)]) (hp' := hp) rfl ?_
          exact jE_ret rfl ⟨rfl, ⟨jRP_fr rP (jFq.rf (S := []) (F := [])) (by simp) (by simp), jRD_fr rD (jFq.rf (S := []) (F := [])) (by simp) (by simp), jRC_fr (show n ≤ n + 1 by omega) rC (jFq.rf (S := []) (F := [])) (by simp) (by simp), jRS_fr rS (jFq.rf (S := []) (F := [])) (by simp) (by simp), jRR_fr rR (jFq.rf (S := []) (F := [])) (by simp), jRK_fr rK (jFq.rf (S := []) (F := [])) (by simp) (by simp), jR5_fr r5 (jFq.rf (S := []) (F := [])) (by simp), jRL_fr rL (jFq.rf (S := []) (F := [])) (by intro q hq z; simp at z <;> omega), jMC_fr rM (jFq.rf (S := []) (F := [])) (by intro q hq z; simp at z <;> omega) (by simp), jRX_fr rX (jFq.rf (S := []) (F := [])) (by simp)⟩⟩
      · refine jm_Ev.bl 1 (pc' := 10) (A' := [jR 56, jI p]) (st' := [jI (-101)]) (hp' := hp) rfl ?_
        exact absurd (ghd.mp c9) m5
  · refine jm_Ev.bl 1 (pc' := 14) (A' := [jR 0, jI p]) (st' := [jI (-101)]) (hp' := hp) rfl ?_
    refine jE_ret rfl ⟨_, rfl, by omega, rX, ?_⟩
    show jm_Ev 191 0 [jR 56, jI p] [] hp _
    refine jm_Ev.bl 2 (pc' := 2) (A' := [jR 56, jI p]) (st' := [jI p, jR 56]) (hp' := hp) rfl ?_
    refine jE_callI (vs := [jR 56, jI p]) (r := []) (nx := 5) (v := jI (jb (decide ((0 ≤ p ∧ p < hp 3 1 * hp 3 2) ∧ hp 58 p ≠ -1)))) (hp1 := hp) rfl (e67 ▸ c_m_hasDot hp rM.1 p hp32) ?_
    refine jE_ifd_ne rfl (fun m5 => ?_) (fun m5 => ?_)
    · refine jm_Ev.bl 1 (pc' := 12) (A' := [jR 56, jI p]) (st' := [jR 56]) (hp' := hp) rfl ?_
      refine jE_callI (vs := [jR 56]) (r := []) (nx := 15) (v := jI (jcnt (hp 4) (hp 3 1 * hp 3 2).toNat)) (hp1 := hp) rfl (eC ▸ c_m_dotMany hp rM.1) ?_
      refine jm_Ev.bl 1 (pc' := 16) (A' := [jR 56, jI p]) (st' := [jI 1, jI (jcnt (hp 4) (hp 3 1 * hp 3 2).toNat)]) (hp' := hp) rfl ?_
      refine jE_icmp_ne rfl (by omega) (by omega) (fun m16 => ?_) (fun m16 => ?_)
      · exact absurd (ghd.mpr m5) (fun z => z c9)
      · refine jm_Ev.bl 1 (pc' := 21) (A' := [jR 56, jI p]) (st' := [jI (-103)]) (hp' := hp) rfl ?_
        exact absurd (ghd.mpr m5) (fun z => z c9)
    · refine jm_Ev.bl 1 (pc' := 10) (A' := [jR 56, jI p]) (st' := [jI (-101)]) (hp' := hp) rfl ?_
      exact jE_ret rfl ⟨rfl, ⟨jRP_fr rP (jFq.rf (S := []) (F := [])) (by simp) (by simp), jRD_fr rD (jFq.rf (S := []) (F := [])) (by simp) (by simp), jRC_fr (show n ≤ n + 1 by omega) rC (jFq.rf (S := []) (F := [])) (by simp) (by simp), jRS_fr rS (jFq.rf (S := []) (F := [])) (by simp) (by simp), jRR_fr rR (jFq.rf (S := []) (F := [])) (by simp), jRK_fr rK (jFq.rf (S := []) (F := [])) (by simp) (by simp), jR5_fr r5 (jFq.rf (S := []) (F := [])) (by simp), jRL_fr rL (jFq.rf (S := []) (F := [])) (by intro q hq z; simp at z <;> omega), jMC_fr rM (jFq.rf (S := []) (F := [])) (by intro q hq z; simp at z <;> omega) (by simp), jRX_fr rX (jFq.rf (S := []) (F := [])) (by simp)⟩⟩
