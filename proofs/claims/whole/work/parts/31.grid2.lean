/-- all but some places stay -/
def jFr (hp hp' : jm_H) (S : List Nat) : Prop := ∀ q, q ∉ S → hp' q = hp q
theorem jFr.rf {hp : jm_H} {S : List Nat} : jFr hp hp S := fun _ _ => rfl
theorem jFr.set {hp h : jm_H} {S : List Nat} {k : Nat} {j v : Int} (hf : jFr hp h S) (hk : k ∈ S) : jFr hp (jm_hs h k j v) S := fun q hq => by
  rw [js_hs_ne (fun e => hq (by rw [e]; exact hk))]; exact hf q hq
theorem jFr.tr {hp h1 h2 : jm_H} {S T V : List Nat} (a : jFr hp h1 S) (b : jFr h1 h2 T) (hS : ∀ q ∈ S, q ∈ V) (hT : ∀ q ∈ T, q ∈ V) : jFr hp h2 V := fun q hq => (b q (fun h => hq (hT q h))).trans (a q (fun h => hq (hS q h)))
theorem jFr.wk {hp h1 : jm_H} {S V : List Nat} (a : jFr hp h1 S) (hS : ∀ q ∈ S, q ∈ V) : jFr hp h1 V := fun q hq => a q (fun h => hq (hS q h))
theorem jhs_lt {h : jm_H} {k : Nat} {i v : Int} {F : Int → Int} (hc : ∀ j, 0 ≤ j → j < i → h k j = F j) (hv : v = F i) : ∀ j, 0 ≤ j → j < i + 1 → jm_hs h k i v k j = F j := by
  intro j h0 h1
  rw [js_hs_eq]
  by_cases e : j = i
  · rw [if_pos e, e, hv]
  · rw [if_neg e]; exact hc j h0 (by omega)

theorem jgp_in {w h : Int} {d : Int → Int} {p : Int} (hp : 0 ≤ p ∧ p < w * h) : jgp w h d p = d p := by unfold jgp; rw [if_pos hp]
theorem jgk_in {w h : Int} {d : Int → Int} {x y : Int} (h0 : 0 ≤ x) (h1 : x < w) (h2 : 0 ≤ y) (h3 : y < h) : jgk w h d x y = d (y * w + x) := by unfold jgk; rw [if_pos ⟨h0, h1, h2, h3⟩]
theorem jE_b1 {x pc pc' : Nat} {A st A' st' : List jm_V} {hp hp' : jm_H} {Q : Option jm_V → jm_H → Prop} (h : jm_go x pc A st hp = some (.inl (pc', A', st', hp'))) (k : jm_Ev x pc' A' st' hp' Q) : jm_Ev x pc A st hp Q := jm_Ev.go h k
theorem c_g_dots_3_L {Q : Option jm_V → jm_H → Prop} (hp : jm_H) (hG : jG hp 3 4) (k : jm_Ev 33 30 [jR 3, jI (jcnt (hp 4) ((hp 3 1) * (hp 3 2)).toNat), jI ((hp 3 1) * (hp 3 2))] [] hp Q) : ∀ (n : Nat) (i c : Int), 0 ≤ i → i ≤ (hp 3 1) * (hp 3 2) → c = jcnt (hp 4) i.toNat → (hp 3 1) * (hp 3 2) - i < n → jm_Ev 33 4 [jR 3, jI c, jI i] [] hp Q := by
  obtain ⟨hw0, hw5, hh0, hh5, hk⟩ := id hG
  have hm := jm_mulb hw0 hw5 hh0 hh5
  intro n
  induction n with
  | zero => intro i c h1 h2 h3 h4; omega
  | succ n ih =>
    intro i c hi0 hi1 hs hn
    refine jm_Ev.bl 2 (pc' := 6) (A' := [jR 3, jI c, jI i]) (st' := [jR 3, jI i]) (hp' := hp) rfl ?_
    refine jE_callI (vs := [jR 3]) (r := [jI i]) (nx := 9) (v := jI ((hp 3 1) * (hp 3 2))) (hp1 := hp) rfl (c_g_places_3 hp) ?_
    refine jE_icmp_ge rfl (by omega) (by omega) (fun c9 => ?_) (fun c9 => ?_)
    · have e : i = (hp 3 1) * (hp 3 2) := by omega
      subst e
      rw [hs]
      exact k
    · have hr := jgp_r hG i
      have hcr := jcnt_r (hp 4) i.toNat
      refine jm_Ev.bl 2 (pc' := 14) (A' := [jR 3, jI c, jI i]) (st' := [jI i, jR 3]) (hp' := hp) rfl ?_
      refine jE_callI (vs := [jR 3, jI i]) (r := []) (nx := 17) (v := jI (jgp (hp 3 1) (hp 3 2) (hp 4) i)) (hp1 := hp) rfl (c_g_kindAt_3 hp hG i (by omega)) ?_
      refine jm_Ev.bl 1 (pc' := 18) (A' := [jR 3, jI c, jI i]) (st' := [jI (-1), jI (jgp (hp 3 1) (hp 3 2) (hp 4) i)]) (hp' := hp) rfl ?_
      refine jE_icmp_eq rfl (by omega) (by omega) (fun c18 => ?_) (fun c18 => ?_)
      · refine jm_Ev.bl 2 (pc' := 4) (A' := [jR 3, jI c, jI (i + 1)]) (st' := []) (hp' := hp) rfl ?_
        exact ih (i + 1) c (by omega) (by omega) (by rw [jcnt_s _ hi0, hs]; rw [jgp_in ⟨hi0, c9⟩] at c18; simp [c18]) (by omega)
      · refine jm_Ev.bl 3 (pc' := 4) (A' := [jR 3, jI (c + 1), jI (i + 1)]) (st' := []) (hp' := hp) rfl ?_
        exact ih (i + 1) (c + 1) (by omega) (by omega) (by rw [jcnt_s _ hi0, hs]; rw [jgp_in ⟨hi0, c9⟩] at c18; simp [c18]) (by omega)
theorem c_g_dots_3 (hp : jm_H) (hG : jG hp 3 4) : jm_Ev 33 0 [jR 3, jU, jU] [] hp (jK (some (jI (jcnt (hp 4) ((hp 3 1) * (hp 3 2)).toNat))) hp) := by
  obtain ⟨hw0, hw5, hh0, hh5, hk⟩ := id hG
  have hm := jm_mulb hw0 hw5 hh0 hh5
  refine jm_Ev.bl 4 (pc' := 4) (A' := [jR 3, jI 0, jI 0]) (st' := []) (hp' := hp) rfl ?_
  exact c_g_dots_3_L hp hG (jE_b1 rfl (jE_ret rfl ⟨rfl, rfl⟩)) 26 0 0 (by omega) (by omega) rfl (by omega)
theorem c_g_set_3 (hp : jm_H) (hG : jG hp 3 4) (p z : Int) (h0 : 0 ≤ p) (h1 : p < (hp 3 1) * (hp 3 2)) : jm_Ev 35 0 [jR 3, jI p, jI z] [] hp (jK none (jm_hs hp 4 p z)) := by
  obtain ⟨hw0, hw5, hh0, hh5, hk⟩ := id hG
  have hm := jm_mulb hw0 hw5 hh0 hh5
  refine jm_Ev.bl 2 (pc' := 2) (A' := [jR 3, jI p, jI z]) (st' := [jI p, jR 3]) (hp' := hp) rfl ?_
  refine jE_callI (vs := [jR 3, jI p]) (r := []) (nx := 5) (v := jI (jb (decide (0 ≤ p ∧ p < (hp 3 1) * (hp 3 2))))) (hp1 := hp) rfl (c_g_has_3 hp hG p (by omega)) ?_
  refine jE_ifd_eq rfl (fun c5 => ?_) (fun c5 => ?_)
  · exact absurd ⟨h0, h1⟩ c5
  · refine jm_Ev.bl 4 (pc' := 14) (A' := [jR 3, jI p, jI z]) (st' := [jI z, jI p, jR 4]) (hp' := hp) rfl ?_
    refine jE_iast (n := 25) rfl rfl (by omega) ?_
    exact jE_ret rfl ⟨rfl, rfl⟩
theorem c_g_clear_3_L {Q : Option jm_V → jm_H → Prop} (hp : jm_H) (nw nh : Int) (k : ∀ h : jm_H, h 3 1 = nw → h 3 2 = nh → (∀ j, 0 ≤ j → j < 25 → h 4 j = -1) → jFr hp h [3, 4] → ∀ i, jm_Ev 34 31 [jR 3, jI nw, jI nh, jI i] [] h Q) : ∀ (n : Nat) (i : Int) (h : jm_H), 0 ≤ i → i ≤ 25 → h 3 1 = nw → h 3 2 = nh → (∀ j, 0 ≤ j → j < i → h 4 j = -1) → jFr hp h [3, 4] → 25 - i < n → jm_Ev 34 12 [jR 3, jI nw, jI nh, jI i] [] h Q := by
  intro n
  induction n with
  | zero => intro i h a b; omega
  | succ n ih =>
    intro i h hi0 hi1 h1 h2 hc hf hn
    refine jm_Ev.bl 2 (pc' := 15) (A' := [jR 3, jI nw, jI nh, jI i]) (st' := [jI 25, jI i]) (hp' := h) rfl ?_
    refine jE_icmp_ge rfl (by omega) (by omega) (fun c15 => ?_) (fun c15 => ?_)
    · exact k h h1 h2 (fun j a b => hc j a (by omega)) hf i
    · refine jm_Ev.bl 4 (pc' := 24) (A' := [jR 3, jI nw, jI nh, jI i]) (st' := [jI (-1), jI i, jR 4]) (hp' := h) rfl ?_
      refine jE_iast (n := 25) rfl rfl (by omega) ?_
      refine jm_Ev.bl 2 (pc' := 12) (A' := [jR 3, jI nw, jI nh, jI (i + 1)]) (st' := []) (hp' := (jm_hs h 4 i (-1))) rfl ?_
      exact ih (i + 1) (jm_hs h 4 i (-1)) (by omega) (by omega) h1 h2 (jhs_lt (F := fun _ => -1) hc rfl) (hf.set (by decide)) (by omega)
def jclr_3 (hp : jm_H) (nw nh : Int) : Option jm_V → jm_H → Prop := fun rv h => rv = none ∧ h 3 1 = nw ∧ h 3 2 = nh ∧ (∀ j, 0 ≤ j → j < 25 → h 4 j = -1) ∧ jFr hp h [3, 4]
theorem c_g_clear_3 (hp : jm_H) (nw nh : Int) : jm_Ev 34 0 [jR 3, jI nw, jI nh, jU] [] hp (jclr_3 hp nw nh) := by
  refine jm_Ev.bl 8 (pc' := 12) (A' := [jR 3, jI nw, jI nh, jI 0]) (st' := []) (hp' := (jm_hs (jm_hs hp 3 1 nw) 3 2 nh)) rfl ?_
  exact c_g_clear_3_L hp nw nh (fun h a b c d i => jE_ret rfl ⟨rfl, a, b, c, d⟩) 26 0 _ (by omega) (by omega) rfl rfl (fun j a b => by omega) ((jFr.rf.set (by decide)).set (by decide)) (by omega)
theorem c_g_dots_5_L {Q : Option jm_V → jm_H → Prop} (hp : jm_H) (hG : jG hp 5 6) (k : jm_Ev 33 30 [jR 5, jI (jcnt (hp 6) ((hp 5 1) * (hp 5 2)).toNat), jI ((hp 5 1) * (hp 5 2))] [] hp Q) : ∀ (n : Nat) (i c : Int), 0 ≤ i → i ≤ (hp 5 1) * (hp 5 2) → c = jcnt (hp 6) i.toNat → (hp 5 1) * (hp 5 2) - i < n → jm_Ev 33 4 [jR 5, jI c, jI i] [] hp Q := by
  obtain ⟨hw0, hw5, hh0, hh5, hk⟩ := id hG
  have hm := jm_mulb hw0 hw5 hh0 hh5
  intro n
  induction n with
  | zero => intro i c h1 h2 h3 h4; omega
  | succ n ih =>
    intro i c hi0 hi1 hs hn
    refine jm_Ev.bl 2 (pc' := 6) (A' := [jR 5, jI c, jI i]) (st' := [jR 5, jI i]) (hp' := hp) rfl ?_
    refine jE_callI (vs := [jR 5]) (r := [jI i]) (nx := 9) (v := jI ((hp 5 1) * (hp 5 2))) (hp1 := hp) rfl (c_g_places_5 hp) ?_
    refine jE_icmp_ge rfl (by omega) (by omega) (fun c9 => ?_) (fun c9 => ?_)
    · have e : i = (hp 5 1) * (hp 5 2) := by omega
      subst e
      rw [hs]
      exact k
    · have hr := jgp_r hG i
      have hcr := jcnt_r (hp 6) i.toNat
      refine jm_Ev.bl 2 (pc' := 14) (A' := [jR 5, jI c, jI i]) (st' := [jI i, jR 5]) (hp' := hp) rfl ?_
      refine jE_callI (vs := [jR 5, jI i]) (r := []) (nx := 17) (v := jI (jgp (hp 5 1) (hp 5 2) (hp 6) i)) (hp1 := hp) rfl (c_g_kindAt_5 hp hG i (by omega)) ?_
      refine jm_Ev.bl 1 (pc' := 18) (A' := [jR 5, jI c, jI i]) (st' := [jI (-1), jI (jgp (hp 5 1) (hp 5 2) (hp 6) i)]) (hp' := hp) rfl ?_
      refine jE_icmp_eq rfl (by omega) (by omega) (fun c18 => ?_) (fun c18 => ?_)
      · refine jm_Ev.bl 2 (pc' := 4) (A' := [jR 5, jI c, jI (i + 1)]) (st' := []) (hp' := hp) rfl ?_
        exact ih (i + 1) c (by omega) (by omega) (by rw [jcnt_s _ hi0, hs]; rw [jgp_in ⟨hi0, c9⟩] at c18; simp [c18]) (by omega)
      · refine jm_Ev.bl 3 (pc' := 4) (A' := [jR 5, jI (c + 1), jI (i + 1)]) (st' := []) (hp' := hp) rfl ?_
        exact ih (i + 1) (c + 1) (by omega) (by omega) (by rw [jcnt_s _ hi0, hs]; rw [jgp_in ⟨hi0, c9⟩] at c18; simp [c18]) (by omega)
theorem c_g_dots_5 (hp : jm_H) (hG : jG hp 5 6) : jm_Ev 33 0 [jR 5, jU, jU] [] hp (jK (some (jI (jcnt (hp 6) ((hp 5 1) * (hp 5 2)).toNat))) hp) := by
  obtain ⟨hw0, hw5, hh0, hh5, hk⟩ := id hG
  have hm := jm_mulb hw0 hw5 hh0 hh5
  refine jm_Ev.bl 4 (pc' := 4) (A' := [jR 5, jI 0, jI 0]) (st' := []) (hp' := hp) rfl ?_
  exact c_g_dots_5_L hp hG (jE_b1 rfl (jE_ret rfl ⟨rfl, rfl⟩)) 26 0 0 (by omega) (by omega) rfl (by omega)
theorem c_g_set_5 (hp : jm_H) (hG : jG hp 5 6) (p z : Int) (h0 : 0 ≤ p) (h1 : p < (hp 5 1) * (hp 5 2)) : jm_Ev 35 0 [jR 5, jI p, jI z] [] hp (jK none (jm_hs hp 6 p z)) := by
  obtain ⟨hw0, hw5, hh0, hh5, hk⟩ := id hG
  have hm := jm_mulb hw0 hw5 hh0 hh5
  refine jm_Ev.bl 2 (pc' := 2) (A' := [jR 5, jI p, jI z]) (st' := [jI p, jR 5]) (hp' := hp) rfl ?_
  refine jE_callI (vs := [jR 5, jI p]) (r := []) (nx := 5) (v := jI (jb (decide (0 ≤ p ∧ p < (hp 5 1) * (hp 5 2))))) (hp1 := hp) rfl (c_g_has_5 hp hG p (by omega)) ?_
  refine jE_ifd_eq rfl (fun c5 => ?_) (fun c5 => ?_)
  · exact absurd ⟨h0, h1⟩ c5
  · refine jm_Ev.bl 4 (pc' := 14) (A' := [jR 5, jI p, jI z]) (st' := [jI z, jI p, jR 6]) (hp' := hp) rfl ?_
    refine jE_iast (n := 25) rfl rfl (by omega) ?_
    exact jE_ret rfl ⟨rfl, rfl⟩
theorem c_g_clear_5_L {Q : Option jm_V → jm_H → Prop} (hp : jm_H) (nw nh : Int) (k : ∀ h : jm_H, h 5 1 = nw → h 5 2 = nh → (∀ j, 0 ≤ j → j < 25 → h 6 j = -1) → jFr hp h [5, 6] → ∀ i, jm_Ev 34 31 [jR 5, jI nw, jI nh, jI i] [] h Q) : ∀ (n : Nat) (i : Int) (h : jm_H), 0 ≤ i → i ≤ 25 → h 5 1 = nw → h 5 2 = nh → (∀ j, 0 ≤ j → j < i → h 6 j = -1) → jFr hp h [5, 6] → 25 - i < n → jm_Ev 34 12 [jR 5, jI nw, jI nh, jI i] [] h Q := by
  intro n
  induction n with
  | zero => intro i h a b; omega
  | succ n ih =>
    intro i h hi0 hi1 h1 h2 hc hf hn
    refine jm_Ev.bl 2 (pc' := 15) (A' := [jR 5, jI nw, jI nh, jI i]) (st' := [jI 25, jI i]) (hp' := h) rfl ?_
    refine jE_icmp_ge rfl (by omega) (by omega) (fun c15 => ?_) (fun c15 => ?_)
    · exact k h h1 h2 (fun j a b => hc j a (by omega)) hf i
    · refine jm_Ev.bl 4 (pc' := 24) (A' := [jR 5, jI nw, jI nh, jI i]) (st' := [jI (-1), jI i, jR 6]) (hp' := h) rfl ?_
      refine jE_iast (n := 25) rfl rfl (by omega) ?_
      refine jm_Ev.bl 2 (pc' := 12) (A' := [jR 5, jI nw, jI nh, jI (i + 1)]) (st' := []) (hp' := (jm_hs h 6 i (-1))) rfl ?_
      exact ih (i + 1) (jm_hs h 6 i (-1)) (by omega) (by omega) h1 h2 (jhs_lt (F := fun _ => -1) hc rfl) (hf.set (by decide)) (by omega)
def jclr_5 (hp : jm_H) (nw nh : Int) : Option jm_V → jm_H → Prop := fun rv h => rv = none ∧ h 5 1 = nw ∧ h 5 2 = nh ∧ (∀ j, 0 ≤ j → j < 25 → h 6 j = -1) ∧ jFr hp h [5, 6]
theorem c_g_clear_5 (hp : jm_H) (nw nh : Int) : jm_Ev 34 0 [jR 5, jI nw, jI nh, jU] [] hp (jclr_5 hp nw nh) := by
  refine jm_Ev.bl 8 (pc' := 12) (A' := [jR 5, jI nw, jI nh, jI 0]) (st' := []) (hp' := (jm_hs (jm_hs hp 5 1 nw) 5 2 nh)) rfl ?_
  exact c_g_clear_5_L hp nw nh (fun h a b c d i => jE_ret rfl ⟨rfl, a, b, c, d⟩) 26 0 _ (by omega) (by omega) rfl rfl (fun j a b => by omega) ((jFr.rf.set (by decide)).set (by decide)) (by omega)
theorem c_g_dots_7_L {Q : Option jm_V → jm_H → Prop} (hp : jm_H) (hG : jG hp 7 8) (k : jm_Ev 33 30 [jR 7, jI (jcnt (hp 8) ((hp 7 1) * (hp 7 2)).toNat), jI ((hp 7 1) * (hp 7 2))] [] hp Q) : ∀ (n : Nat) (i c : Int), 0 ≤ i → i ≤ (hp 7 1) * (hp 7 2) → c = jcnt (hp 8) i.toNat → (hp 7 1) * (hp 7 2) - i < n → jm_Ev 33 4 [jR 7, jI c, jI i] [] hp Q := by
  obtain ⟨hw0, hw5, hh0, hh5, hk⟩ := id hG
  have hm := jm_mulb hw0 hw5 hh0 hh5
  intro n
  induction n with
  | zero => intro i c h1 h2 h3 h4; omega
  | succ n ih =>
    intro i c hi0 hi1 hs hn
    refine jm_Ev.bl 2 (pc' := 6) (A' := [jR 7, jI c, jI i]) (st' := [jR 7, jI i]) (hp' := hp) rfl ?_
    refine jE_callI (vs := [jR 7]) (r := [jI i]) (nx := 9) (v := jI ((hp 7 1) * (hp 7 2))) (hp1 := hp) rfl (c_g_places_7 hp) ?_
    refine jE_icmp_ge rfl (by omega) (by omega) (fun c9 => ?_) (fun c9 => ?_)
    · have e : i = (hp 7 1) * (hp 7 2) := by omega
      subst e
      rw [hs]
      exact k
    · have hr := jgp_r hG i
      have hcr := jcnt_r (hp 8) i.toNat
      refine jm_Ev.bl 2 (pc' := 14) (A' := [jR 7, jI c, jI i]) (st' := [jI i, jR 7]) (hp' := hp) rfl ?_
      refine jE_callI (vs := [jR 7, jI i]) (r := []) (nx := 17) (v := jI (jgp (hp 7 1) (hp 7 2) (hp 8) i)) (hp1 := hp) rfl (c_g_kindAt_7 hp hG i (by omega)) ?_
      refine jm_Ev.bl 1 (pc' := 18) (A' := [jR 7, jI c, jI i]) (st' := [jI (-1), jI (jgp (hp 7 1) (hp 7 2) (hp 8) i)]) (hp' := hp) rfl ?_
      refine jE_icmp_eq rfl (by omega) (by omega) (fun c18 => ?_) (fun c18 => ?_)
      · refine jm_Ev.bl 2 (pc' := 4) (A' := [jR 7, jI c, jI (i + 1)]) (st' := []) (hp' := hp) rfl ?_
        exact ih (i + 1) c (by omega) (by omega) (by rw [jcnt_s _ hi0, hs]; rw [jgp_in ⟨hi0, c9⟩] at c18; simp [c18]) (by omega)
      · refine jm_Ev.bl 3 (pc' := 4) (A' := [jR 7, jI (c + 1), jI (i + 1)]) (st' := []) (hp' := hp) rfl ?_
        exact ih (i + 1) (c + 1) (by omega) (by omega) (by rw [jcnt_s _ hi0, hs]; rw [jgp_in ⟨hi0, c9⟩] at c18; simp [c18]) (by omega)
theorem c_g_dots_7 (hp : jm_H) (hG : jG hp 7 8) : jm_Ev 33 0 [jR 7, jU, jU] [] hp (jK (some (jI (jcnt (hp 8) ((hp 7 1) * (hp 7 2)).toNat))) hp) := by
  obtain ⟨hw0, hw5, hh0, hh5, hk⟩ := id hG
  have hm := jm_mulb hw0 hw5 hh0 hh5
  refine jm_Ev.bl 4 (pc' := 4) (A' := [jR 7, jI 0, jI 0]) (st' := []) (hp' := hp) rfl ?_
  exact c_g_dots_7_L hp hG (jE_b1 rfl (jE_ret rfl ⟨rfl, rfl⟩)) 26 0 0 (by omega) (by omega) rfl (by omega)
theorem c_g_set_7 (hp : jm_H) (hG : jG hp 7 8) (p z : Int) (h0 : 0 ≤ p) (h1 : p < (hp 7 1) * (hp 7 2)) : jm_Ev 35 0 [jR 7, jI p, jI z] [] hp (jK none (jm_hs hp 8 p z)) := by
  obtain ⟨hw0, hw5, hh0, hh5, hk⟩ := id hG
  have hm := jm_mulb hw0 hw5 hh0 hh5
  refine jm_Ev.bl 2 (pc' := 2) (A' := [jR 7, jI p, jI z]) (st' := [jI p, jR 7]) (hp' := hp) rfl ?_
  refine jE_callI (vs := [jR 7, jI p]) (r := []) (nx := 5) (v := jI (jb (decide (0 ≤ p ∧ p < (hp 7 1) * (hp 7 2))))) (hp1 := hp) rfl (c_g_has_7 hp hG p (by omega)) ?_
  refine jE_ifd_eq rfl (fun c5 => ?_) (fun c5 => ?_)
  · exact absurd ⟨h0, h1⟩ c5
  · refine jm_Ev.bl 4 (pc' := 14) (A' := [jR 7, jI p, jI z]) (st' := [jI z, jI p, jR 8]) (hp' := hp) rfl ?_
    refine jE_iast (n := 25) rfl rfl (by omega) ?_
    exact jE_ret rfl ⟨rfl, rfl⟩
theorem c_g_clear_7_L {Q : Option jm_V → jm_H → Prop} (hp : jm_H) (nw nh : Int) (k : ∀ h : jm_H, h 7 1 = nw → h 7 2 = nh → (∀ j, 0 ≤ j → j < 25 → h 8 j = -1) → jFr hp h [7, 8] → ∀ i, jm_Ev 34 31 [jR 7, jI nw, jI nh, jI i] [] h Q) : ∀ (n : Nat) (i : Int) (h : jm_H), 0 ≤ i → i ≤ 25 → h 7 1 = nw → h 7 2 = nh → (∀ j, 0 ≤ j → j < i → h 8 j = -1) → jFr hp h [7, 8] → 25 - i < n → jm_Ev 34 12 [jR 7, jI nw, jI nh, jI i] [] h Q := by
  intro n
  induction n with
  | zero => intro i h a b; omega
  | succ n ih =>
    intro i h hi0 hi1 h1 h2 hc hf hn
    refine jm_Ev.bl 2 (pc' := 15) (A' := [jR 7, jI nw, jI nh, jI i]) (st' := [jI 25, jI i]) (hp' := h) rfl ?_
    refine jE_icmp_ge rfl (by omega) (by omega) (fun c15 => ?_) (fun c15 => ?_)
    · exact k h h1 h2 (fun j a b => hc j a (by omega)) hf i
    · refine jm_Ev.bl 4 (pc' := 24) (A' := [jR 7, jI nw, jI nh, jI i]) (st' := [jI (-1), jI i, jR 8]) (hp' := h) rfl ?_
      refine jE_iast (n := 25) rfl rfl (by omega) ?_
      refine jm_Ev.bl 2 (pc' := 12) (A' := [jR 7, jI nw, jI nh, jI (i + 1)]) (st' := []) (hp' := (jm_hs h 8 i (-1))) rfl ?_
      exact ih (i + 1) (jm_hs h 8 i (-1)) (by omega) (by omega) h1 h2 (jhs_lt (F := fun _ => -1) hc rfl) (hf.set (by decide)) (by omega)
def jclr_7 (hp : jm_H) (nw nh : Int) : Option jm_V → jm_H → Prop := fun rv h => rv = none ∧ h 7 1 = nw ∧ h 7 2 = nh ∧ (∀ j, 0 ≤ j → j < 25 → h 8 j = -1) ∧ jFr hp h [7, 8]
theorem c_g_clear_7 (hp : jm_H) (nw nh : Int) : jm_Ev 34 0 [jR 7, jI nw, jI nh, jU] [] hp (jclr_7 hp nw nh) := by
  refine jm_Ev.bl 8 (pc' := 12) (A' := [jR 7, jI nw, jI nh, jI 0]) (st' := []) (hp' := (jm_hs (jm_hs hp 7 1 nw) 7 2 nh)) rfl ?_
  exact c_g_clear_7_L hp nw nh (fun h a b c d i => jE_ret rfl ⟨rfl, a, b, c, d⟩) 26 0 _ (by omega) (by omega) rfl rfl (fun j a b => by omega) ((jFr.rf.set (by decide)).set (by decide)) (by omega)
theorem c_g_copy_3_5_L {Q : Option jm_V → jm_H → Prop} (hp : jm_H) (k : ∀ h : jm_H, h 3 1 = hp 5 1 → h 3 2 = hp 5 2 → (∀ j, 0 ≤ j → j < 25 → h 4 j = hp 6 j) → jFr hp h [3, 4] → ∀ i, jm_Ev 36 42 [jR 3, jR 5, jI i] [] h Q) : ∀ (n : Nat) (i : Int) (h : jm_H), 0 ≤ i → i ≤ 25 → h 3 1 = hp 5 1 → h 3 2 = hp 5 2 → (∀ j, 0 ≤ j → j < i → h 4 j = hp 6 j) → jFr hp h [3, 4] → 25 - i < n → jm_Ev 36 18 [jR 3, jR 5, jI i] [] h Q := by
  intro n
  induction n with
  | zero => intro i h a b; omega
  | succ n ih =>
    intro i h hi0 hi1 h1 h2 hc hf hn
    refine jm_Ev.bl 2 (pc' := 21) (A' := [jR 3, jR 5, jI i]) (st' := [jI 25, jI i]) (hp' := h) rfl ?_
    refine jE_icmp_ge rfl (by omega) (by omega) (fun c21 => ?_) (fun c21 => ?_)
    · exact k h h1 h2 (fun j a b => hc j a (by omega)) hf i
    · refine jm_Ev.bl 6 (pc' := 34) (A' := [jR 3, jR 5, jI i]) (st' := [jI i, jR 6, jI i, jR 4]) (hp' := h) rfl ?_
      refine jE_iald (n := 25) (f := h 6) rfl rfl (by omega) ?_
      refine jE_iast (n := 25) rfl rfl (by omega) ?_
      refine jm_Ev.bl 2 (pc' := 18) (A' := [jR 3, jR 5, jI (i + 1)]) (st' := []) (hp' := (jm_hs h 4 i (h 6 i))) rfl ?_
      exact ih (i + 1) (jm_hs h 4 i (h 6 i)) (by omega) (by omega) h1 h2 (jhs_lt (F := hp 6) hc (by rw [hf 6 (by decide)])) (hf.set (by decide)) (by omega)
def jcpy_3_5 (hp : jm_H) : Option jm_V → jm_H → Prop := fun rv h => rv = none ∧ h 3 1 = hp 5 1 ∧ h 3 2 = hp 5 2 ∧ (∀ j, 0 ≤ j → j < 25 → h 4 j = hp 6 j) ∧ jFr hp h [3, 4]
theorem c_g_copy_3_5 (hp : jm_H) : jm_Ev 36 0 [jR 3, jR 5, jU] [] hp (jcpy_3_5 hp) := by
  refine jm_Ev.bl 10 (pc' := 18) (A' := [jR 3, jR 5, jI 0]) (st' := []) (hp' := (jm_hs (jm_hs hp 3 1 (hp 5 1)) 3 2 (hp 5 2))) rfl ?_
  exact c_g_copy_3_5_L hp (fun h a b c d i => jE_ret rfl ⟨rfl, a, b, c, d⟩) 26 0 _ (by omega) (by omega) rfl rfl (fun j a b => by omega) ((jFr.rf.set (by decide)).set (by decide)) (by omega)
theorem c_g_copy_5_3_L {Q : Option jm_V → jm_H → Prop} (hp : jm_H) (k : ∀ h : jm_H, h 5 1 = hp 3 1 → h 5 2 = hp 3 2 → (∀ j, 0 ≤ j → j < 25 → h 6 j = hp 4 j) → jFr hp h [5, 6] → ∀ i, jm_Ev 36 42 [jR 5, jR 3, jI i] [] h Q) : ∀ (n : Nat) (i : Int) (h : jm_H), 0 ≤ i → i ≤ 25 → h 5 1 = hp 3 1 → h 5 2 = hp 3 2 → (∀ j, 0 ≤ j → j < i → h 6 j = hp 4 j) → jFr hp h [5, 6] → 25 - i < n → jm_Ev 36 18 [jR 5, jR 3, jI i] [] h Q := by
  intro n
  induction n with
  | zero => intro i h a b; omega
  | succ n ih =>
    intro i h hi0 hi1 h1 h2 hc hf hn
    refine jm_Ev.bl 2 (pc' := 21) (A' := [jR 5, jR 3, jI i]) (st' := [jI 25, jI i]) (hp' := h) rfl ?_
    refine jE_icmp_ge rfl (by omega) (by omega) (fun c21 => ?_) (fun c21 => ?_)
    · exact k h h1 h2 (fun j a b => hc j a (by omega)) hf i
    · refine jm_Ev.bl 6 (pc' := 34) (A' := [jR 5, jR 3, jI i]) (st' := [jI i, jR 4, jI i, jR 6]) (hp' := h) rfl ?_
      refine jE_iald (n := 25) (f := h 4) rfl rfl (by omega) ?_
      refine jE_iast (n := 25) rfl rfl (by omega) ?_
      refine jm_Ev.bl 2 (pc' := 18) (A' := [jR 5, jR 3, jI (i + 1)]) (st' := []) (hp' := (jm_hs h 6 i (h 4 i))) rfl ?_
      exact ih (i + 1) (jm_hs h 6 i (h 4 i)) (by omega) (by omega) h1 h2 (jhs_lt (F := hp 4) hc (by rw [hf 4 (by decide)])) (hf.set (by decide)) (by omega)
def jcpy_5_3 (hp : jm_H) : Option jm_V → jm_H → Prop := fun rv h => rv = none ∧ h 5 1 = hp 3 1 ∧ h 5 2 = hp 3 2 ∧ (∀ j, 0 ≤ j → j < 25 → h 6 j = hp 4 j) ∧ jFr hp h [5, 6]
theorem c_g_copy_5_3 (hp : jm_H) : jm_Ev 36 0 [jR 5, jR 3, jU] [] hp (jcpy_5_3 hp) := by
  refine jm_Ev.bl 10 (pc' := 18) (A' := [jR 5, jR 3, jI 0]) (st' := []) (hp' := (jm_hs (jm_hs hp 5 1 (hp 3 1)) 5 2 (hp 3 2))) rfl ?_
  exact c_g_copy_5_3_L hp (fun h a b c d i => jE_ret rfl ⟨rfl, a, b, c, d⟩) 26 0 _ (by omega) (by omega) rfl rfl (fun j a b => by omega) ((jFr.rf.set (by decide)).set (by decide)) (by omega)
theorem c_g_copy_7_3_L {Q : Option jm_V → jm_H → Prop} (hp : jm_H) (k : ∀ h : jm_H, h 7 1 = hp 3 1 → h 7 2 = hp 3 2 → (∀ j, 0 ≤ j → j < 25 → h 8 j = hp 4 j) → jFr hp h [7, 8] → ∀ i, jm_Ev 36 42 [jR 7, jR 3, jI i] [] h Q) : ∀ (n : Nat) (i : Int) (h : jm_H), 0 ≤ i → i ≤ 25 → h 7 1 = hp 3 1 → h 7 2 = hp 3 2 → (∀ j, 0 ≤ j → j < i → h 8 j = hp 4 j) → jFr hp h [7, 8] → 25 - i < n → jm_Ev 36 18 [jR 7, jR 3, jI i] [] h Q := by
  intro n
  induction n with
  | zero => intro i h a b; omega
  | succ n ih =>
    intro i h hi0 hi1 h1 h2 hc hf hn
    refine jm_Ev.bl 2 (pc' := 21) (A' := [jR 7, jR 3, jI i]) (st' := [jI 25, jI i]) (hp' := h) rfl ?_
    refine jE_icmp_ge rfl (by omega) (by omega) (fun c21 => ?_) (fun c21 => ?_)
    · exact k h h1 h2 (fun j a b => hc j a (by omega)) hf i
    · refine jm_Ev.bl 6 (pc' := 34) (A' := [jR 7, jR 3, jI i]) (st' := [jI i, jR 4, jI i, jR 8]) (hp' := h) rfl ?_
      refine jE_iald (n := 25) (f := h 4) rfl rfl (by omega) ?_
      refine jE_iast (n := 25) rfl rfl (by omega) ?_
      refine jm_Ev.bl 2 (pc' := 18) (A' := [jR 7, jR 3, jI (i + 1)]) (st' := []) (hp' := (jm_hs h 8 i (h 4 i))) rfl ?_
      exact ih (i + 1) (jm_hs h 8 i (h 4 i)) (by omega) (by omega) h1 h2 (jhs_lt (F := hp 4) hc (by rw [hf 4 (by decide)])) (hf.set (by decide)) (by omega)
def jcpy_7_3 (hp : jm_H) : Option jm_V → jm_H → Prop := fun rv h => rv = none ∧ h 7 1 = hp 3 1 ∧ h 7 2 = hp 3 2 ∧ (∀ j, 0 ≤ j → j < 25 → h 8 j = hp 4 j) ∧ jFr hp h [7, 8]
theorem c_g_copy_7_3 (hp : jm_H) : jm_Ev 36 0 [jR 7, jR 3, jU] [] hp (jcpy_7_3 hp) := by
  refine jm_Ev.bl 10 (pc' := 18) (A' := [jR 7, jR 3, jI 0]) (st' := []) (hp' := (jm_hs (jm_hs hp 7 1 (hp 3 1)) 7 2 (hp 3 2))) rfl ?_
  exact c_g_copy_7_3_L hp (fun h a b c d i => jE_ret rfl ⟨rfl, a, b, c, d⟩) 26 0 _ (by omega) (by omega) rfl rfl (fun j a b => by omega) ((jFr.rf.set (by decide)).set (by decide)) (by omega)
theorem c_g_copy_3_7_L {Q : Option jm_V → jm_H → Prop} (hp : jm_H) (k : ∀ h : jm_H, h 3 1 = hp 7 1 → h 3 2 = hp 7 2 → (∀ j, 0 ≤ j → j < 25 → h 4 j = hp 8 j) → jFr hp h [3, 4] → ∀ i, jm_Ev 36 42 [jR 3, jR 7, jI i] [] h Q) : ∀ (n : Nat) (i : Int) (h : jm_H), 0 ≤ i → i ≤ 25 → h 3 1 = hp 7 1 → h 3 2 = hp 7 2 → (∀ j, 0 ≤ j → j < i → h 4 j = hp 8 j) → jFr hp h [3, 4] → 25 - i < n → jm_Ev 36 18 [jR 3, jR 7, jI i] [] h Q := by
  intro n
  induction n with
  | zero => intro i h a b; omega
  | succ n ih =>
    intro i h hi0 hi1 h1 h2 hc hf hn
    refine jm_Ev.bl 2 (pc' := 21) (A' := [jR 3, jR 7, jI i]) (st' := [jI 25, jI i]) (hp' := h) rfl ?_
    refine jE_icmp_ge rfl (by omega) (by omega) (fun c21 => ?_) (fun c21 => ?_)
    · exact k h h1 h2 (fun j a b => hc j a (by omega)) hf i
    · refine jm_Ev.bl 6 (pc' := 34) (A' := [jR 3, jR 7, jI i]) (st' := [jI i, jR 8, jI i, jR 4]) (hp' := h) rfl ?_
      refine jE_iald (n := 25) (f := h 8) rfl rfl (by omega) ?_
      refine jE_iast (n := 25) rfl rfl (by omega) ?_
      refine jm_Ev.bl 2 (pc' := 18) (A' := [jR 3, jR 7, jI (i + 1)]) (st' := []) (hp' := (jm_hs h 4 i (h 8 i))) rfl ?_
      exact ih (i + 1) (jm_hs h 4 i (h 8 i)) (by omega) (by omega) h1 h2 (jhs_lt (F := hp 8) hc (by rw [hf 8 (by decide)])) (hf.set (by decide)) (by omega)
def jcpy_3_7 (hp : jm_H) : Option jm_V → jm_H → Prop := fun rv h => rv = none ∧ h 3 1 = hp 7 1 ∧ h 3 2 = hp 7 2 ∧ (∀ j, 0 ≤ j → j < 25 → h 4 j = hp 8 j) ∧ jFr hp h [3, 4]
theorem c_g_copy_3_7 (hp : jm_H) : jm_Ev 36 0 [jR 3, jR 7, jU] [] hp (jcpy_3_7 hp) := by
  refine jm_Ev.bl 10 (pc' := 18) (A' := [jR 3, jR 7, jI 0]) (st' := []) (hp' := (jm_hs (jm_hs hp 3 1 (hp 7 1)) 3 2 (hp 7 2))) rfl ?_
  exact c_g_copy_3_7_L hp (fun h a b c d i => jE_ret rfl ⟨rfl, a, b, c, d⟩) 26 0 _ (by omega) (by omega) rfl rfl (fun j a b => by omega) ((jFr.rf.set (by decide)).set (by decide)) (by omega)
