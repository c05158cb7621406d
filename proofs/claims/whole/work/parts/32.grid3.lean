/-- what turnFrom, mirrorFrom leave: every cell of the new grid by F -/
def jnew (hp : jm_H) (nw nh : Int) (F : Int → Int → Int) : Option jm_V → jm_H → Prop := fun rv h => rv = none ∧ h 3 1 = nw ∧ h 3 2 = nh ∧ (∀ x y, 0 ≤ x → x < nw → 0 ≤ y → y < nh → h 4 (y * nw + x) = F x y) ∧ jFr hp h [3, 4]
theorem jrow_ne {nw x y x' y' : Int} (hx : 0 ≤ x) (hxw : x < nw) (hx' : 0 ≤ x') (hxw' : x' < nw) (h : y * nw + x = y' * nw + x') : x = x' ∧ y = y' := by
  have hw : 0 < nw := by omega
  have h1 : (y * nw + x) % nw = x := by rw [Int.add_comm, Int.add_mul_emod_self_right]; exact Int.emod_eq_of_lt hx hxw
  have h2 : (y' * nw + x') % nw = x' := by rw [Int.add_comm, Int.add_mul_emod_self_right]; exact Int.emod_eq_of_lt hx' hxw'
  have h3 : (y * nw + x) / nw = y := by rw [Int.add_comm, Int.add_mul_ediv_right _ _ (by omega), Int.ediv_eq_zero_of_lt hx hxw]; omega
  have h4 : (y' * nw + x') / nw = y' := by rw [Int.add_comm, Int.add_mul_ediv_right _ _ (by omega), Int.ediv_eq_zero_of_lt hx' hxw']; omega
  rw [h] at h1 h3
  exact ⟨h1.symm.trans h2, h3.symm.trans h4⟩
/-- cells done: rows above y, and of row y those left of x -/
def jdone (h : jm_H) (nw : Int) (F : Int → Int → Int) (X Y : Int) : Prop := ∀ x y, 0 ≤ x → x < nw → 0 ≤ y → (y < Y ∨ (y = Y ∧ x < X)) → h 4 (y * nw + x) = F x y
theorem jdone_set {h : jm_H} {nw : Int} {F : Int → Int → Int} {X Y v : Int} (hd : jdone h nw F X Y) (h0 : 0 ≤ X) (h1 : X < nw) (hv : v = F X Y) : jdone (jm_hs h 4 (Y * nw + X) v) nw F (X + 1) Y := by
  intro x y a b c e
  rw [js_hs_eq]
  by_cases q : y * nw + x = Y * nw + X
  · obtain ⟨rfl, rfl⟩ := jrow_ne a b h0 h1 q
    rw [if_pos rfl, hv]
  · rw [if_neg q]
    refine hd x y a b c ?_
    rcases e with e | ⟨rfl, e⟩
    · exact Or.inl e
    · refine Or.inr ⟨rfl, ?_⟩
      have : x ≠ X := fun w => q (by rw [w])
      omega
theorem jdone_row {h : jm_H} {nw : Int} {F : Int → Int → Int} {Y : Int} (hd : jdone h nw F nw Y) : jdone h nw F 0 (Y + 1) := by
  intro x y a b c e
  refine hd x y a b c ?_
  omega
theorem c_g_turnFrom_L2 {Q : Option jm_V → jm_H → Prop} (hp : jm_H) (hG : jG hp 5 6) (y : Int) (hy0 : 0 ≤ y) (hy1 : y < (hp 5 1)) (k : ∀ h : jm_H, h 3 1 = (hp 5 2) → h 3 2 = (hp 5 1) → (∀ j, 0 ≤ j → j < 25 → -1 ≤ h 4 j ∧ h 4 j ≤ 4) → jFr hp h [3, 4] → jdone h (hp 5 2) (fun x y => jgk (hp 5 1) (hp 5 2) (hp 6) y ((hp 5 2) - 1 - x)) 0 (y + 1) → jm_Ev 37 63 [jR 3, jR 5, jI y, jI (hp 5 2)] [] h Q) : ∀ (n : Nat) (x : Int) (h : jm_H), 0 ≤ x → x ≤ (hp 5 2) → h 3 1 = (hp 5 2) → h 3 2 = (hp 5 1) → (∀ j, 0 ≤ j → j < 25 → -1 ≤ h 4 j ∧ h 4 j ≤ 4) → jFr hp h [3, 4] → jdone h (hp 5 2) (fun x y => jgk (hp 5 1) (hp 5 2) (hp 6) y ((hp 5 2) - 1 - x)) x y → (hp 5 2) - x < n → jm_Ev 37 24 [jR 3, jR 5, jI y, jI x] [] h Q := by
  obtain ⟨gw0, gw5, gh0, gh5, gk⟩ := id hG
  intro n
  induction n with
  | zero => intro x h hx0 hx1 e1 e2 hk hf hd hn; omega
  | succ n ih =>
    intro x h hx0 hx1 e1 e2 hk hf hd hn
    have hG5 : jG h 5 6 := by unfold jG; rw [hf 5 (by decide), hf 6 (by decide)]; exact hG
    have hG3 : jG h 3 4 := ⟨by omega, by omega, by omega, by omega, hk⟩
    refine jm_Ev.bl 3 (pc' := 29) (A' := [jR 3, jR 5, jI y, jI x]) (st' := [jI (h 3 1), jI x]) (hp' := h) rfl ?_
    refine jE_icmp_ge rfl (by omega) (by omega) (fun c29 => ?_) (fun c29 => ?_)
    · have ex : x = (hp 5 2) := by omega
      subst ex
      exact k h e1 e2 hk hf (jdone_row hd)
    · have hix := jm_ix hx0 c29 hy0 (show y < h 3 2 by omega)
      refine jm_Ev.bl 15 (pc' := 51) (A' := [jR 3, jR 5, jI y, jI x]) (st' := [jI (((h 3 1) - 1) - x), jI y, jR 5, jI ((y * (h 3 1)) + x), jR 3]) (hp' := h) rfl ?_
      refine jE_callI (vs := [jR 5, jI y, jI (((h 3 1) - 1) - x)]) (r := [jI ((y * (h 3 1)) + x), jR 3]) (nx := 54) (v := jI (jgk (h 5 1) (h 5 2) (h 6) y (((h 3 1) - 1) - x))) (hp1 := h) rfl (c_g_kindAtCell_5 h hG5 _ _ (by omega) (by omega)) ?_
      refine jE_callV (vs := [jR 3, jI ((y * (h 3 1)) + x), jI (jgk (h 5 1) (h 5 2) (h 6) y (((h 3 1) - 1) - x))]) (r := []) (nx := 57) (hp1 := (jm_hs h 4 ((y * (h 3 1)) + x) (jgk (h 5 1) (h 5 2) (h 6) y (((h 3 1) - 1) - x)))) rfl (c_g_set_3 h hG3 _ _ hix.1 hix.2) ?_
      refine jm_Ev.bl 2 (pc' := 24) (A' := [jR 3, jR 5, jI y, jI (x + 1)]) (st' := []) (hp' := (jm_hs h 4 ((y * (h 3 1)) + x) (jgk (h 5 1) (h 5 2) (h 6) y (((h 3 1) - 1) - x)))) rfl ?_
      exact ih (x + 1) (jm_hs h 4 ((y * (h 3 1)) + x) (jgk (h 5 1) (h 5 2) (h 6) y (((h 3 1) - 1) - x))) (by omega) (by omega) e1 e2 (fun j a b => by rw [js_hs_eq]; split; exact jgk_r hG5 _ _; exact hk j a b) (hf.set (by decide)) (by have := jdone_set (v := jgk (h 5 1) (h 5 2) (h 6) y (h 3 1 - 1 - x)) hd hx0 (by omega) (by rw [e1, hf 5 (by decide), hf 6 (by decide)]); rw [← e1] at this ⊢; exact this) (by omega)
theorem c_g_turnFrom_L {Q : Option jm_V → jm_H → Prop} (hp : jm_H) (hG : jG hp 5 6) (k : ∀ h : jm_H, h 3 1 = (hp 5 2) → h 3 2 = (hp 5 1) → (∀ x y, 0 ≤ x → x < (hp 5 2) → 0 ≤ y → y < (hp 5 1) → h 4 (y * (hp 5 2) + x) = (fun x y => jgk (hp 5 1) (hp 5 2) (hp 6) y ((hp 5 2) - 1 - x)) x y) → jFr hp h [3, 4] → ∀ z, jm_Ev 37 69 [jR 3, jR 5, jI (hp 5 1), z] [] h Q) : ∀ (n : Nat) (y : Int) (z : jm_V) (h : jm_H), 0 ≤ y → y ≤ (hp 5 1) → h 3 1 = (hp 5 2) → h 3 2 = (hp 5 1) → (∀ j, 0 ≤ j → j < 25 → -1 ≤ h 4 j ∧ h 4 j ≤ 4) → jFr hp h [3, 4] → jdone h (hp 5 2) (fun x y => jgk (hp 5 1) (hp 5 2) (hp 6) y ((hp 5 2) - 1 - x)) 0 y → (hp 5 1) - y < n → jm_Ev 37 14 [jR 3, jR 5, jI y, z] [] h Q := by
  obtain ⟨gw0, gw5, gh0, gh5, gk⟩ := id hG
  intro n
  induction n with
  | zero => intro y z h hy0 hy1 e1 e2 hk hf hd hn; omega
  | succ n ih =>
    intro y z h hy0 hy1 e1 e2 hk hf hd hn
    refine jm_Ev.bl 3 (pc' := 19) (A' := [jR 3, jR 5, jI y, z]) (st' := [jI (h 3 2), jI y]) (hp' := h) rfl ?_
    refine jE_icmp_ge rfl (by omega) (by omega) (fun c19 => ?_) (fun c19 => ?_)
    · have ey : y = (hp 5 1) := by omega
      subst ey
      exact k h e1 e2 (fun x y a b c d => hd x y a b c (Or.inl d)) hf z
    · refine jm_Ev.bl 2 (pc' := 24) (A' := [jR 3, jR 5, jI y, jI 0]) (st' := []) (hp' := h) rfl ?_
      exact c_g_turnFrom_L2 hp hG y hy0 (by omega) (fun h a b c d e => (jm_Ev.bl 2 (pc' := 14) (A' := [jR 3, jR 5, jI (y + 1), jI (hp 5 2)]) (st' := []) (hp' := h) rfl (ih (y + 1) (jI (hp 5 2)) h (by omega) (by omega) a b c d e (by omega)))) 6 0 h (by omega) (by omega) e1 e2 hk hf hd (by omega)
theorem c_g_turnFrom (hp : jm_H) (hG : jG hp 5 6) : jm_Ev 37 0 [jR 3, jR 5, jU, jU] [] hp (jnew hp (hp 5 2) (hp 5 1) (fun x y => jgk (hp 5 1) (hp 5 2) (hp 6) y ((hp 5 2) - 1 - x))) := by
  obtain ⟨gw0, gw5, gh0, gh5, gk⟩ := id hG
  refine jm_Ev.bl 5 (pc' := 9) (A' := [jR 3, jR 5, jU, jU]) (st' := [jI (hp 5 1), jI (hp 5 2), jR 3]) (hp' := hp) rfl ?_
  refine jE_call (vs := [jR 3, jI (hp 5 2), jI (hp 5 1)]) (r := []) (nx := 12) rfl (c_g_clear_3 hp (hp 5 2) (hp 5 1)) (fun rv9 h hq => ?_)
  obtain ⟨rfl, a, b, c, d⟩ := hq
  refine jm_Ev.bl 2 (pc' := 14) (A' := [jR 3, jR 5, jI 0, jU]) (st' := []) (hp' := h) rfl ?_
  exact c_g_turnFrom_L hp hG (fun h a b c d z => jE_ret rfl ⟨rfl, a, b, c, d⟩) 6 0 _ h (by omega) (by omega) a b (fun j u v => by rw [c j u v]; omega) d (fun x y a b c d => by omega) (by omega)
theorem c_g_mirrorFrom_L2 {Q : Option jm_V → jm_H → Prop} (hp : jm_H) (hG : jG hp 5 6) (y : Int) (hy0 : 0 ≤ y) (hy1 : y < (hp 5 2)) (k : ∀ h : jm_H, h 3 1 = (hp 5 1) → h 3 2 = (hp 5 2) → (∀ j, 0 ≤ j → j < 25 → -1 ≤ h 4 j ∧ h 4 j ≤ 4) → jFr hp h [3, 4] → jdone h (hp 5 1) (fun x y => jgk (hp 5 1) (hp 5 2) (hp 6) ((hp 5 1) - 1 - x) y) 0 (y + 1) → jm_Ev 38 63 [jR 3, jR 5, jI y, jI (hp 5 1)] [] h Q) : ∀ (n : Nat) (x : Int) (h : jm_H), 0 ≤ x → x ≤ (hp 5 1) → h 3 1 = (hp 5 1) → h 3 2 = (hp 5 2) → (∀ j, 0 ≤ j → j < 25 → -1 ≤ h 4 j ∧ h 4 j ≤ 4) → jFr hp h [3, 4] → jdone h (hp 5 1) (fun x y => jgk (hp 5 1) (hp 5 2) (hp 6) ((hp 5 1) - 1 - x) y) x y → (hp 5 1) - x < n → jm_Ev 38 24 [jR 3, jR 5, jI y, jI x] [] h Q := by
  obtain ⟨gw0, gw5, gh0, gh5, gk⟩ := id hG
  intro n
  induction n with
  | zero => intro x h hx0 hx1 e1 e2 hk hf hd hn; omega
  | succ n ih =>
    intro x h hx0 hx1 e1 e2 hk hf hd hn
    have hG5 : jG h 5 6 := by unfold jG; rw [hf 5 (by decide), hf 6 (by decide)]; exact hG
    have hG3 : jG h 3 4 := ⟨by omega, by omega, by omega, by omega, hk⟩
    refine jm_Ev.bl 3 (pc' := 29) (A' := [jR 3, jR 5, jI y, jI x]) (st' := [jI (h 3 1), jI x]) (hp' := h) rfl ?_
    refine jE_icmp_ge rfl (by omega) (by omega) (fun c29 => ?_) (fun c29 => ?_)
    · have ex : x = (hp 5 1) := by omega
      subst ex
      exact k h e1 e2 hk hf (jdone_row hd)
    · have hix := jm_ix hx0 c29 hy0 (show y < h 3 2 by omega)
      refine jm_Ev.bl 15 (pc' := 51) (A' := [jR 3, jR 5, jI y, jI x]) (st' := [jI y, jI (((h 3 1) - 1) - x), jR 5, jI ((y * (h 3 1)) + x), jR 3]) (hp' := h) rfl ?_
      refine jE_callI (vs := [jR 5, jI (((h 3 1) - 1) - x), jI y]) (r := [jI ((y * (h 3 1)) + x), jR 3]) (nx := 54) (v := jI (jgk (h 5 1) (h 5 2) (h 6) (((h 3 1) - 1) - x) y)) (hp1 := h) rfl (c_g_kindAtCell_5 h hG5 _ _ (by omega) (by omega)) ?_
      refine jE_callV (vs := [jR 3, jI ((y * (h 3 1)) + x), jI (jgk (h 5 1) (h 5 2) (h 6) (((h 3 1) - 1) - x) y)]) (r := []) (nx := 57) (hp1 := (jm_hs h 4 ((y * (h 3 1)) + x) (jgk (h 5 1) (h 5 2) (h 6) (((h 3 1) - 1) - x) y))) rfl (c_g_set_3 h hG3 _ _ hix.1 hix.2) ?_
      refine jm_Ev.bl 2 (pc' := 24) (A' := [jR 3, jR 5, jI y, jI (x + 1)]) (st' := []) (hp' := (jm_hs h 4 ((y * (h 3 1)) + x) (jgk (h 5 1) (h 5 2) (h 6) (((h 3 1) - 1) - x) y))) rfl ?_
      exact ih (x + 1) (jm_hs h 4 ((y * (h 3 1)) + x) (jgk (h 5 1) (h 5 2) (h 6) (((h 3 1) - 1) - x) y)) (by omega) (by omega) e1 e2 (fun j a b => by rw [js_hs_eq]; split; exact jgk_r hG5 _ _; exact hk j a b) (hf.set (by decide)) (by have := jdone_set (v := jgk (h 5 1) (h 5 2) (h 6) (h 3 1 - 1 - x) y) hd hx0 (by omega) (by rw [e1, hf 5 (by decide), hf 6 (by decide)]); rw [← e1] at this ⊢; exact this) (by omega)
theorem c_g_mirrorFrom_L {Q : Option jm_V → jm_H → Prop} (hp : jm_H) (hG : jG hp 5 6) (k : ∀ h : jm_H, h 3 1 = (hp 5 1) → h 3 2 = (hp 5 2) → (∀ x y, 0 ≤ x → x < (hp 5 1) → 0 ≤ y → y < (hp 5 2) → h 4 (y * (hp 5 1) + x) = (fun x y => jgk (hp 5 1) (hp 5 2) (hp 6) ((hp 5 1) - 1 - x) y) x y) → jFr hp h [3, 4] → ∀ z, jm_Ev 38 69 [jR 3, jR 5, jI (hp 5 2), z] [] h Q) : ∀ (n : Nat) (y : Int) (z : jm_V) (h : jm_H), 0 ≤ y → y ≤ (hp 5 2) → h 3 1 = (hp 5 1) → h 3 2 = (hp 5 2) → (∀ j, 0 ≤ j → j < 25 → -1 ≤ h 4 j ∧ h 4 j ≤ 4) → jFr hp h [3, 4] → jdone h (hp 5 1) (fun x y => jgk (hp 5 1) (hp 5 2) (hp 6) ((hp 5 1) - 1 - x) y) 0 y → (hp 5 2) - y < n → jm_Ev 38 14 [jR 3, jR 5, jI y, z] [] h Q := by
  obtain ⟨gw0, gw5, gh0, gh5, gk⟩ := id hG
  intro n
  induction n with
  | zero => intro y z h hy0 hy1 e1 e2 hk hf hd hn; omega
  | succ n ih =>
    intro y z h hy0 hy1 e1 e2 hk hf hd hn
    refine jm_Ev.bl 3 (pc' := 19) (A' := [jR 3, jR 5, jI y, z]) (st' := [jI (h 3 2), jI y]) (hp' := h) rfl ?_
    refine jE_icmp_ge rfl (by omega) (by omega) (fun c19 => ?_) (fun c19 => ?_)
    · have ey : y = (hp 5 2) := by omega
      subst ey
      exact k h e1 e2 (fun x y a b c d => hd x y a b c (Or.inl d)) hf z
    · refine jm_Ev.bl 2 (pc' := 24) (A' := [jR 3, jR 5, jI y, jI 0]) (st' := []) (hp' := h) rfl ?_
      exact c_g_mirrorFrom_L2 hp hG y hy0 (by omega) (fun h a b c d e => (jm_Ev.bl 2 (pc' := 14) (A' := [jR 3, jR 5, jI (y + 1), jI (hp 5 1)]) (st' := []) (hp' := h) rfl (ih (y + 1) (jI (hp 5 1)) h (by omega) (by omega) a b c d e (by omega)))) 6 0 h (by omega) (by omega) e1 e2 hk hf hd (by omega)
theorem c_g_mirrorFrom (hp : jm_H) (hG : jG hp 5 6) : jm_Ev 38 0 [jR 3, jR 5, jU, jU] [] hp (jnew hp (hp 5 1) (hp 5 2) (fun x y => jgk (hp 5 1) (hp 5 2) (hp 6) ((hp 5 1) - 1 - x) y)) := by
  obtain ⟨gw0, gw5, gh0, gh5, gk⟩ := id hG
  refine jm_Ev.bl 5 (pc' := 9) (A' := [jR 3, jR 5, jU, jU]) (st' := [jI (hp 5 2), jI (hp 5 1), jR 3]) (hp' := hp) rfl ?_
  refine jE_call (vs := [jR 3, jI (hp 5 1), jI (hp 5 2)]) (r := []) (nx := 12) rfl (c_g_clear_3 hp (hp 5 1) (hp 5 2)) (fun rv9 h hq => ?_)
  obtain ⟨rfl, a, b, c, d⟩ := hq
  refine jm_Ev.bl 2 (pc' := 14) (A' := [jR 3, jR 5, jI 0, jU]) (st' := []) (hp' := h) rfl ?_
  exact c_g_mirrorFrom_L hp hG (fun h a b c d z => jE_ret rfl ⟨rfl, a, b, c, d⟩) 6 0 _ h (by omega) (by omega) a b (fun j u v => by rw [c j u v]; omega) d (fun x y a b c d => by omega) (by omega)
