/-! the model's edges, points -/
theorem jed_0 (K : Int → Int → Int) (x y : Int) : jed K x y 0 = (decide (K x y ≠ -1) && decide (K x (y - 1) = -1)) := rfl
theorem jed_1 (K : Int → Int → Int) (x y : Int) : jed K x y 1 = (decide (K (x - 1) y ≠ -1) && decide (K x y = -1)) := rfl
theorem jed_2 (K : Int → Int → Int) (x y : Int) : jed K x y 2 = (decide (K (x - 1) (y - 1) ≠ -1) && decide (K (x - 1) y = -1)) := rfl
theorem jed_3 (K : Int → Int → Int) (x y w : Int) (h : w = 3) : jed K x y w = (decide (K x (y - 1) ≠ -1) && decide (K (x - 1) (y - 1) = -1)) := by subst h; rfl
theorem jgk_m {hp : jm_H} (hM : jMG hp) (x y : Int) : -1 ≤ jgk (hp 56 6) (hp 56 7) (hp 58) x y ∧ jgk (hp 56 6) (hp 56 7) (hp 58) x y ≤ 4 := jgk_rng hM.1 hM.2.1 hM.2.2.1 hM.2.2.2.1 hM.2.2.2.2 x y
theorem c_m_isEdge (hp : jm_H) (hM : jMG hp) (x y w : Int) (hx : 0 ≤ x ∧ x ≤ 5) (hy : 0 ≤ y ∧ y ≤ 5) (hw : 0 ≤ w ∧ w ≤ 3) : jm_Ev 148 0 [jR 56, jI x, jI y, jI w] [] hp (jK (some (jI (jb (jed (jgk (hp 56 6) (hp 56 7) (hp 58)) x y w)))) hp) := by
  have r1 := jgk_m hM x y
  have r2 := jgk_m hM (x - 1) y
  have r3 := jgk_m hM x (y - 1)
  have r4 := jgk_m hM (x - 1) (y - 1)
  refine jm_Ev.bl 1 (pc' := 1) (A' := [jR 56, jI x, jI y, jI w]) (st' := [jI w]) (hp' := hp) rfl ?_
  rcases (show w = 0 ∨ w = 1 ∨ w = 2 ∨ (w < 0 ∨ 2 < w) by omega) with c1 | c1 | c1 | c1
  · subst c1
    refine jm_Ev.bl 4 (pc' := 31) (A' := [jR 56, jI x, jI y, jI 0]) (st' := [jI y, jI x, jR 56]) (hp' := hp) rfl ?_
    refine jE_callI (vs := [jR 56, jI x, jI y]) (r := []) (nx := 34) (v := jI (jgk (hp 56 6) (hp 56 7) (hp 58) x y)) (hp1 := hp) rfl (c_m_kindAt hp hM x y (by omega) (by omega)) ?_
    refine jm_Ev.bl 1 (pc' := 35) (A' := [jR 56, jI x, jI y, jI 0]) (st' := [jI (-1), jI (jgk (hp 56 6) (hp 56 7) (hp 58) x y)]) (hp' := hp) rfl ?_
    refine jE_icmp_eq rfl (by omega) (by omega) (fun c35 => ?_) (fun c35 => ?_)
    · refine jm_Ev.bl 1 (pc' := 55) (A' := [jR 56, jI x, jI y, jI 0]) (st' := [jI 0]) (hp' := hp) rfl ?_
      exact jE_ret rfl ⟨jrI (by rw [jed_0, decide_eq_false (fun z => z c35)]; rfl), rfl⟩
    · refine jm_Ev.bl 5 (pc' := 43) (A' := [jR 56, jI x, jI y, jI 0]) (st' := [jI (y - 1), jI x, jR 56]) (hp' := hp) rfl ?_
      refine jE_callI (vs := [jR 56, jI x, jI (y - 1)]) (r := []) (nx := 46) (v := jI (jgk (hp 56 6) (hp 56 7) (hp 58) x (y - 1))) (hp1 := hp) rfl (c_m_kindAt hp hM x (y - 1) (by omega) (by omega)) ?_
      refine jm_Ev.bl 1 (pc' := 47) (A' := [jR 56, jI x, jI y, jI 0]) (st' := [jI (-1), jI (jgk (hp 56 6) (hp 56 7) (hp 58) x (y - 1))]) (hp' := hp) rfl ?_
      refine jE_icmp_ne rfl (by omega) (by omega) (fun c47 => ?_) (fun c47 => ?_)
      · refine jm_Ev.bl 1 (pc' := 55) (A' := [jR 56, jI x, jI y, jI 0]) (st' := [jI 0]) (hp' := hp) rfl ?_
        exact jE_ret rfl ⟨jrI (by rw [jed_0, decide_eq_true c35, decide_eq_false c47]; rfl), rfl⟩
      · refine jm_Ev.bl 2 (pc' := 55) (A' := [jR 56, jI x, jI y, jI 0]) (st' := [jI 1]) (hp' := hp) rfl ?_
        exact jE_ret rfl ⟨jrI (by rw [jed_0, decide_eq_true c35, decide_eq_true c47]; rfl), rfl⟩
  · subst c1
    refine jm_Ev.bl 6 (pc' := 61) (A' := [jR 56, jI x, jI y, jI 1]) (st' := [jI y, jI (x - 1), jR 56]) (hp' := hp) rfl ?_
    refine jE_callI (vs := [jR 56, jI (x - 1), jI y]) (r := []) (nx := 64) (v := jI (jgk (hp 56 6) (hp 56 7) (hp 58) (x - 1) y)) (hp1 := hp) rfl (c_m_kindAt hp hM (x - 1) y (by omega) (by omega)) ?_
    refine jm_Ev.bl 1 (pc' := 65) (A' := [jR 56, jI x, jI y, jI 1]) (st' := [jI (-1), jI (jgk (hp 56 6) (hp 56 7) (hp 58) (x - 1) y)]) (hp' := hp) rfl ?_
    refine jE_icmp_eq rfl (by omega) (by omega) (fun c65 => ?_) (fun c65 => ?_)
    · refine jm_Ev.bl 1 (pc' := 83) (A' := [jR 56, jI x, jI y, jI 1]) (st' := [jI 0]) (hp' := hp) rfl ?_
      exact jE_ret rfl ⟨jrI (by rw [jed_1, decide_eq_false (fun z => z c65)]; rfl), rfl⟩
    · refine jm_Ev.bl 3 (pc' := 71) (A' := [jR 56, jI x, jI y, jI 1]) (st' := [jI y, jI x, jR 56]) (hp' := hp) rfl ?_
      refine jE_callI (vs := [jR 56, jI x, jI y]) (r := []) (nx := 74) (v := jI (jgk (hp 56 6) (hp 56 7) (hp 58) x y)) (hp1 := hp) rfl (c_m_kindAt hp hM x y (by omega) (by omega)) ?_
      refine jm_Ev.bl 1 (pc' := 75) (A' := [jR 56, jI x, jI y, jI 1]) (st' := [jI (-1), jI (jgk (hp 56 6) (hp 56 7) (hp 58) x y)]) (hp' := hp) rfl ?_
      refine jE_icmp_ne rfl (by omega) (by omega) (fun c75 => ?_) (fun c75 => ?_)
      · refine jm_Ev.bl 1 (pc' := 83) (A' := [jR 56, jI x, jI y, jI 1]) (st' := [jI 0]) (hp' := hp) rfl ?_
        exact jE_ret rfl ⟨jrI (by rw [jed_1, decide_eq_true c65, decide_eq_false c75]; rfl), rfl⟩
      · refine jm_Ev.bl 2 (pc' := 83) (A' := [jR 56, jI x, jI y, jI 1]) (st' := [jI 1]) (hp' := hp) rfl ?_
        exact jE_ret rfl ⟨jrI (by rw [jed_1, decide_eq_true c65, decide_eq_true c75]; rfl), rfl⟩
  · subst c1
    refine jm_Ev.bl 8 (pc' := 91) (A' := [jR 56, jI x, jI y, jI 2]) (st' := [jI (y - 1), jI (x - 1), jR 56]) (hp' := hp) rfl ?_
    refine jE_callI (vs := [jR 56, jI (x - 1), jI (y - 1)]) (r := []) (nx := 94) (v := jI (jgk (hp 56 6) (hp 56 7) (hp 58) (x - 1) (y - 1))) (hp1 := hp) rfl (c_m_kindAt hp hM (x - 1) (y - 1) (by omega) (by omega)) ?_
    refine jm_Ev.bl 1 (pc' := 95) (A' := [jR 56, jI x, jI y, jI 2]) (st' := [jI (-1), jI (jgk (hp 56 6) (hp 56 7) (hp 58) (x - 1) (y - 1))]) (hp' := hp) rfl ?_
    refine jE_icmp_eq rfl (by omega) (by omega) (fun c95 => ?_) (fun c95 => ?_)
    · refine jm_Ev.bl 1 (pc' := 115) (A' := [jR 56, jI x, jI y, jI 2]) (st' := [jI 0]) (hp' := hp) rfl ?_
      exact jE_ret rfl ⟨jrI (by rw [jed_2, decide_eq_false (fun z => z c95)]; rfl), rfl⟩
    · refine jm_Ev.bl 5 (pc' := 103) (A' := [jR 56, jI x, jI y, jI 2]) (st' := [jI y, jI (x - 1), jR 56]) (hp' := hp) rfl ?_
      refine jE_callI (vs := [jR 56, jI (x - 1), jI y]) (r := []) (nx := 106) (v := jI (jgk (hp 56 6) (hp 56 7) (hp 58) (x - 1) y)) (hp1 := hp) rfl (c_m_kindAt hp hM (x - 1) y (by omega) (by omega)) ?_
      refine jm_Ev.bl 1 (pc' := 107) (A' := [jR 56, jI x, jI y, jI 2]) (st' := [jI (-1), jI (jgk (hp 56 6) (hp 56 7) (hp 58) (x - 1) y)]) (hp' := hp) rfl ?_
      refine jE_icmp_ne rfl (by omega) (by omega) (fun c107 => ?_) (fun c107 => ?_)
      · refine jm_Ev.bl 1 (pc' := 115) (A' := [jR 56, jI x, jI y, jI 2]) (st' := [jI 0]) (hp' := hp) rfl ?_
        exact jE_ret rfl ⟨jrI (by rw [jed_2, decide_eq_true c95, decide_eq_false c107]; rfl), rfl⟩
      · refine jm_Ev.bl 2 (pc' := 115) (A' := [jR 56, jI x, jI y, jI 2]) (st' := [jI 1]) (hp' := hp) rfl ?_
        exact jE_ret rfl ⟨jrI (by rw [jed_2, decide_eq_true c95, decide_eq_true c107]; rfl), rfl⟩
  · refine jE_tswd rfl (by omega) c1 ?_
    refine jm_Ev.bl 5 (pc' := 121) (A' := [jR 56, jI x, jI y, jI w]) (st' := [jI (y - 1), jI x, jR 56]) (hp' := hp) rfl ?_
    refine jE_callI (vs := [jR 56, jI x, jI (y - 1)]) (r := []) (nx := 124) (v := jI (jgk (hp 56 6) (hp 56 7) (hp 58) x (y - 1))) (hp1 := hp) rfl (c_m_kindAt hp hM x (y - 1) (by omega) (by omega)) ?_
    refine jm_Ev.bl 1 (pc' := 125) (A' := [jR 56, jI x, jI y, jI w]) (st' := [jI (-1), jI (jgk (hp 56 6) (hp 56 7) (hp 58) x (y - 1))]) (hp' := hp) rfl ?_
    refine jE_icmp_eq rfl (by omega) (by omega) (fun c125 => ?_) (fun c125 => ?_)
    · refine jm_Ev.bl 1 (pc' := 147) (A' := [jR 56, jI x, jI y, jI w]) (st' := [jI 0]) (hp' := hp) rfl ?_
      exact jE_ret rfl ⟨jrI (by rw [jed_3 _ _ _ _ (show w = 3 by omega), decide_eq_false (fun z => z c125)]; rfl), rfl⟩
    · refine jm_Ev.bl 7 (pc' := 135) (A' := [jR 56, jI x, jI y, jI w]) (st' := [jI (y - 1), jI (x - 1), jR 56]) (hp' := hp) rfl ?_
      refine jE_callI (vs := [jR 56, jI (x - 1), jI (y - 1)]) (r := []) (nx := 138) (v := jI (jgk (hp 56 6) (hp 56 7) (hp 58) (x - 1) (y - 1))) (hp1 := hp) rfl (c_m_kindAt hp hM (x - 1) (y - 1) (by omega) (by omega)) ?_
      refine jm_Ev.bl 1 (pc' := 139) (A' := [jR 56, jI x, jI y, jI w]) (st' := [jI (-1), jI (jgk (hp 56 6) (hp 56 7) (hp 58) (x - 1) (y - 1))]) (hp' := hp) rfl ?_
      refine jE_icmp_ne rfl (by omega) (by omega) (fun c139 => ?_) (fun c139 => ?_)
      · refine jm_Ev.bl 1 (pc' := 147) (A' := [jR 56, jI x, jI y, jI w]) (st' := [jI 0]) (hp' := hp) rfl ?_
        exact jE_ret rfl ⟨jrI (by rw [jed_3 _ _ _ _ (show w = 3 by omega), decide_eq_true c125, decide_eq_false c139]; rfl), rfl⟩
      · refine jm_Ev.bl 2 (pc' := 147) (A' := [jR 56, jI x, jI y, jI w]) (st' := [jI 1]) (hp' := hp) rfl ?_
        exact jE_ret rfl ⟨jrI (by rw [jed_3 _ _ _ _ (show w = 3 by omega), decide_eq_true c125, decide_eq_true c139]; rfl), rfl⟩
theorem c_m_stepX (hp : jm_H) (w : Int) (hw : 0 ≤ w ∧ w ≤ 3) : jm_Ev 149 0 [jI w] [] hp (jK (some (jI (jsx w))) hp) := by
  refine jm_Ev.bl 1 (pc' := 1) (A' := [jI w]) (st' := [jI w]) (hp' := hp) rfl ?_
  refine jE_if_ne rfl (by omega) (fun c1 => ?_) (fun c1 => ?_)
  · refine jm_Ev.bl 2 (pc' := 10) (A' := [jI w]) (st' := [jI 2, jI w]) (hp' := hp) rfl ?_
    refine jE_icmp_ne rfl (by omega) (by omega) (fun c10 => ?_) (fun c10 => ?_)
    · refine jm_Ev.bl 1 (pc' := 18) (A' := [jI w]) (st' := [jI 0]) (hp' := hp) rfl ?_
      exact jE_ret rfl ⟨jrI (by unfold jsx; (repeat' split) <;> omega), rfl⟩
    · refine jm_Ev.bl 2 (pc' := 18) (A' := [jI w]) (st' := [jI (-1)]) (hp' := hp) rfl ?_
      exact jE_ret rfl ⟨jrI (by unfold jsx; (repeat' split) <;> omega), rfl⟩
  · refine jm_Ev.bl 2 (pc' := 18) (A' := [jI w]) (st' := [jI 1]) (hp' := hp) rfl ?_
    exact jE_ret rfl ⟨jrI (by unfold jsx; (repeat' split) <;> omega), rfl⟩
theorem c_m_stepY (hp : jm_H) (w : Int) (hw : 0 ≤ w ∧ w ≤ 3) : jm_Ev 150 0 [jI w] [] hp (jK (some (jI (jsy w))) hp) := by
  refine jm_Ev.bl 2 (pc' := 2) (A' := [jI w]) (st' := [jI 1, jI w]) (hp' := hp) rfl ?_
  refine jE_icmp_ne rfl (by omega) (by omega) (fun c2 => ?_) (fun c2 => ?_)
  · refine jm_Ev.bl 2 (pc' := 11) (A' := [jI w]) (st' := [jI 3, jI w]) (hp' := hp) rfl ?_
    refine jE_icmp_ne rfl (by omega) (by omega) (fun c11 => ?_) (fun c11 => ?_)
    · refine jm_Ev.bl 1 (pc' := 19) (A' := [jI w]) (st' := [jI 0]) (hp' := hp) rfl ?_
      exact jE_ret rfl ⟨jrI (by unfold jsy; (repeat' split) <;> omega), rfl⟩
    · refine jm_Ev.bl 2 (pc' := 19) (A' := [jI w]) (st' := [jI (-1)]) (hp' := hp) rfl ?_
      exact jE_ret rfl ⟨jrI (by unfold jsy; (repeat' split) <;> omega), rfl⟩
  · refine jm_Ev.bl 2 (pc' := 19) (A' := [jI w]) (st' := [jI 1]) (hp' := hp) rfl ?_
    exact jE_ret rfl ⟨jrI (by unfold jsy; (repeat' split) <;> omega), rfl⟩
theorem c_m_nextWay (hp : jm_H) (hM : jMG hp) (x y w : Int) (hx : 0 ≤ x ∧ x ≤ 5) (hy : 0 ≤ y ∧ y ≤ 5) (hw : 0 ≤ w ∧ w ≤ 3) : jm_Ev 151 0 [jR 56, jI x, jI y, jI w, jU, jU] [] hp (jK (some (jI (jnw (jgk (hp 56 6) (hp 56 7) (hp 58)) x y w))) hp) := by
  refine jm_Ev.bl 4 (pc' := 4) (A' := [jR 56, jI x, jI y, jI w, jU, jU]) (st' := [jI 4, jI (w + 1)]) (hp' := hp) rfl ?_
  refine jE_irem rfl (by omega) (by omega) ?_
  refine jm_Ev.bl 5 (pc' := 11) (A' := [jR 56, jI x, jI y, jI w, jI ((w + 1) % 4), jU]) (st' := [jI 4, jI (w + 3)]) (hp' := hp) rfl ?_
  refine jE_irem rfl (by omega) (by omega) ?_
  refine jm_Ev.bl 5 (pc' := 19) (A' := [jR 56, jI x, jI y, jI w, jI ((w + 1) % 4), jI ((w + 3) % 4)]) (st' := [jI ((w + 1) % 4), jI y, jI x, jR 56]) (hp' := hp) rfl ?_
  refine jE_callI (vs := [jR 56, jI x, jI y, jI ((w + 1) % 4)]) (r := []) (nx := 22) (v := jI (jb (jed (jgk (hp 56 6) (hp 56 7) (hp 58)) x y ((w + 1) % 4)))) (hp1 := hp) rfl (c_m_isEdge hp hM x y ((w + 1) % 4) hx hy (by omega)) ?_
  refine jE_ifb_eq rfl (fun c22 => ?_) (fun c22 => ?_)
  · refine jm_Ev.bl 4 (pc' := 34) (A' := [jR 56, jI x, jI y, jI w, jI ((w + 1) % 4), jI ((w + 3) % 4)]) (st' := [jI w, jI y, jI x, jR 56]) (hp' := hp) rfl ?_
    refine jE_callI (vs := [jR 56, jI x, jI y, jI w]) (r := []) (nx := 37) (v := jI (jb (jed (jgk (hp 56 6) (hp 56 7) (hp 58)) x y w))) (hp1 := hp) rfl (c_m_isEdge hp hM x y w hx hy (by omega)) ?_
    refine jE_ifb_eq rfl (fun c37 => ?_) (fun c37 => ?_)
    · refine jm_Ev.bl 1 (pc' := 46) (A' := [jR 56, jI x, jI y, jI w, jI ((w + 1) % 4), jI ((w + 3) % 4)]) (st' := [jI ((w + 3) % 4)]) (hp' := hp) rfl ?_
      exact jE_ret rfl ⟨jrI (by unfold jnw; first | rw [if_pos c22] | rw [if_neg (by rw [c22]; simp), if_pos c37] | rw [if_neg (by rw [c22]; simp), if_neg (by rw [c37]; simp)]), rfl⟩
    · refine jm_Ev.bl 2 (pc' := 46) (A' := [jR 56, jI x, jI y, jI w, jI ((w + 1) % 4), jI ((w + 3) % 4)]) (st' := [jI w]) (hp' := hp) rfl ?_
      exact jE_ret rfl ⟨jrI (by unfold jnw; first | rw [if_pos c22] | rw [if_neg (by rw [c22]; simp), if_pos c37] | rw [if_neg (by rw [c22]; simp), if_neg (by rw [c37]; simp)]), rfl⟩
  · refine jm_Ev.bl 2 (pc' := 46) (A' := [jR 56, jI x, jI y, jI w, jI ((w + 1) % 4), jI ((w + 3) % 4)]) (st' := [jI ((w + 1) % 4)]) (hp' := hp) rfl ?_
    exact jE_ret rfl ⟨jrI (by unfold jnw; first | rw [if_pos c22] | rw [if_neg (by rw [c22]; simp), if_pos c37] | rw [if_neg (by rw [c22]; simp), if_neg (by rw [c37]; simp)]), rfl⟩
def jtc (K : Int → Int → Int) (x y k : Int) : Int := (if K x y = k then 1 else 0) + (if K (x - 1) y = k then 1 else 0) + (if K x (y - 1) = k then 1 else 0) + (if K (x - 1) (y - 1) = k then 1 else 0)
theorem jtc_p (K : Int → Int → Int) (x y k : Int) : 0 ≤ jtc K x y k ∧ jtc K x y k ≤ 4 ∧ (0 < jtc K x y k ↔ jtch K x y k = true) := by
  unfold jtc jtch
  by_cases a : K x y = k <;> by_cases b : K (x - 1) y = k <;> by_cases c : K x (y - 1) = k <;> by_cases d : K (x - 1) (y - 1) = k <;> simp [a, b, c, d]
theorem c_m_touches (hp : jm_H) (hM : jMG hp) (x y k : Int) (hx : 0 ≤ x ∧ x ≤ 5) (hy : 0 ≤ y ∧ y ≤ 5) (hk : 0 ≤ k ∧ k ≤ 4) : jm_Ev 152 0 [jR 56, jI x, jI y, jI k, jU, jU] [] hp (jK (some (jI (jtc (jgk (hp 56 6) (hp 56 7) (hp 58)) x y k))) hp) := by
  have r1 := jgk_m hM x y
  have r2 := jgk_m hM (x - 1) y
  have r3 := jgk_m hM x (y - 1)
  have r4 := jgk_m hM (x - 1) (y - 1)
  refine jm_Ev.bl 6 (pc' := 9) (A' := [jR 56, jI x, jI y, jI k, jI 0, jI 0]) (st' := [jI 4, jI 0]) (hp' := hp) rfl ?_
  refine jE_icmp_ge rfl (by omega) (by omega) (fun c9 => absurd c9 (by omega)) (fun _ => ?_)
  refine jm_Ev.bl 5 (pc' := 19) (A' := [jR 56, jI x, jI y, jI k, jI 0, jI 0]) (st' := [jI 2, jI 0, jI x, jR 56, jI 0]) (hp' := hp) rfl ?_
  refine jE_irem rfl (by omega) (by omega) ?_
  refine jE_top (w := 0) (by decide) ?_
  refine jm_Ev.bl 4 (pc' := 25) (A' := [jR 56, jI x, jI y, jI k, jI 0, jI 0]) (st' := [jI 2, jI 0, jI y, jI (x - 0), jR 56, jI 0]) (hp' := hp) rfl ?_
  refine jE_idiv rfl (by omega) (by omega) ?_
  refine jE_top (w := 0) (by decide) ?_
  refine jm_Ev.bl 1 (pc' := 27) (A' := [jR 56, jI x, jI y, jI k, jI 0, jI 0]) (st' := [jI (y - 0), jI (x - 0), jR 56, jI 0]) (hp' := hp) rfl ?_
  rw [show x - 0 = x from Int.sub_zero x]
  rw [show y - 0 = y from Int.sub_zero y]
  refine jE_callI (vs := [jR 56, jI x, jI y]) (r := [jI 0]) (nx := 30) (v := jI (jgk (hp 56 6) (hp 56 7) (hp 58) x y)) (hp1 := hp) rfl (c_m_kindAt hp hM x y (by omega) (by omega)) ?_
  refine jm_Ev.bl 1 (pc' := 31) (A' := [jR 56, jI x, jI y, jI k, jI 0, jI 0]) (st' := [jI k, jI (jgk (hp 56 6) (hp 56 7) (hp 58) x y), jI 0]) (hp' := hp) rfl ?_
  refine jE_icmp_ne rfl (by omega) (by omega) (fun c31_1 => ?_) (fun c31_1 => ?_)
  · refine jm_Ev.bl 7 (pc' := 9) (A' := [jR 56, jI x, jI y, jI k, jI 0, jI 1]) (st' := [jI 4, jI 1]) (hp' := hp) rfl ?_
    refine jE_icmp_ge rfl (by omega) (by omega) (fun c9 => absurd c9 (by omega)) (fun _ => ?_)
    refine jm_Ev.bl 5 (pc' := 19) (A' := [jR 56, jI x, jI y, jI k, jI 0, jI 1]) (st' := [jI 2, jI 1, jI x, jR 56, jI 0]) (hp' := hp) rfl ?_
    refine jE_irem rfl (by omega) (by omega) ?_
    refine jE_top (w := 1) (by decide) ?_
    refine jm_Ev.bl 4 (pc' := 25) (A' := [jR 56, jI x, jI y, jI k, jI 0, jI 1]) (st' := [jI 2, jI 1, jI y, jI (x - 1), jR 56, jI 0]) (hp' := hp) rfl ?_
    refine jE_idiv rfl (by omega) (by omega) ?_
    refine jE_top (w := 0) (by decide) ?_
    refine jm_Ev.bl 1 (pc' := 27) (A' := [jR 56, jI x, jI y, jI k, jI 0, jI 1]) (st' := [jI (y - 0), jI (x - 1), jR 56, jI 0]) (hp' := hp) rfl ?_
    rw [show y - 0 = y from Int.sub_zero y]
    refine jE_callI (vs := [jR 56, jI (x - 1), jI y]) (r := [jI 0]) (nx := 30) (v := jI (jgk (hp 56 6) (hp 56 7) (hp 58) (x - 1) y)) (hp1 := hp) rfl (c_m_kindAt hp hM (x - 1) y (by omega) (by omega)) ?_
    refine jm_Ev.bl 1 (pc' := 31) (A' := [jR 56, jI x, jI y, jI k, jI 0, jI 1]) (st' := [jI k, jI (jgk (hp 56 6) (hp 56 7) (hp 58) (x - 1) y), jI 0]) (hp' := hp) rfl ?_
    refine jE_icmp_ne rfl (by omega) (by omega) (fun c31_2 => ?_) (fun c31_2 => ?_)
    · refine jm_Ev.bl 7 (pc' := 9) (A' := [jR 56, jI x, jI y, jI k, jI 0, jI 2]) (st' := [jI 4, jI 2]) (hp' := hp) rfl ?_
      refine jE_icmp_ge rfl (by omega) (by omega) (fun c9 => absurd c9 (by omega)) (fun _ => ?_)
      refine jm_Ev.bl 5 (pc' := 19) (A' := [jR 56, jI x, jI y, jI k, jI 0, jI 2]) (st' := [jI 2, jI 2, jI x, jR 56, jI 0]) (hp' := hp) rfl ?_
      refine jE_irem rfl (by omega) (by omega) ?_
      refine jE_top (w := 0) (by decide) ?_
      refine jm_Ev.bl 4 (pc' := 25) (A' := [jR 56, jI x, jI y, jI k, jI 0, jI 2]) (st' := [jI 2, jI 2, jI y, jI (x - 0), jR 56, jI 0]) (hp' := hp) rfl ?_
      refine jE_idiv rfl (by omega) (by omega) ?_
      refine jE_top (w := 1) (by decide) ?_
      refine jm_Ev.bl 1 (pc' := 27) (A' := [jR 56, jI x, jI y, jI k, jI 0, jI 2]) (st' := [jI (y - 1), jI (x - 0), jR 56, jI 0]) (hp' := hp) rfl ?_
      rw [show x - 0 = x from Int.sub_zero x]
      refine jE_callI (vs := [jR 56, jI x, jI (y - 1)]) (r := [jI 0]) (nx := 30) (v := jI (jgk (hp 56 6) (hp 56 7) (hp 58) x (y - 1))) (hp1 := hp) rfl (c_m_kindAt hp hM x (y - 1) (by omega) (by omega)) ?_
      refine jm_Ev.bl 1 (pc' := 31) (A' := [jR 56, jI x, jI y, jI k, jI 0, jI 2]) (st' := [jI k, jI (jgk (hp 56 6) (hp 56 7) (hp 58) x (y - 1)), jI 0]) (hp' := hp) rfl ?_
      refine jE_icmp_ne rfl (by omega) (by omega) (fun c31_3 => ?_) (fun c31_3 => ?_)
      · refine jm_Ev.bl 7 (pc' := 9) (A' := [jR 56, jI x, jI y, jI k, jI 0, jI 3]) (st' := [jI 4, jI 3]) (hp' := hp) rfl ?_
        refine jE_icmp_ge rfl (by omega) (by omega) (fun c9 => absurd c9 (by omega)) (fun _ => ?_)
        refine jm_Ev.bl 5 (pc' := 19) (A' := [jR 56, jI x, jI y, jI k, jI 0, jI 3]) (st' := [jI 2, jI 3, jI x, jR 56, jI 0]) (hp' := hp) rfl ?_
        refine jE_irem rfl (by omega) (by omega) ?_
        refine jE_top (w := 1) (by decide) ?_
        refine jm_Ev.bl 4 (pc' := 25) (A' := [jR 56, jI x, jI y, jI k, jI 0, jI 3]) (st' := [jI 2, jI 3, jI y, jI (x - 1), jR 56, jI 0]) (hp' := hp) rfl ?_
        refine jE_idiv rfl (by omega) (by omega) ?_
        refine jE_top (w := 1) (by decide) ?_
        refine jm_Ev.bl 1 (pc' := 27) (A' := [jR 56, jI x, jI y, jI k, jI 0, jI 3]) (st' := [jI (y - 1), jI (x - 1), jR 56, jI 0]) (hp' := hp) rfl ?_
        refine jE_callI (vs := [jR 56, jI (x - 1), jI (y - 1)]) (r := [jI 0]) (nx := 30) (v := jI (jgk (hp 56 6) (hp 56 7) (hp 58) (x - 1) (y - 1))) (hp1 := hp) rfl (c_m_kindAt hp hM (x - 1) (y - 1) (by omega) (by omega)) ?_
        refine jm_Ev.bl 1 (pc' := 31) (A' := [jR 56, jI x, jI y, jI k, jI 0, jI 3]) (st' := [jI k, jI (jgk (hp 56 6) (hp 56 7) (hp 58) (x - 1) (y - 1)), jI 0]) (hp' := hp) rfl ?_
        refine jE_icmp_ne rfl (by omega) (by omega) (fun c31_4 => ?_) (fun c31_4 => ?_)
        · refine jm_Ev.bl 7 (pc' := 9) (A' := [jR 56, jI x, jI y, jI k, jI 0, jI 4]) (st' := [jI 4, jI 4]) (hp' := hp) rfl ?_
          refine jE_icmp_ge rfl (by omega) (by omega) (fun _ => ?_) (fun c9 => absurd c9 (by omega))
          refine jm_Ev.bl 1 (pc' := 50) (A' := [jR 56, jI x, jI y, jI k, jI 0, jI 4]) (st' := [jI 0]) (hp' := hp) rfl ?_
          exact jE_ret rfl ⟨jrI (by unfold jtc; simp only [*, if_true, if_false]; try rfl), rfl⟩
        · refine jm_Ev.bl 8 (pc' := 9) (A' := [jR 56, jI x, jI y, jI k, jI 1, jI 4]) (st' := [jI 4, jI 4]) (hp' := hp) rfl ?_
          refine jE_icmp_ge rfl (by omega) (by omega) (fun _ => ?_) (fun c9 => absurd c9 (by omega))
          refine jm_Ev.bl 1 (pc' := 50) (A' := [jR 56, jI x, jI y, jI k, jI 1, jI 4]) (st' := [jI 1]) (hp' := hp) rfl ?_
          exact jE_ret rfl ⟨jrI (by unfold jtc; simp only [*, if_true, if_false]; try rfl), rfl⟩
      · refine jm_Ev.bl 8 (pc' := 9) (A' := [jR 56, jI x, jI y, jI k, jI 1, jI 3]) (st' := [jI 4, jI 3]) (hp' := hp) rfl ?_
        refine jE_icmp_ge rfl (by omega) (by omega) (fun c9 => absurd c9 (by omega)) (fun _ => ?_)
        refine jm_Ev.bl 5 (pc' := 19) (A' := [jR 56, jI x, jI y, jI k, jI 1, jI 3]) (st' := [jI 2, jI 3, jI x, jR 56, jI 1]) (hp' := hp) rfl ?_
        refine jE_irem rfl (by omega) (by omega) ?_
        refine jE_top (w := 1) (by decide) ?_
        refine jm_Ev.bl 4 (pc' := 25) (A' := [jR 56, jI x, jI y, jI k, jI 1, jI 3]) (st' := [jI 2, jI 3, jI y, jI (x - 1), jR 56, jI 1]) (hp' := hp) rfl ?_
        refine jE_idiv rfl (by omega) (by omega) ?_
        refine jE_top (w := 1) (by decide) ?_
        refine jm_Ev.bl 1 (pc' := 27) (A' := [jR 56, jI x, jI y, jI k, jI 1, jI 3]) (st' := [jI (y - 1), jI (x - 1), jR 56, jI 1]) (hp' := hp) rfl ?_
        refine jE_callI (vs := [jR 56, jI (x - 1), jI (y - 1)]) (r := [jI 1]) (nx := 30) (v := jI (jgk (hp 56 6) (hp 56 7) (hp 58) (x - 1) (y - 1))) (hp1 := hp) rfl (c_m_kindAt hp hM (x - 1) (y - 1) (by omega) (by omega)) ?_
        refine jm_Ev.bl 1 (pc' := 31) (A' := [jR 56, jI x, jI y, jI k, jI 1, jI 3]) (st' := [jI k, jI (jgk (hp 56 6) (hp 56 7) (hp 58) (x - 1) (y - 1)), jI 1]) (hp' := hp) rfl ?_
        refine jE_icmp_ne rfl (by omega) (by omega) (fun c31_4 => ?_) (fun c31_4 => ?_)
        · refine jm_Ev.bl 7 (pc' := 9) (A' := [jR 56, jI x, jI y, jI k, jI 1, jI 4]) (st' := [jI 4, jI 4]) (hp' := hp) rfl ?_
          refine jE_icmp_ge rfl (by omega) (by omega) (fun _ => ?_) (fun c9 => absurd c9 (by omega))
          refine jm_Ev.bl 1 (pc' := 50) (A' := [jR 56, jI x, jI y, jI k, jI 1, jI 4]) (st' := [jI 1]) (hp' := hp) rfl ?_
          exact jE_ret rfl ⟨jrI (by unfold jtc; simp only [*, if_true, if_false]; try rfl), rfl⟩
        · refine jm_Ev.bl 8 (pc' := 9) (A' := [jR 56, jI x, jI y, jI k, jI 2, jI 4]) (st' := [jI 4, jI 4]) (hp' := hp) rfl ?_
          refine jE_icmp_ge rfl (by omega) (by omega) (fun _ => ?_) (fun c9 => absurd c9 (by omega))
          refine jm_Ev.bl 1 (pc' := 50) (A' := [jR 56, jI x, jI y, jI k, jI 2, jI 4]) (st' := [jI 2]) (hp' := hp) rfl ?_
          exact jE_ret rfl ⟨jrI (by unfold jtc; simp only [*, if_true, if_false]; try rfl), rfl⟩
    · refine jm_Ev.bl 8 (pc' := 9) (A' := [jR 56, jI x, jI y, jI k, jI 1, jI 2]) (st' := [jI 4, jI 2]) (hp' := hp) rfl ?_
      refine jE_icmp_ge rfl (by omega) (by omega) (fun c9 => absurd c9 (by omega)) (fun _ => ?_)
      refine jm_Ev.bl 5 (pc' := 19) (A' := [jR 56, jI x, jI y, jI k, jI 1, jI 2]) (st' := [jI 2, jI 2, jI x, jR 56, jI 1]) (hp' := hp) rfl ?_
      refine jE_irem rfl (by omega) (by omega) ?_
      refine jE_top (w := 0) (by decide) ?_
      refine jm_Ev.bl 4 (pc' := 25) (A' := [jR 56, jI x, jI y, jI k, jI 1, jI 2]) (st' := [jI 2, jI 2, jI y, jI (x - 0), jR 56, jI 1]) (hp' := hp) rfl ?_
      refine jE_idiv rfl (by omega) (by omega) ?_
      refine jE_top (w := 1) (by decide) ?_
      refine jm_Ev.bl 1 (pc' := 27) (A' := [jR 56, jI x, jI y, jI k, jI 1, jI 2]) (st' := [jI (y - 1), jI (x - 0), jR 56, jI 1]) (hp' := hp) rfl ?_
      rw [show x - 0 = x from Int.sub_zero x]
      refine jE_callI (vs := [jR 56, jI x, jI (y - 1)]) (r := [jI 1]) (nx := 30) (v := jI (jgk (hp 56 6) (hp 56 7) (hp 58) x (y - 1))) (hp1 := hp) rfl (c_m_kindAt hp hM x (y - 1) (by omega) (by omega)) ?_
      refine jm_Ev.bl 1 (pc' := 31) (A' := [jR 56, jI x, jI y, jI k, jI 1, jI 2]) (st' := [jI k, jI (jgk (hp 56 6) (hp 56 7) (hp 58) x (y - 1)), jI 1]) (hp' := hp) rfl ?_
      refine jE_icmp_ne rfl (by omega) (by omega) (fun c31_3 => ?_) (fun c31_3 => ?_)
      · refine jm_Ev.bl 7 (pc' := 9) (A' := [jR 56, jI x, jI y, jI k, jI 1, jI 3]) (st' := [jI 4, jI 3]) (hp' := hp) rfl ?_
        refine jE_icmp_ge rfl (by omega) (by omega) (fun c9 => absurd c9 (by omega)) (fun _ => ?_)
        refine jm_Ev.bl 5 (pc' := 19) (A' := [jR 56, jI x, jI y, jI k, jI 1, jI 3]) (st' := [jI 2, jI 3, jI x, jR 56, jI 1]) (hp' := hp) rfl ?_
        refine jE_irem rfl (by omega) (by omega) ?_
        refine jE_top (w := 1) (by decide) ?_
        refine jm_Ev.bl 4 (pc' := 25) (A' := [jR 56, jI x, jI y, jI k, jI 1, jI 3]) (st' := [jI 2, jI 3, jI y, jI (x - 1), jR 56, jI 1]) (hp' := hp) rfl ?_
        refine jE_idiv rfl (by omega) (by omega) ?_
        refine jE_top (w := 1) (by decide) ?_
        refine jm_Ev.bl 1 (pc' := 27) (A' := [jR 56, jI x, jI y, jI k, jI 1, jI 3]) (st' := [jI (y - 1), jI (x - 1), jR 56, jI 1]) (hp' := hp) rfl ?_
        refine jE_callI (vs := [jR 56, jI (x - 1), jI (y - 1)]) (r := [jI 1]) (nx := 30) (v := jI (jgk (hp 56 6) (hp 56 7) (hp 58) (x - 1) (y - 1))) (hp1 := hp) rfl (c_m_kindAt hp hM (x - 1) (y - 1) (by omega) (by omega)) ?_
        refine jm_Ev.bl 1 (pc' := 31) (A' := [jR 56, jI x, jI y, jI k, jI 1, jI 3]) (st' := [jI k, jI (jgk (hp 56 6) (hp 56 7) (hp 58) (x - 1) (y - 1)), jI 1]) (hp' := hp) rfl ?_
        refine jE_icmp_ne rfl (by omega) (by omega) (fun c31_4 => ?_) (fun c31_4 => ?_)
        · refine jm_Ev.bl 7 (pc' := 9) (A' := [jR 56, jI x, jI y, jI k, jI 1, jI 4]) (st' := [jI 4, jI 4]) (hp' := hp) rfl ?_
          refine jE_icmp_ge rfl (by omega) (by omega) (fun _ => ?_) (fun c9 => absurd c9 (by omega))
          refine jm_Ev.bl 1 (pc' := 50) (A' := [jR 56, jI x, jI y, jI k, jI 1, jI 4]) (st' := [jI 1]) (hp' := hp) rfl ?_
          exact jE_ret rfl ⟨jrI (by unfold jtc; simp only [*, if_true, if_false]; try rfl), rfl⟩
        · refine jm_Ev.bl 8 (pc' := 9) (A' := [jR 56, jI x, jI y, jI k, jI 2, jI 4]) (st' := [jI 4, jI 4]) (hp' := hp) rfl ?_
          refine jE_icmp_ge rfl (by omega) (by omega) (fun _ => ?_) (fun c9 => absurd c9 (by omega))
          refine jm_Ev.bl 1 (pc' := 50) (A' := [jR 56, jI x, jI y, jI k, jI 2, jI 4]) (st' := [jI 2]) (hp' := hp) rfl ?_
          exact jE_ret rfl ⟨jrI (by unfold jtc; simp only [*, if_true, if_false]; try rfl), rfl⟩
      · refine jm_Ev.bl 8 (pc' := 9) (A' := [jR 56, jI x, jI y, jI k, jI 2, jI 3]) (st' := [jI 4, jI 3]) (hp' := hp) rfl ?_
        refine jE_icmp_ge rfl (by omega) (by omega) (fun c9 => absurd c9 (by omega)) (fun _ => ?_)
        refine jm_Ev.bl 5 (pc' := 19) (A' := [jR 56, jI x, jI y, jI k, jI 2, jI 3]) (st' := [jI 2, jI 3, jI x, jR 56, jI 2]) (hp' := hp) rfl ?_
        refine jE_irem rfl (by omega) (by omega) ?_
        refine jE_top (w := 1) (by decide) ?_
        refine jm_Ev.bl 4 (pc' := 25) (A' := [jR 56, jI x, jI y, jI k, jI 2, jI 3]) (st' := [jI 2, jI 3, jI y, jI (x - 1), jR 56, jI 2]) (hp' := hp) rfl ?_
        refine jE_idiv rfl (by omega) (by omega) ?_
        refine jE_top (w := 1) (by decide) ?_
        refine jm_Ev.bl 1 (pc' := 27) (A' := [jR 56, jI x, jI y, jI k, jI 2, jI 3]) (st' := [jI (y - 1), jI (x - 1), jR 56, jI 2]) (hp' := hp) rfl ?_
        refine jE_callI (vs := [jR 56, jI (x - 1), jI (y - 1)]) (r := [jI 2]) (nx := 30) (v := jI (jgk (hp 56 6) (hp 56 7) (hp 58) (x - 1) (y - 1))) (hp1 := hp) rfl (c_m_kindAt hp hM (x - 1) (y - 1) (by omega) (by omega)) ?_
        refine jm_Ev.bl 1 (pc' := 31) (A' := [jR 56, jI x, jI y, jI k, jI 2, jI 3]) (st' := [jI k, jI (jgk (hp 56 6) (hp 56 7) (hp 58) (x - 1) (y - 1)), jI 2]) (hp' := hp) rfl ?_
        refine jE_icmp_ne rfl (by omega) (by omega) (fun c31_4 => ?_) (fun c31_4 => ?_)
        · refine jm_Ev.bl 7 (pc' := 9) (A' := [jR 56, jI x, jI y, jI k, jI 2, jI 4]) (st' := [jI 4, jI 4]) (hp' := hp) rfl ?_
          refine jE_icmp_ge rfl (by omega) (by omega) (fun _ => ?_) (fun c9 => absurd c9 (by omega))
          refine jm_Ev.bl 1 (pc' := 50) (A' := [jR 56, jI x, jI y, jI k, jI 2, jI 4]) (st' := [jI 2]) (hp' := hp) rfl ?_
          exact jE_ret rfl ⟨jrI (by unfold jtc; simp only [*, if_true, if_false]; try rfl), rfl⟩
        · refine jm_Ev.bl 8 (pc' := 9) (A' := [jR 56, jI x, jI y, jI k, jI 3, jI 4]) (st' := [jI 4, jI 4]) (hp' := hp) rfl ?_
          refine jE_icmp_ge rfl (by omega) (by omega) (fun _ => ?_) (fun c9 => absurd c9 (by omega))
          refine jm_Ev.bl 1 (pc' := 50) (A' := [jR 56, jI x, jI y, jI k, jI 3, jI 4]) (st' := [jI 3]) (hp' := hp) rfl ?_
          exact jE_ret rfl ⟨jrI (by unfold jtc; simp only [*, if_true, if_false]; try rfl), rfl⟩
  · refine jm_Ev.bl 8 (pc' := 9) (A' := [jR 56, jI x, jI y, jI k, jI 1, jI 1]) (st' := [jI 4, jI 1]) (hp' := hp) rfl ?_
    refine jE_icmp_ge rfl (by omega) (by omega) (fun c9 => absurd c9 (by omega)) (fun _ => ?_)
    refine jm_Ev.bl 5 (pc' := 19) (A' := [jR 56, jI x, jI y, jI k, jI 1, jI 1]) (st' := [jI 2, jI 1, jI x, jR 56, jI 1]) (hp' := hp) rfl ?_
    refine jE_irem rfl (by omega) (by omega) ?_
    refine jE_top (w := 1) (by decide) ?_
    refine jm_Ev.bl 4 (pc' := 25) (A' := [jR 56, jI x, jI y, jI k, jI 1, jI 1]) (st' := [jI 2, jI 1, jI y, jI (x - 1), jR 56, jI 1]) (hp' := hp) rfl ?_
    refine jE_idiv rfl (by omega) (by omega) ?_
    refine jE_top (w := 0) (by decide) ?_
    refine jm_Ev.bl 1 (pc' := 27) (A' := [jR 56, jI x, jI y, jI k, jI 1, jI 1]) (st' := [jI (y - 0), jI (x - 1), jR 56, jI 1]) (hp' := hp) rfl ?_
    rw [show y - 0 = y from Int.sub_zero y]
    refine jE_callI (vs := [jR 56, jI (x - 1), jI y]) (r := [jI 1]) (nx := 30) (v := jI (jgk (hp 56 6) (hp 56 7) (hp 58) (x - 1) y)) (hp1 := hp) rfl (c_m_kindAt hp hM (x - 1) y (by omega) (by omega)) ?_
    refine jm_Ev.bl 1 (pc' := 31) (A' := [jR 56, jI x, jI y, jI k, jI 1, jI 1]) (st' := [jI k, jI (jgk (hp 56 6) (hp 56 7) (hp 58) (x - 1) y), jI 1]) (hp' := hp) rfl ?_
    refine jE_icmp_ne rfl (by omega) (by omega) (fun c31_2 => ?_) (fun c31_2 => ?_)
    · refine jm_Ev.bl 7 (pc' := 9) (A' := [jR 56, jI x, jI y, jI k, jI 1, jI 2]) (st' := [jI 4, jI 2]) (hp' := hp) rfl ?_
      refine jE_icmp_ge rfl (by omega) (by omega) (fun c9 => absurd c9 (by omega)) (fun _ => ?_)
      refine jm_Ev.bl 5 (pc' := 19) (A' := [jR 56, jI x, jI y, jI k, jI 1, jI 2]) (st' := [jI 2, jI 2, jI x, jR 56, jI 1]) (hp' := hp) rfl ?_
      refine jE_irem rfl (by omega) (by omega) ?_
      refine jE_top (w := 0) (by decide) ?_
      refine jm_Ev.bl 4 (pc' := 25) (A' := [jR 56, jI x, jI y, jI k, jI 1, jI 2]) (st' := [jI 2, jI 2, jI y, jI (x - 0), jR 56, jI 1]) (hp' := hp) rfl ?_
      refine jE_idiv rfl (by omega) (by omega) ?_
      refine jE_top (w := 1) (by decide) ?_
      refine jm_Ev.bl 1 (pc' := 27) (A' := [jR 56, jI x, jI y, jI k, jI 1, jI 2]) (st' := [jI (y - 1), jI (x - 0), jR 56, jI 1]) (hp' := hp) rfl ?_
      rw [show x - 0 = x from Int.sub_zero x]
      refine jE_callI (vs := [jR 56, jI x, jI (y - 1)]) (r := [jI 1]) (nx := 30) (v := jI (jgk (hp 56 6) (hp 56 7) (hp 58) x (y - 1))) (hp1 := hp) rfl (c_m_kindAt hp hM x (y - 1) (by omega) (by omega)) ?_
      refine jm_Ev.bl 1 (pc' := 31) (A' := [jR 56, jI x, jI y, jI k, jI 1, jI 2]) (st' := [jI k, jI (jgk (hp 56 6) (hp 56 7) (hp 58) x (y - 1)), jI 1]) (hp' := hp) rfl ?_
      refine jE_icmp_ne rfl (by omega) (by omega) (fun c31_3 => ?_) (fun c31_3 => ?_)
      · refine jm_Ev.bl 7 (pc' := 9) (A' := [jR 56, jI x, jI y, jI k, jI 1, jI 3]) (st' := [jI 4, jI 3]) (hp' := hp) rfl ?_
        refine jE_icmp_ge rfl (by omega) (by omega) (fun c9 => absurd c9 (by omega)) (fun _ => ?_)
        refine jm_Ev.bl 5 (pc' := 19) (A' := [jR 56, jI x, jI y, jI k, jI 1, jI 3]) (st' := [jI 2, jI 3, jI x, jR 56, jI 1]) (hp' := hp) rfl ?_
        refine jE_irem rfl (by omega) (by omega) ?_
        refine jE_top (w := 1) (by decide) ?_
        refine jm_Ev.bl 4 (pc' := 25) (A' := [jR 56, jI x, jI y, jI k, jI 1, jI 3]) (st' := [jI 2, jI 3, jI y, jI (x - 1), jR 56, jI 1]) (hp' := hp) rfl ?_
        refine jE_idiv rfl (by omega) (by omega) ?_
        refine jE_top (w := 1) (by decide) ?_
        refine jm_Ev.bl 1 (pc' := 27) (A' := [jR 56, jI x, jI y, jI k, jI 1, jI 3]) (st' := [jI (y - 1), jI (x - 1), jR 56, jI 1]) (hp' := hp) rfl ?_
        refine jE_callI (vs := [jR 56, jI (x - 1), jI (y - 1)]) (r := [jI 1]) (nx := 30) (v := jI (jgk (hp 56 6) (hp 56 7) (hp 58) (x - 1) (y - 1))) (hp1 := hp) rfl (c_m_kindAt hp hM (x - 1) (y - 1) (by omega) (by omega)) ?_
        refine jm_Ev.bl 1 (pc' := 31) (A' := [jR 56, jI x, jI y, jI k, jI 1, jI 3]) (st' := [jI k, jI (jgk (hp 56 6) (hp 56 7) (hp 58) (x - 1) (y - 1)), jI 1]) (hp' := hp) rfl ?_
        refine jE_icmp_ne rfl (by omega) (by omega) (fun c31_4 => ?_) (fun c31_4 => ?_)
        · refine jm_Ev.bl 7 (pc' := 9) (A' := [jR 56, jI x, jI y, jI k, jI 1, jI 4]) (st' := [jI 4, jI 4]) (hp' := hp) rfl ?_
          refine jE_icmp_ge rfl (by omega) (by omega) (fun _ => ?_) (fun c9 => absurd c9 (by omega))
          refine jm_Ev.bl 1 (pc' := 50) (A' := [jR 56, jI x, jI y, jI k, jI 1, jI 4]) (st' := [jI 1]) (hp' := hp) rfl ?_
          exact jE_ret rfl ⟨jrI (by unfold jtc; simp only [*, if_true, if_false]; try rfl), rfl⟩
        · refine jm_Ev.bl 8 (pc' := 9) (A' := [jR 56, jI x, jI y, jI k, jI 2, jI 4]) (st' := [jI 4, jI 4]) (hp' := hp) rfl ?_
          refine jE_icmp_ge rfl (by omega) (by omega) (fun _ => ?_) (fun c9 => absurd c9 (by omega))
          refine jm_Ev.bl 1 (pc' := 50) (A' := [jR 56, jI x, jI y, jI k, jI 2, jI 4]) (st' := [jI 2]) (hp' := hp) rfl ?_
          exact jE_ret rfl ⟨jrI (by unfold jtc; simp only [*, if_true, if_false]; try rfl), rfl⟩
      · refine jm_Ev.bl 8 (pc' := 9) (A' := [jR 56, jI x, jI y, jI k, jI 2, jI 3]) (st' := [jI 4, jI 3]) (hp' := hp) rfl ?_
        refine jE_icmp_ge rfl (by omega) (by omega) (fun c9 => absurd c9 (by omega)) (fun _ => ?_)
        refine jm_Ev.bl 5 (pc' := 19) (A' := [jR 56, jI x, jI y, jI k, jI 2, jI 3]) (st' := [jI 2, jI 3, jI x, jR 56, jI 2]) (hp' := hp) rfl ?_
        refine jE_irem rfl (by omega) (by omega) ?_
        refine jE_top (w := 1) (by decide) ?_
        refine jm_Ev.bl 4 (pc' := 25) (A' := [jR 56, jI x, jI y, jI k, jI 2, jI 3]) (st' := [jI 2, jI 3, jI y, jI (x - 1), jR 56, jI 2]) (hp' := hp) rfl ?_
        refine jE_idiv rfl (by omega) (by omega) ?_
        refine jE_top (w := 1) (by decide) ?_
        refine jm_Ev.bl 1 (pc' := 27) (A' := [jR 56, jI x, jI y, jI k, jI 2, jI 3]) (st' := [jI (y - 1), jI (x - 1), jR 56, jI 2]) (hp' := hp) rfl ?_
        refine jE_callI (vs := [jR 56, jI (x - 1), jI (y - 1)]) (r := [jI 2]) (nx := 30) (v := jI (jgk (hp 56 6) (hp 56 7) (hp 58) (x - 1) (y - 1))) (hp1 := hp) rfl (c_m_kindAt hp hM (x - 1) (y - 1) (by omega) (by omega)) ?_
        refine jm_Ev.bl 1 (pc' := 31) (A' := [jR 56, jI x, jI y, jI k, jI 2, jI 3]) (st' := [jI k, jI (jgk (hp 56 6) (hp 56 7) (hp 58) (x - 1) (y - 1)), jI 2]) (hp' := hp) rfl ?_
        refine jE_icmp_ne rfl (by omega) (by omega) (fun c31_4 => ?_) (fun c31_4 => ?_)
        · refine jm_Ev.bl 7 (pc' := 9) (A' := [jR 56, jI x, jI y, jI k, jI 2, jI 4]) (st' := [jI 4, jI 4]) (hp' := hp) rfl ?_
          refine jE_icmp_ge rfl (by omega) (by omega) (fun _ => ?_) (fun c9 => absurd c9 (by omega))
          refine jm_Ev.bl 1 (pc' := 50) (A' := [jR 56, jI x, jI y, jI k, jI 2, jI 4]) (st' := [jI 2]) (hp' := hp) rfl ?_
          exact jE_ret rfl ⟨jrI (by unfold jtc; simp only [*, if_true, if_false]; try rfl), rfl⟩
        · refine jm_Ev.bl 8 (pc' := 9) (A' := [jR 56, jI x, jI y, jI k, jI 3, jI 4]) (st' := [jI 4, jI 4]) (hp' := hp) rfl ?_
          refine jE_icmp_ge rfl (by omega) (by omega) (fun _ => ?_) (fun c9 => absurd c9 (by omega))
          refine jm_Ev.bl 1 (pc' := 50) (A' := [jR 56, jI x, jI y, jI k, jI 3, jI 4]) (st' := [jI 3]) (hp' := hp) rfl ?_
          exact jE_ret rfl ⟨jrI (by unfold jtc; simp only [*, if_true, if_false]; try rfl), rfl⟩
    · refine jm_Ev.bl 8 (pc' := 9) (A' := [jR 56, jI x, jI y, jI k, jI 2, jI 2]) (st' := [jI 4, jI 2]) (hp' := hp) rfl ?_
      refine jE_icmp_ge rfl (by omega) (by omega) (fun c9 => absurd c9 (by omega)) (fun _ => ?_)
      refine jm_Ev.bl 5 (pc' := 19) (A' := [jR 56, jI x, jI y, jI k, jI 2, jI 2]) (st' := [jI 2, jI 2, jI x, jR 56, jI 2]) (hp' := hp) rfl ?_
      refine jE_irem rfl (by omega) (by omega) ?_
      refine jE_top (w := 0) (by decide) ?_
      refine jm_Ev.bl 4 (pc' := 25) (A' := [jR 56, jI x, jI y, jI k, jI 2, jI 2]) (st' := [jI 2, jI 2, jI y, jI (x - 0), jR 56, jI 2]) (hp' := hp) rfl ?_
      refine jE_idiv rfl (by omega) (by omega) ?_
      refine jE_top (w := 1) (by decide) ?_
      refine jm_Ev.bl 1 (pc' := 27) (A' := [jR 56, jI x, jI y, jI k, jI 2, jI 2]) (st' := [jI (y - 1), jI (x - 0), jR 56, jI 2]) (hp' := hp) rfl ?_
      rw [show x - 0 = x from Int.sub_zero x]
      refine jE_callI (vs := [jR 56, jI x, jI (y - 1)]) (r := [jI 2]) (nx := 30) (v := jI (jgk (hp 56 6) (hp 56 7) (hp 58) x (y - 1))) (hp1 := hp) rfl (c_m_kindAt hp hM x (y - 1) (by omega) (by omega)) ?_
      refine jm_Ev.bl 1 (pc' := 31) (A' := [jR 56, jI x, jI y, jI k, jI 2, jI 2]) (st' := [jI k, jI (jgk (hp 56 6) (hp 56 7) (hp 58) x (y - 1)), jI 2]) (hp' := hp) rfl ?_
      refine jE_icmp_ne rfl (by omega) (by omega) (fun c31_3 => ?_) (fun c31_3 => ?_)
      · refine jm_Ev.bl 7 (pc' := 9) (A' := [jR 56, jI x, jI y, jI k, jI 2, jI 3]) (st' := [jI 4, jI 3]) (hp' := hp) rfl ?_
        refine jE_icmp_ge rfl (by omega) (by omega) (fun c9 => absurd c9 (by omega)) (fun _ => ?_)
        refine jm_Ev.bl 5 (pc' := 19) (A' := [jR 56, jI x, jI y, jI k, jI 2, jI 3]) (st' := [jI 2, jI 3, jI x, jR 56, jI 2]) (hp' := hp) rfl ?_
        refine jE_irem rfl (by omega) (by omega) ?_
        refine jE_top (w := 1) (by decide) ?_
        refine jm_Ev.bl 4 (pc' := 25) (A' := [jR 56, jI x, jI y, jI k, jI 2, jI 3]) (st' := [jI 2, jI 3, jI y, jI (x - 1), jR 56, jI 2]) (hp' := hp) rfl ?_
        refine jE_idiv rfl (by omega) (by omega) ?_
        refine jE_top (w := 1) (by decide) ?_
        refine jm_Ev.bl 1 (pc' := 27) (A' := [jR 56, jI x, jI y, jI k, jI 2, jI 3]) (st' := [jI (y - 1), jI (x - 1), jR 56, jI 2]) (hp' := hp) rfl ?_
        refine jE_callI (vs := [jR 56, jI (x - 1), jI (y - 1)]) (r := [jI 2]) (nx := 30) (v := jI (jgk (hp 56 6) (hp 56 7) (hp 58) (x - 1) (y - 1))) (hp1 := hp) rfl (c_m_kindAt hp hM (x - 1) (y - 1) (by omega) (by omega)) ?_
        refine jm_Ev.bl 1 (pc' := 31) (A' := [jR 56, jI x, jI y, jI k, jI 2, jI 3]) (st' := [jI k, jI (jgk (hp 56 6) (hp 56 7) (hp 58) (x - 1) (y - 1)), jI 2]) (hp' := hp) rfl ?_
        refine jE_icmp_ne rfl (by omega) (by omega) (fun c31_4 => ?_) (fun c31_4 => ?_)
        · refine jm_Ev.bl 7 (pc' := 9) (A' := [jR 56, jI x, jI y, jI k, jI 2, jI 4]) (st' := [jI 4, jI 4]) (hp' := hp) rfl ?_
          refine jE_icmp_ge rfl (by omega) (by omega) (fun _ => ?_) (fun c9 => absurd c9 (by omega))
          refine jm_Ev.bl 1 (pc' := 50) (A' := [jR 56, jI x, jI y, jI k, jI 2, jI 4]) (st' := [jI 2]) (hp' := hp) rfl ?_
          exact jE_ret rfl ⟨jrI (by unfold jtc; simp only [*, if_true, if_false]; try rfl), rfl⟩
        · refine jm_Ev.bl 8 (pc' := 9) (A' := [jR 56, jI x, jI y, jI k, jI 3, jI 4]) (st' := [jI 4, jI 4]) (hp' := hp) rfl ?_
          refine jE_icmp_ge rfl (by omega) (by omega) (fun _ => ?_) (fun c9 => absurd c9 (by omega))
          refine jm_Ev.bl 1 (pc' := 50) (A' := [jR 56, jI x, jI y, jI k, jI 3, jI 4]) (st' := [jI 3]) (hp' := hp) rfl ?_
          exact jE_ret rfl ⟨jrI (by unfold jtc; simp only [*, if_true, if_false]; try rfl), rfl⟩
      · refine jm_Ev.bl 8 (pc' := 9) (A' := [jR 56, jI x, jI y, jI k, jI 3, jI 3]) (st' := [jI 4, jI 3]) (hp' := hp) rfl ?_
        refine jE_icmp_ge rfl (by omega) (by omega) (fun c9 => absurd c9 (by omega)) (fun _ => ?_)
        refine jm_Ev.bl 5 (pc' := 19) (A' := [jR 56, jI x, jI y, jI k, jI 3, jI 3]) (st' := [jI 2, jI 3, jI x, jR 56, jI 3]) (hp' := hp) rfl ?_
        refine jE_irem rfl (by omega) (by omega) ?_
        refine jE_top (w := 1) (by decide) ?_
        refine jm_Ev.bl 4 (pc' := 25) (A' := [jR 56, jI x, jI y, jI k, jI 3, jI 3]) (st' := [jI 2, jI 3, jI y, jI (x - 1), jR 56, jI 3]) (hp' := hp) rfl ?_
        refine jE_idiv rfl (by omega) (by omega) ?_
        refine jE_top (w := 1) (by decide) ?_
        refine jm_Ev.bl 1 (pc' := 27) (A' := [jR 56, jI x, jI y, jI k, jI 3, jI 3]) (st' := [jI (y - 1), jI (x - 1), jR 56, jI 3]) (hp' := hp) rfl ?_
        refine jE_callI (vs := [jR 56, jI (x - 1), jI (y - 1)]) (r := [jI 3]) (nx := 30) (v := jI (jgk (hp 56 6) (hp 56 7) (hp 58) (x - 1) (y - 1))) (hp1 := hp) rfl (c_m_kindAt hp hM (x - 1) (y - 1) (by omega) (by omega)) ?_
        refine jm_Ev.bl 1 (pc' := 31) (A' := [jR 56, jI x, jI y, jI k, jI 3, jI 3]) (st' := [jI k, jI (jgk (hp 56 6) (hp 56 7) (hp 58) (x - 1) (y - 1)), jI 3]) (hp' := hp) rfl ?_
        refine jE_icmp_ne rfl (by omega) (by omega) (fun c31_4 => ?_) (fun c31_4 => ?_)
        · refine jm_Ev.bl 7 (pc' := 9) (A' := [jR 56, jI x, jI y, jI k, jI 3, jI 4]) (st' := [jI 4, jI 4]) (hp' := hp) rfl ?_
          refine jE_icmp_ge rfl (by omega) (by omega) (fun _ => ?_) (fun c9 => absurd c9 (by omega))
          refine jm_Ev.bl 1 (pc' := 50) (A' := [jR 56, jI x, jI y, jI k, jI 3, jI 4]) (st' := [jI 3]) (hp' := hp) rfl ?_
          exact jE_ret rfl ⟨jrI (by unfold jtc; simp only [*, if_true, if_false]; try rfl), rfl⟩
        · refine jm_Ev.bl 8 (pc' := 9) (A' := [jR 56, jI x, jI y, jI k, jI 4, jI 4]) (st' := [jI 4, jI 4]) (hp' := hp) rfl ?_
          refine jE_icmp_ge rfl (by omega) (by omega) (fun _ => ?_) (fun c9 => absurd c9 (by omega))
          refine jm_Ev.bl 1 (pc' := 50) (A' := [jR 56, jI x, jI y, jI k, jI 4, jI 4]) (st' := [jI 4]) (hp' := hp) rfl ?_
          exact jE_ret rfl ⟨jrI (by unfold jtc; simp only [*, if_true, if_false]; try rfl), rfl⟩
theorem jtc_f {K : Int → Int → Int} {x y k : Int} (h : jtc K x y k ≤ 0) : jtch K x y k = false := by
  have := (jtc_p K x y k).2.2
  cases e : jtch K x y k with
  | false => rfl
  | true => have := this.mpr e; omega
theorem c_m_layPoint (hp : jm_H) (hM : jMG hp) (a x y : Int) (b : Bool) (ha : 0 ≤ a ∧ a < 160) (hx : 0 ≤ x ∧ x ≤ 5) (hy : 0 ≤ y ∧ y ≤ 5) : jm_Ev 153 0 [jR 56, jI a, jI x, jI y, jI (jb b)] [] hp (jK none (jm_hs (jm_hs (jm_hs (jm_hs hp 61 a x) 62 a y) 63 a (jle (jgk (hp 56 6) (hp 56 7) (hp 58)) x y)) 64 a (jmu (jgk (hp 56 6) (hp 56 7) (hp 58)) x y b))) := by
  have t1 := jtc_p (jgk (hp 56 6) (hp 56 7) (hp 58)) x y 1
  have t2 := jtc_p (jgk (hp 56 6) (hp 56 7) (hp 58)) x y 2
  have t3 := jtc_p (jgk (hp 56 6) (hp 56 7) (hp 58)) x y 3
  have t4 := jtc_p (jgk (hp 56 6) (hp 56 7) (hp 58)) x y 4
  refine jm_Ev.bl 4 (pc' := 6) (A' := [jR 56, jI a, jI x, jI y, jI (jb b)]) (st' := [jI x, jI a, jR 61]) (hp' := hp) rfl ?_
  refine jE_iast (n := 160) rfl rfl (by omega) ?_
  refine jm_Ev.bl 4 (pc' := 13) (A' := [jR 56, jI a, jI x, jI y, jI (jb b)]) (st' := [jI y, jI a, jR 62]) (hp' := (jm_hs hp 61 a x)) rfl ?_
  refine jE_iast (n := 160) rfl rfl (by omega) ?_
  refine jm_Ev.bl 7 (pc' := 23) (A' := [jR 56, jI a, jI x, jI y, jI (jb b)]) (st' := [jI 3, jI y, jI x, jR 56, jI a, jR 63]) (hp' := (jm_hs (jm_hs hp 61 a x) 62 a y)) rfl ?_
  refine jE_callI (vs := [jR 56, jI x, jI y, jI 3]) (r := [jI a, jR 63]) (nx := 26) (v := jI (jtc (jgk (hp 56 6) (hp 56 7) (hp 58)) x y 3)) (hp1 := (jm_hs (jm_hs hp 61 a x) 62 a y)) rfl (c_m_touches (jm_hs (jm_hs hp 61 a x) 62 a y) hM x y 3 hx hy (by omega)) ?_
  refine jE_if_le rfl (by omega) (fun c26 => ?_) (fun c26 => ?_)
  · refine jm_Ev.bl 4 (pc' := 37) (A' := [jR 56, jI a, jI x, jI y, jI (jb b)]) (st' := [jI 4, jI y, jI x, jR 56, jI a, jR 63]) (hp' := (jm_hs (jm_hs hp 61 a x) 62 a y)) rfl ?_
    refine jE_callI (vs := [jR 56, jI x, jI y, jI 4]) (r := [jI a, jR 63]) (nx := 40) (v := jI (jtc (jgk (hp 56 6) (hp 56 7) (hp 58)) x y 4)) (hp1 := (jm_hs (jm_hs hp 61 a x) 62 a y)) rfl (c_m_touches (jm_hs (jm_hs hp 61 a x) 62 a y) hM x y 4 hx hy (by omega)) ?_
    refine jE_if_le rfl (by omega) (fun c40 => ?_) (fun c40 => ?_)
    · refine jm_Ev.bl 1 (pc' := 48) (A' := [jR 56, jI a, jI x, jI y, jI (jb b)]) (st' := [jI 1, jI a, jR 63]) (hp' := (jm_hs (jm_hs hp 61 a x) 62 a y)) rfl ?_
      refine jE_iast (n := 160) rfl rfl (by omega) ?_
      refine jm_Ev.bl 7 (pc' := 58) (A' := [jR 56, jI a, jI x, jI y, jI (jb b)]) (st' := [jI 2, jI y, jI x, jR 56, jI a, jR 64]) (hp' := (jm_hs (jm_hs (jm_hs hp 61 a x) 62 a y) 63 a 1)) rfl ?_
      refine jE_callI (vs := [jR 56, jI x, jI y, jI 2]) (r := [jI a, jR 64]) (nx := 61) (v := jI (jtc (jgk (hp 56 6) (hp 56 7) (hp 58)) x y 2)) (hp1 := (jm_hs (jm_hs (jm_hs hp 61 a x) 62 a y) 63 a 1)) rfl (c_m_touches (jm_hs (jm_hs (jm_hs hp 61 a x) 62 a y) 63 a 1) hM x y 2 hx hy (by omega)) ?_
      refine jE_if_gt rfl (by omega) (fun c61 => ?_) (fun c61 => ?_)
      · refine jm_Ev.bl 2 (pc' := 84) (A' := [jR 56, jI a, jI x, jI y, jI (jb b)]) (st' := [jI 1, jI a, jR 64]) (hp' := (jm_hs (jm_hs (jm_hs hp 61 a x) 62 a y) 63 a 1)) rfl ?_
        refine jE_iast (n := 160) rfl rfl (by omega) ?_
        have el : (1 : Int) = jle (jgk (hp 56 6) (hp 56 7) (hp 58)) x y := by
          unfold jle
          rw [if_neg (by rw [jtc_f (K := (jgk (hp 56 6) (hp 56 7) (hp 58))) (x := x) (y := y) (k := 3) (by omega)]; simp), if_neg (by rw [jtc_f (K := (jgk (hp 56 6) (hp 56 7) (hp 58))) (x := x) (y := y) (k := 4) (by omega)]; simp)]
        have em : (1 : Int) = jmu (jgk (hp 56 6) (hp 56 7) (hp 58)) x y b := by
          unfold jmu
          rw [t2.2.2.mp c61]; rfl
        exact jE_ret rfl ⟨rfl, by rw [← el, ← em]⟩
      · refine jm_Ev.bl 1 (pc' := 66) (A' := [jR 56, jI a, jI x, jI y, jI (jb b)]) (st' := [jI (jb b), jI a, jR 64]) (hp' := (jm_hs (jm_hs (jm_hs hp 61 a x) 62 a y) 63 a 1)) rfl ?_
        refine jE_ifb_eq rfl (fun c66 => ?_) (fun c66 => ?_)
        · refine jm_Ev.bl 1 (pc' := 84) (A' := [jR 56, jI a, jI x, jI y, jI (jb b)]) (st' := [jI 0, jI a, jR 64]) (hp' := (jm_hs (jm_hs (jm_hs hp 61 a x) 62 a y) 63 a 1)) rfl ?_
          refine jE_iast (n := 160) rfl rfl (by omega) ?_
          have el : (1 : Int) = jle (jgk (hp 56 6) (hp 56 7) (hp 58)) x y := by
            unfold jle
            rw [if_neg (by rw [jtc_f (K := (jgk (hp 56 6) (hp 56 7) (hp 58))) (x := x) (y := y) (k := 3) (by omega)]; simp), if_neg (by rw [jtc_f (K := (jgk (hp 56 6) (hp 56 7) (hp 58))) (x := x) (y := y) (k := 4) (by omega)]; simp)]
          have em : (0 : Int) = jmu (jgk (hp 56 6) (hp 56 7) (hp 58)) x y b := by
            unfold jmu
            rw [jtc_f (K := (jgk (hp 56 6) (hp 56 7) (hp 58))) (x := x) (y := y) (k := 2) (by omega), c66]; rfl
          exact jE_ret rfl ⟨rfl, by rw [← el, ← em]⟩
        · refine jm_Ev.bl 4 (pc' := 73) (A' := [jR 56, jI a, jI x, jI y, jI (jb b)]) (st' := [jI 1, jI y, jI x, jR 56, jI a, jR 64]) (hp' := (jm_hs (jm_hs (jm_hs hp 61 a x) 62 a y) 63 a 1)) rfl ?_
          refine jE_callI (vs := [jR 56, jI x, jI y, jI 1]) (r := [jI a, jR 64]) (nx := 76) (v := jI (jtc (jgk (hp 56 6) (hp 56 7) (hp 58)) x y 1)) (hp1 := (jm_hs (jm_hs (jm_hs hp 61 a x) 62 a y) 63 a 1)) rfl (c_m_touches (jm_hs (jm_hs (jm_hs hp 61 a x) 62 a y) 63 a 1) hM x y 1 hx hy (by omega)) ?_
          refine jE_if_le rfl (by omega) (fun c76 => ?_) (fun c76 => ?_)
          · refine jm_Ev.bl 1 (pc' := 84) (A' := [jR 56, jI a, jI x, jI y, jI (jb b)]) (st' := [jI 0, jI a, jR 64]) (hp' := (jm_hs (jm_hs (jm_hs hp 61 a x) 62 a y) 63 a 1)) rfl ?_
            refine jE_iast (n := 160) rfl rfl (by omega) ?_
            have el : (1 : Int) = jle (jgk (hp 56 6) (hp 56 7) (hp 58)) x y := by
              unfold jle
              rw [if_neg (by rw [jtc_f (K := (jgk (hp 56 6) (hp 56 7) (hp 58))) (x := x) (y := y) (k := 3) (by omega)]; simp), if_neg (by rw [jtc_f (K := (jgk (hp 56 6) (hp 56 7) (hp 58))) (x := x) (y := y) (k := 4) (by omega)]; simp)]
            have em : (0 : Int) = jmu (jgk (hp 56 6) (hp 56 7) (hp 58)) x y b := by
              unfold jmu
              rw [jtc_f (K := (jgk (hp 56 6) (hp 56 7) (hp 58))) (x := x) (y := y) (k := 2) (by omega), c66, jtc_f (K := (jgk (hp 56 6) (hp 56 7) (hp 58))) (x := x) (y := y) (k := 1) (by omega)]; rfl
            exact jE_ret rfl ⟨rfl, by rw [← el, ← em]⟩
          · refine jm_Ev.bl 2 (pc' := 84) (A' := [jR 56, jI a, jI x, jI y, jI (jb b)]) (st' := [jI 1, jI a, jR 64]) (hp' := (jm_hs (jm_hs (jm_hs hp 61 a x) 62 a y) 63 a 1)) rfl ?_
            refine jE_iast (n := 160) rfl rfl (by omega) ?_
            have el : (1 : Int) = jle (jgk (hp 56 6) (hp 56 7) (hp 58)) x y := by
              unfold jle
              rw [if_neg (by rw [jtc_f (K := (jgk (hp 56 6) (hp 56 7) (hp 58))) (x := x) (y := y) (k := 3) (by omega)]; simp), if_neg (by rw [jtc_f (K := (jgk (hp 56 6) (hp 56 7) (hp 58))) (x := x) (y := y) (k := 4) (by omega)]; simp)]
            have em : (1 : Int) = jmu (jgk (hp 56 6) (hp 56 7) (hp 58)) x y b := by
              unfold jmu
              rw [jtc_f (K := (jgk (hp 56 6) (hp 56 7) (hp 58))) (x := x) (y := y) (k := 2) (by omega), c66, t1.2.2.mp c76]; rfl
            exact jE_ret rfl ⟨rfl, by rw [← el, ← em]⟩
    · refine jm_Ev.bl 2 (pc' := 48) (A' := [jR 56, jI a, jI x, jI y, jI (jb b)]) (st' := [jI 2, jI a, jR 63]) (hp' := (jm_hs (jm_hs hp 61 a x) 62 a y)) rfl ?_
      refine jE_iast (n := 160) rfl rfl (by omega) ?_
      refine jm_Ev.bl 7 (pc' := 58) (A' := [jR 56, jI a, jI x, jI y, jI (jb b)]) (st' := [jI 2, jI y, jI x, jR 56, jI a, jR 64]) (hp' := (jm_hs (jm_hs (jm_hs hp 61 a x) 62 a y) 63 a 2)) rfl ?_
      refine jE_callI (vs := [jR 56, jI x, jI y, jI 2]) (r := [jI a, jR 64]) (nx := 61) (v := jI (jtc (jgk (hp 56 6) (hp 56 7) (hp 58)) x y 2)) (hp1 := (jm_hs (jm_hs (jm_hs hp 61 a x) 62 a y) 63 a 2)) rfl (c_m_touches (jm_hs (jm_hs (jm_hs hp 61 a x) 62 a y) 63 a 2) hM x y 2 hx hy (by omega)) ?_
      refine jE_if_gt rfl (by omega) (fun c61 => ?_) (fun c61 => ?_)
      · refine jm_Ev.bl 2 (pc' := 84) (A' := [jR 56, jI a, jI x, jI y, jI (jb b)]) (st' := [jI 1, jI a, jR 64]) (hp' := (jm_hs (jm_hs (jm_hs hp 61 a x) 62 a y) 63 a 2)) rfl ?_
        refine jE_iast (n := 160) rfl rfl (by omega) ?_
        have el : (2 : Int) = jle (jgk (hp 56 6) (hp 56 7) (hp 58)) x y := by
          unfold jle
          rw [if_neg (by rw [jtc_f (K := (jgk (hp 56 6) (hp 56 7) (hp 58))) (x := x) (y := y) (k := 3) (by omega)]; simp), if_pos (t4.2.2.mp c40)]
        have em : (1 : Int) = jmu (jgk (hp 56 6) (hp 56 7) (hp 58)) x y b := by
          unfold jmu
          rw [t2.2.2.mp c61]; rfl
        exact jE_ret rfl ⟨rfl, by rw [← el, ← em]⟩
      · refine jm_Ev.bl 1 (pc' := 66) (A' := [jR 56, jI a, jI x, jI y, jI (jb b)]) (st' := [jI (jb b), jI a, jR 64]) (hp' := (jm_hs (jm_hs (jm_hs hp 61 a x) 62 a y) 63 a 2)) rfl ?_
        refine jE_ifb_eq rfl (fun c66 => ?_) (fun c66 => ?_)
        · refine jm_Ev.bl 1 (pc' := 84) (A' := [jR 56, jI a, jI x, jI y, jI (jb b)]) (st' := [jI 0, jI a, jR 64]) (hp' := (jm_hs (jm_hs (jm_hs hp 61 a x) 62 a y) 63 a 2)) rfl ?_
          refine jE_iast (n := 160) rfl rfl (by omega) ?_
          have el : (2 : Int) = jle (jgk (hp 56 6) (hp 56 7) (hp 58)) x y := by
            unfold jle
            rw [if_neg (by rw [jtc_f (K := (jgk (hp 56 6) (hp 56 7) (hp 58))) (x := x) (y := y) (k := 3) (by omega)]; simp), if_pos (t4.2.2.mp c40)]
          have em : (0 : Int) = jmu (jgk (hp 56 6) (hp 56 7) (hp 58)) x y b := by
            unfold jmu
            rw [jtc_f (K := (jgk (hp 56 6) (hp 56 7) (hp 58))) (x := x) (y := y) (k := 2) (by omega), c66]; rfl
          exact jE_ret rfl ⟨rfl, by rw [← el, ← em]⟩
        · refine jm_Ev.bl 4 (pc' := 73) (A' := [jR 56, jI a, jI x, jI y, jI (jb b)]) (st' := [jI 1, jI y, jI x, jR 56, jI a, jR 64]) (hp' := (jm_hs (jm_hs (jm_hs hp 61 a x) 62 a y) 63 a 2)) rfl ?_
          refine jE_callI (vs := [jR 56, jI x, jI y, jI 1]) (r := [jI a, jR 64]) (nx := 76) (v := jI (jtc (jgk (hp 56 6) (hp 56 7) (hp 58)) x y 1)) (hp1 := (jm_hs (jm_hs (jm_hs hp 61 a x) 62 a y) 63 a 2)) rfl (c_m_touches (jm_hs (jm_hs (jm_hs hp 61 a x) 62 a y) 63 a 2) hM x y 1 hx hy (by omega)) ?_
          refine jE_if_le rfl (by omega) (fun c76 => ?_) (fun c76 => ?_)
          · refine jm_Ev.bl 1 (pc' := 84) (A' := [jR 56, jI a, jI x, jI y, jI (jb b)]) (st' := [jI 0, jI a, jR 64]) (hp' := (jm_hs (jm_hs (jm_hs hp 61 a x) 62 a y) 63 a 2)) rfl ?_
            refine jE_iast (n := 160) rfl rfl (by omega) ?_
            have el : (2 : Int) = jle (jgk (hp 56 6) (hp 56 7) (hp 58)) x y := by
              unfold jle
              rw [if_neg (by rw [jtc_f (K := (jgk (hp 56 6) (hp 56 7) (hp 58))) (x := x) (y := y) (k := 3) (by omega)]; simp), if_pos (t4.2.2.mp c40)]
            have em : (0 : Int) = jmu (jgk (hp 56 6) (hp 56 7) (hp 58)) x y b := by
              unfold jmu
              rw [jtc_f (K := (jgk (hp 56 6) (hp 56 7) (hp 58))) (x := x) (y := y) (k := 2) (by omega), c66, jtc_f (K := (jgk (hp 56 6) (hp 56 7) (hp 58))) (x := x) (y := y) (k := 1) (by omega)]; rfl
            exact jE_ret rfl ⟨rfl, by rw [← el, ← em]⟩
          · refine jm_Ev.bl 2 (pc' := 84) (A' := [jR 56, jI a, jI x, jI y, jI (jb b)]) (st' := [jI 1, jI a, jR 64]) (hp' := (jm_hs (jm_hs (jm_hs hp 61 a x) 62 a y) 63 a 2)) rfl ?_
            refine jE_iast (n := 160) rfl rfl (by omega) ?_
            have el : (2 : Int) = jle (jgk (hp 56 6) (hp 56 7) (hp 58)) x y := by
              unfold jle
              rw [if_neg (by rw [jtc_f (K := (jgk (hp 56 6) (hp 56 7) (hp 58))) (x := x) (y := y) (k := 3) (by omega)]; simp), if_pos (t4.2.2.mp c40)]
            have em : (1 : Int) = jmu (jgk (hp 56 6) (hp 56 7) (hp 58)) x y b := by
              unfold jmu
              rw [jtc_f (K := (jgk (hp 56 6) (hp 56 7) (hp 58))) (x := x) (y := y) (k := 2) (by omega), c66, t1.2.2.mp c76]; rfl
            exact jE_ret rfl ⟨rfl, by rw [← el, ← em]⟩
  · refine jm_Ev.bl 2 (pc' := 48) (A' := [jR 56, jI a, jI x, jI y, jI (jb b)]) (st' := [jI 0, jI a, jR 63]) (hp' := (jm_hs (jm_hs hp 61 a x) 62 a y)) rfl ?_
    refine jE_iast (n := 160) rfl rfl (by omega) ?_
    refine jm_Ev.bl 7 (pc' := 58) (A' := [jR 56, jI a, jI x, jI y, jI (jb b)]) (st' := [jI 2, jI y, jI x, jR 56, jI a, jR 64]) (hp' := (jm_hs (jm_hs (jm_hs hp 61 a x) 62 a y) 63 a 0)) rfl ?_
    refine jE_callI (vs := [jR 56, jI x, jI y, jI 2]) (r := [jI a, jR 64]) (nx := 61) (v := jI (jtc (jgk (hp 56 6) (hp 56 7) (hp 58)) x y 2)) (hp1 := (jm_hs (jm_hs (jm_hs hp 61 a x) 62 a y) 63 a 0)) rfl (c_m_touches (jm_hs (jm_hs (jm_hs hp 61 a x) 62 a y) 63 a 0) hM x y 2 hx hy (by omega)) ?_
    refine jE_if_gt rfl (by omega) (fun c61 => ?_) (fun c61 => ?_)
    · refine jm_Ev.bl 2 (pc' := 84) (A' := [jR 56, jI a, jI x, jI y, jI (jb b)]) (st' := [jI 1, jI a, jR 64]) (hp' := (jm_hs (jm_hs (jm_hs hp 61 a x) 62 a y) 63 a 0)) rfl ?_
      refine jE_iast (n := 160) rfl rfl (by omega) ?_
      have el : (0 : Int) = jle (jgk (hp 56 6) (hp 56 7) (hp 58)) x y := by
        unfold jle
        rw [if_pos (t3.2.2.mp c26)]
      have em : (1 : Int) = jmu (jgk (hp 56 6) (hp 56 7) (hp 58)) x y b := by
        unfold jmu
        rw [t2.2.2.mp c61]; rfl
      exact jE_ret rfl ⟨rfl, by rw [← el, ← em]⟩
    · refine jm_Ev.bl 1 (pc' := 66) (A' := [jR 56, jI a, jI x, jI y, jI (jb b)]) (st' := [jI (jb b), jI a, jR 64]) (hp' := (jm_hs (jm_hs (jm_hs hp 61 a x) 62 a y) 63 a 0)) rfl ?_
      refine jE_ifb_eq rfl (fun c66 => ?_) (fun c66 => ?_)
      · refine jm_Ev.bl 1 (pc' := 84) (A' := [jR 56, jI a, jI x, jI y, jI (jb b)]) (st' := [jI 0, jI a, jR 64]) (hp' := (jm_hs (jm_hs (jm_hs hp 61 a x) 62 a y) 63 a 0)) rfl ?_
        refine jE_iast (n := 160) rfl rfl (by omega) ?_
        have el : (0 : Int) = jle (jgk (hp 56 6) (hp 56 7) (hp 58)) x y := by
          unfold jle
          rw [if_pos (t3.2.2.mp c26)]
        have em : (0 : Int) = jmu (jgk (hp 56 6) (hp 56 7) (hp 58)) x y b := by
          unfold jmu
          rw [jtc_f (K := (jgk (hp 56 6) (hp 56 7) (hp 58))) (x := x) (y := y) (k := 2) (by omega), c66]; rfl
        exact jE_ret rfl ⟨rfl, by rw [← el, ← em]⟩
      · refine jm_Ev.bl 4 (pc' := 73) (A' := [jR 56, jI a, jI x, jI y, jI (jb b)]) (st' := [jI 1, jI y, jI x, jR 56, jI a, jR 64]) (hp' := (jm_hs (jm_hs (jm_hs hp 61 a x) 62 a y) 63 a 0)) rfl ?_
        refine jE_callI (vs := [jR 56, jI x, jI y, jI 1]) (r := [jI a, jR 64]) (nx := 76) (v := jI (jtc (jgk (hp 56 6) (hp 56 7) (hp 58)) x y 1)) (hp1 := (jm_hs (jm_hs (jm_hs hp 61 a x) 62 a y) 63 a 0)) rfl (c_m_touches (jm_hs (jm_hs (jm_hs hp 61 a x) 62 a y) 63 a 0) hM x y 1 hx hy (by omega)) ?_
        refine jE_if_le rfl (by omega) (fun c76 => ?_) (fun c76 => ?_)
        · refine jm_Ev.bl 1 (pc' := 84) (A' := [jR 56, jI a, jI x, jI y, jI (jb b)]) (st' := [jI 0, jI a, jR 64]) (hp' := (jm_hs (jm_hs (jm_hs hp 61 a x) 62 a y) 63 a 0)) rfl ?_
          refine jE_iast (n := 160) rfl rfl (by omega) ?_
          have el : (0 : Int) = jle (jgk (hp 56 6) (hp 56 7) (hp 58)) x y := by
            unfold jle
            rw [if_pos (t3.2.2.mp c26)]
          have em : (0 : Int) = jmu (jgk (hp 56 6) (hp 56 7) (hp 58)) x y b := by
            unfold jmu
            rw [jtc_f (K := (jgk (hp 56 6) (hp 56 7) (hp 58))) (x := x) (y := y) (k := 2) (by omega), c66, jtc_f (K := (jgk (hp 56 6) (hp 56 7) (hp 58))) (x := x) (y := y) (k := 1) (by omega)]; rfl
          exact jE_ret rfl ⟨rfl, by rw [← el, ← em]⟩
        · refine jm_Ev.bl 2 (pc' := 84) (A' := [jR 56, jI a, jI x, jI y, jI (jb b)]) (st' := [jI 1, jI a, jR 64]) (hp' := (jm_hs (jm_hs (jm_hs hp 61 a x) 62 a y) 63 a 0)) rfl ?_
          refine jE_iast (n := 160) rfl rfl (by omega) ?_
          have el : (0 : Int) = jle (jgk (hp 56 6) (hp 56 7) (hp 58)) x y := by
            unfold jle
            rw [if_pos (t3.2.2.mp c26)]
          have em : (1 : Int) = jmu (jgk (hp 56 6) (hp 56 7) (hp 58)) x y b := by
            unfold jmu
            rw [jtc_f (K := (jgk (hp 56 6) (hp 56 7) (hp 58))) (x := x) (y := y) (k := 2) (by omega), c66, t1.2.2.mp c76]; rfl
          exact jE_ret rfl ⟨rfl, by rw [← el, ← em]⟩
