/-! the model's weight; what it has seen; its racks -/
theorem c_m_sortsBy (hp : jm_H) (q : Int) (hq : 0 ≤ q ∧ q ≤ 3) : jm_Ev 201 0 [jI q] [] hp (jK (some (jI (jtab q))) hp) := by
  refine jm_Ev.bl 1 (pc' := 1) (A' := [jI q]) (st' := [jI q]) (hp' := hp) rfl ?_
  rcases (show q = 0 ∨ q = 1 ∨ q = 2 ∨ (q < 0 ∨ 2 < q) by omega) with c1 | c1 | c1 | c1
  · subst c1
    refine jm_Ev.bl 2 (pc' := 30) (A' := [jI 0]) (st' := [jI 6]) (hp' := hp) rfl ?_
    exact jE_ret rfl ⟨rfl, rfl⟩
  · subst c1
    refine jm_Ev.bl 2 (pc' := 32) (A' := [jI 1]) (st' := [jI 4]) (hp' := hp) rfl ?_
    exact jE_ret rfl ⟨rfl, rfl⟩
  · subst c1
    refine jm_Ev.bl 2 (pc' := 35) (A' := [jI 2]) (st' := [jI 23]) (hp' := hp) rfl ?_
    exact jE_ret rfl ⟨rfl, rfl⟩
  · refine jE_tswd rfl (by omega) c1 ?_
    refine jm_Ev.bl 1 (pc' := 38) (A' := [jI q]) (st' := [jI 16]) (hp' := hp) rfl ?_
    exact jE_ret rfl ⟨jrI (by unfold jtab; rw [if_neg (by omega), if_neg (by omega), if_neg (by omega)]), rfl⟩
theorem c_m_sortsOf_L (hp : jm_H) (pl qu an : Int → Int) (z p : Int) (hz : 0 ≤ z ∧ z ≤ 6) (ez : hp 56 30 = z) (hs : ∀ n, 0 ≤ n → n < z → hp 75 (3 * n) = pl n ∧ hp 75 (3 * n + 1) = qu n ∧ hp 75 (3 * n + 2) = an n ∧ jR32 (pl n) ∧ (0 ≤ qu n ∧ qu n ≤ 3) ∧ (an n = 0 ∨ an n = 1)) (hp32 : jR32 p) : ∀ (m : Nat) (n : Int) (y : jm_V), 0 ≤ n → n ≤ z → z - n < m → jm_Ev 202 5 [jR 56, jI p, jI (jsorts pl qu an p n.toNat), jI (3 * n), y] [] hp (jK (some (jI (jsorts pl qu an p z.toNat))) hp) := by
  intro fu
  induction fu with
  | zero => intro n y h0 h1 hm; omega
  | succ fu ih =>
    intro n y h0 h1 hm
    refine jm_Ev.bl 5 (pc' := 12) (A' := [jR 56, jI p, jI (jsorts pl qu an p n.toNat), jI (3 * n), y]) (st' := [jI (3 * (hp 56 30)), jI (3 * n)]) (hp' := hp) rfl ?_
    rw [ez]
    refine jE_icmp_ge rfl (by omega) (by omega) (fun c12 => ?_) (fun c12 => ?_)
    · refine jm_Ev.bl 1 (pc' := 70) (A' := [jR 56, jI p, jI (jsorts pl qu an p n.toNat), jI (3 * n), y]) (st' := [jI (jsorts pl qu an p n.toNat)]) (hp' := hp) rfl ?_
      exact jE_ret rfl ⟨jrI (by rw [show n = z by omega]), rfl⟩
    · obtain ⟨s1, s2, s3, s4, s5, s6⟩ := hs n (by omega) (by omega)
      have jss2 := jsorts_s (pl := pl) (qu := qu) (an := an) (p := p) (i := n) (by omega)
      refine jm_Ev.bl 3 (pc' := 20) (A' := [jR 56, jI p, jI (jsorts pl qu an p n.toNat), jI (3 * n), y]) (st' := [jI (3 * n), jR 75]) (hp' := hp) rfl ?_
      refine jE_iald (n := 18) (f := hp 75) rfl rfl (by omega) ?_
      refine jE_top (w := (pl n)) (s1) ?_
      refine jm_Ev.bl 1 (pc' := 22) (A' := [jR 56, jI p, jI (jsorts pl qu an p n.toNat), jI (3 * n), y]) (st' := [jI p, jI (pl n)]) (hp' := hp) rfl ?_
      refine jE_icmp_ne rfl (by omega) (by omega) (fun c22 => ?_) (fun c22 => ?_)
      · refine jm_Ev.bl 2 (pc' := 5) (A' := [jR 56, jI p, jI (jsorts pl qu an p n.toNat), jI ((3 * n) + 3), y]) (st' := []) (hp' := hp) rfl ?_
        have z := ih (n + 1) (y) (by omega) (by omega) (by omega)
        rw [show jsorts pl qu an p (n + 1).toNat = (jsorts pl qu an p n.toNat) by rw [jss2, if_neg c22], show 3 * (n + 1) = 3 * n + 3 by omega] at z
        exact z
      · refine jm_Ev.bl 5 (pc' := 32) (A' := [jR 56, jI p, jI (jsorts pl qu an p n.toNat), jI (3 * n), y]) (st' := [jI ((3 * n) + 1), jR 75]) (hp' := hp) rfl ?_
        refine jE_iald (n := 18) (f := hp 75) rfl rfl (by omega) ?_
        refine jE_top (w := (qu n)) (s2) ?_
        refine jE_callI (vs := [jI (qu n)]) (r := []) (nx := 36) (v := jI (jtab (qu n))) (hp1 := hp) rfl (c_m_sortsBy hp (qu n) s5) ?_
        refine jm_Ev.bl 7 (pc' := 46) (A' := [jR 56, jI p, jI (jsorts pl qu an p n.toNat), jI (3 * n), jI (jtab (qu n))]) (st' := [jI ((3 * n) + 2), jR 75, jI (jsorts pl qu an p n.toNat)]) (hp' := hp) rfl ?_
        refine jE_iald (n := 18) (f := hp 75) rfl rfl (by omega) ?_
        refine jE_top (w := (an n)) (s3) ?_
        refine jm_Ev.bl 1 (pc' := 48) (A' := [jR 56, jI p, jI (jsorts pl qu an p n.toNat), jI (3 * n), jI (jtab (qu n))]) (st' := [jI 1, jI (an n), jI (jsorts pl qu an p n.toNat)]) (hp' := hp) rfl ?_
        refine jE_icmp_ne rfl (by omega) (by omega) (fun c48 => ?_) (fun c48 => ?_)
        · refine jm_Ev.bl 7 (pc' := 5) (A' := [jR 56, jI p, jI ((Int32.ofInt (jsorts pl qu an p n.toNat) &&& Int32.ofInt (31 - (jtab (qu n)))).toInt), jI ((3 * n) + 3), jI (jtab (qu n))]) (st' := []) (hp' := hp) rfl ?_
          have z := ih (n + 1) (jI (jtab (qu n))) (by omega) (by omega) (by omega)
          rw [show jsorts pl qu an p (n + 1).toNat = (Int32.ofInt (jsorts pl qu an p n.toNat) &&& Int32.ofInt (31 - (jtab (qu n)))).toInt by rw [jss2, if_pos c22]; unfold jsq; rw [if_neg c48], show 3 * (n + 1) = 3 * n + 3 by omega] at z
          exact z
        · refine jm_Ev.bl 6 (pc' := 5) (A' := [jR 56, jI p, jI ((Int32.ofInt (jsorts pl qu an p n.toNat) &&& Int32.ofInt (jtab (qu n))).toInt), jI ((3 * n) + 3), jI (jtab (qu n))]) (st' := []) (hp' := hp) rfl ?_
          have z := ih (n + 1) (jI (jtab (qu n))) (by omega) (by omega) (by omega)
          rw [show jsorts pl qu an p (n + 1).toNat = (Int32.ofInt (jsorts pl qu an p n.toNat) &&& Int32.ofInt (jtab (qu n))).toInt by rw [jss2, if_pos c22]; unfold jsq; rw [if_pos c48], show 3 * (n + 1) = 3 * n + 3 by omega] at z
          exact z
theorem c_m_sortsOf (hp : jm_H) (pl qu an : Int → Int) (z p : Int) (hz : 0 ≤ z ∧ z ≤ 6) (ez : hp 56 30 = z) (hs : ∀ n, 0 ≤ n → n < z → hp 75 (3 * n) = pl n ∧ hp 75 (3 * n + 1) = qu n ∧ hp 75 (3 * n + 2) = an n ∧ jR32 (pl n) ∧ (0 ≤ qu n ∧ qu n ≤ 3) ∧ (an n = 0 ∨ an n = 1)) (hp32 : jR32 p) : jm_Ev 202 0 [jR 56, jI p, jU, jU, jU] [] hp (jK (some (jI (jsorts pl qu an p z.toNat))) hp) := by
  refine jm_Ev.bl 4 (pc' := 5) (A' := [jR 56, jI p, jI 31, jI 0, jU]) (st' := []) (hp' := hp) rfl ?_
  have u := c_m_sortsOf_L hp pl qu an z p hz ez hs hp32 7 0 jU (by omega) (by omega) (by omega)
  exact u
theorem jones_b : ∀ f : Fin 32, (fun s : Int => (((((0 + (Int32.ofInt ((Int32.ofInt s >>> (Int32.ofInt 0 &&& 31)).toInt) &&& Int32.ofInt 1).toInt) + (Int32.ofInt ((Int32.ofInt s >>> (Int32.ofInt 1 &&& 31)).toInt) &&& Int32.ofInt 1).toInt) + (Int32.ofInt ((Int32.ofInt s >>> (Int32.ofInt 2 &&& 31)).toInt) &&& Int32.ofInt 1).toInt) + (Int32.ofInt ((Int32.ofInt s >>> (Int32.ofInt 3 &&& 31)).toInt) &&& Int32.ofInt 1).toInt) + (Int32.ofInt ((Int32.ofInt s >>> (Int32.ofInt 4 &&& 31)).toInt) &&& Int32.ofInt 1).toInt)) (f.val : Int) = jbc (f.val : Int) := by decide +kernel
theorem jones_i {s : Int} (h0 : 0 ≤ s) (h1 : s ≤ 31) : (((((0 + (Int32.ofInt ((Int32.ofInt s >>> (Int32.ofInt 0 &&& 31)).toInt) &&& Int32.ofInt 1).toInt) + (Int32.ofInt ((Int32.ofInt s >>> (Int32.ofInt 1 &&& 31)).toInt) &&& Int32.ofInt 1).toInt) + (Int32.ofInt ((Int32.ofInt s >>> (Int32.ofInt 2 &&& 31)).toInt) &&& Int32.ofInt 1).toInt) + (Int32.ofInt ((Int32.ofInt s >>> (Int32.ofInt 3 &&& 31)).toInt) &&& Int32.ofInt 1).toInt) + (Int32.ofInt ((Int32.ofInt s >>> (Int32.ofInt 4 &&& 31)).toInt) &&& Int32.ofInt 1).toInt) = jbc s := by
  obtain ⟨f, rfl⟩ := jfin (n := 32) h0 (by omega)
  exact jones_b f
theorem c_m_ones (hp : jm_H) (s : Int) (h0 : 0 ≤ s) (h1 : s ≤ 31) : jm_Ev 203 0 [jI s, jU, jU] [] hp (jK (some (jI (jbc s))) hp) := by
  refine jm_Ev.bl 6 (pc' := 6) (A' := [jI s, jI 0, jI 0]) (st' := [jI 5, jI 0]) (hp' := hp) rfl ?_
  refine jE_icmp_ge rfl (by omega) (by omega) (fun c6 => absurd c6 (by omega)) (fun _ => ?_)
  refine jm_Ev.bl 12 (pc' := 6) (A' := [jI s, jI (0 + (Int32.ofInt ((Int32.ofInt s >>> (Int32.ofInt 0 &&& 31)).toInt) &&& Int32.ofInt 1).toInt), jI 1]) (st' := [jI 5, jI 1]) (hp' := hp) rfl ?_
  refine jE_icmp_ge rfl (by omega) (by omega) (fun c6 => absurd c6 (by omega)) (fun _ => ?_)
  refine jm_Ev.bl 12 (pc' := 6) (A' := [jI s, jI ((0 + (Int32.ofInt ((Int32.ofInt s >>> (Int32.ofInt 0 &&& 31)).toInt) &&& Int32.ofInt 1).toInt) + (Int32.ofInt ((Int32.ofInt s >>> (Int32.ofInt 1 &&& 31)).toInt) &&& Int32.ofInt 1).toInt), jI 2]) (st' := [jI 5, jI 2]) (hp' := hp) rfl ?_
  refine jE_icmp_ge rfl (by omega) (by omega) (fun c6 => absurd c6 (by omega)) (fun _ => ?_)
  refine jm_Ev.bl 12 (pc' := 6) (A' := [jI s, jI (((0 + (Int32.ofInt ((Int32.ofInt s >>> (Int32.ofInt 0 &&& 31)).toInt) &&& Int32.ofInt 1).toInt) + (Int32.ofInt ((Int32.ofInt s >>> (Int32.ofInt 1 &&& 31)).toInt) &&& Int32.ofInt 1).toInt) + (Int32.ofInt ((Int32.ofInt s >>> (Int32.ofInt 2 &&& 31)).toInt) &&& Int32.ofInt 1).toInt), jI 3]) (st' := [jI 5, jI 3]) (hp' := hp) rfl ?_
  refine jE_icmp_ge rfl (by omega) (by omega) (fun c6 => absurd c6 (by omega)) (fun _ => ?_)
  refine jm_Ev.bl 12 (pc' := 6) (A' := [jI s, jI ((((0 + (Int32.ofInt ((Int32.ofInt s >>> (Int32.ofInt 0 &&& 31)).toInt) &&& Int32.ofInt 1).toInt) + (Int32.ofInt ((Int32.ofInt s >>> (Int32.ofInt 1 &&& 31)).toInt) &&& Int32.ofInt 1).toInt) + (Int32.ofInt ((Int32.ofInt s >>> (Int32.ofInt 2 &&& 31)).toInt) &&& Int32.ofInt 1).toInt) + (Int32.ofInt ((Int32.ofInt s >>> (Int32.ofInt 3 &&& 31)).toInt) &&& Int32.ofInt 1).toInt), jI 4]) (st' := [jI 5, jI 4]) (hp' := hp) rfl ?_
  refine jE_icmp_ge rfl (by omega) (by omega) (fun c6 => absurd c6 (by omega)) (fun _ => ?_)
  refine jm_Ev.bl 12 (pc' := 6) (A' := [jI s, jI (((((0 + (Int32.ofInt ((Int32.ofInt s >>> (Int32.ofInt 0 &&& 31)).toInt) &&& Int32.ofInt 1).toInt) + (Int32.ofInt ((Int32.ofInt s >>> (Int32.ofInt 1 &&& 31)).toInt) &&& Int32.ofInt 1).toInt) + (Int32.ofInt ((Int32.ofInt s >>> (Int32.ofInt 2 &&& 31)).toInt) &&& Int32.ofInt 1).toInt) + (Int32.ofInt ((Int32.ofInt s >>> (Int32.ofInt 3 &&& 31)).toInt) &&& Int32.ofInt 1).toInt) + (Int32.ofInt ((Int32.ofInt s >>> (Int32.ofInt 4 &&& 31)).toInt) &&& Int32.ofInt 1).toInt), jI 5]) (st' := [jI 5, jI 5]) (hp' := hp) rfl ?_
  refine jE_icmp_ge rfl (by omega) (by omega) (fun _ => ?_) (fun c6 => absurd c6 (by omega))
  refine jm_Ev.bl 1 (pc' := 24) (A' := [jI s, jI (((((0 + (Int32.ofInt ((Int32.ofInt s >>> (Int32.ofInt 0 &&& 31)).toInt) &&& Int32.ofInt 1).toInt) + (Int32.ofInt ((Int32.ofInt s >>> (Int32.ofInt 1 &&& 31)).toInt) &&& Int32.ofInt 1).toInt) + (Int32.ofInt ((Int32.ofInt s >>> (Int32.ofInt 2 &&& 31)).toInt) &&& Int32.ofInt 1).toInt) + (Int32.ofInt ((Int32.ofInt s >>> (Int32.ofInt 3 &&& 31)).toInt) &&& Int32.ofInt 1).toInt) + (Int32.ofInt ((Int32.ofInt s >>> (Int32.ofInt 4 &&& 31)).toInt) &&& Int32.ofInt 1).toInt), jI 5]) (st' := [jI (((((0 + (Int32.ofInt ((Int32.ofInt s >>> (Int32.ofInt 0 &&& 31)).toInt) &&& Int32.ofInt 1).toInt) + (Int32.ofInt ((Int32.ofInt s >>> (Int32.ofInt 1 &&& 31)).toInt) &&& Int32.ofInt 1).toInt) + (Int32.ofInt ((Int32.ofInt s >>> (Int32.ofInt 2 &&& 31)).toInt) &&& Int32.ofInt 1).toInt) + (Int32.ofInt ((Int32.ofInt s >>> (Int32.ofInt 3 &&& 31)).toInt) &&& Int32.ofInt 1).toInt) + (Int32.ofInt ((Int32.ofInt s >>> (Int32.ofInt 4 &&& 31)).toInt) &&& Int32.ofInt 1).toInt)]) (hp' := hp) rfl ?_
  exact jE_ret rfl ⟨jrI (jones_i h0 h1), rfl⟩
theorem jbc_r {s : Int} (h0 : 0 ≤ s) : 0 ≤ jbc s ∧ jbc s ≤ 5 := by unfold jbc; omega
theorem c_m_askOf_L (hp : jm_H) (p s : Int) (hs : 0 ≤ s ∧ s ≤ 31) (hs0 : ¬ s = 0) : ∀ (m : Nat) (q : Int) (y1 y2 y3 : jm_V), 0 ≤ q → q ≤ 4 → 4 - q < m → jm_Ev 204 15 [jR 56, jI p, jI s, jI ((jasks s q.toNat).2), jI ((jasks s q.toNat).1), jI q, y1, y2, y3] [] hp (jK (some (jI (jask s))) hp) := by
  intro fu
  induction fu with
  | zero => intro q y1 y2 y3 h0 h1 hm; omega
  | succ fu ih =>
    intro q y1 y2 y3 h0 h1 hm
    refine jm_Ev.bl 2 (pc' := 18) (A' := [jR 56, jI p, jI s, jI ((jasks s q.toNat).2), jI ((jasks s q.toNat).1), jI q, y1, y2, y3]) (st' := [jI 4, jI q]) (hp' := hp) rfl ?_
    refine jE_icmp_ge rfl (by omega) (by omega) (fun c18 => ?_) (fun c18 => ?_)
    · refine jm_Ev.bl 1 (pc' := 99) (A' := [jR 56, jI p, jI s, jI ((jasks s q.toNat).2), jI ((jasks s q.toNat).1), jI q, y1, y2, y3]) (st' := [jI ((jasks s q.toNat).2)]) (hp' := hp) rfl ?_
      exact jE_ret rfl ⟨jrI (by unfold jask; rw [if_neg hs0, show q = 4 by omega]; rfl), rfl⟩
    · refine jm_Ev.bl 1 (pc' := 22) (A' := [jR 56, jI p, jI s, jI ((jasks s q.toNat).2), jI ((jasks s q.toNat).1), jI q, y1, y2, y3]) (st' := [jI s]) (hp' := hp) rfl ?_
      refine jE_if_eq rfl (by omega) (fun c22 => ?_) (fun c22 => ?_)
      · refine jm_Ev.bl 1 (pc' := 99) (A' := [jR 56, jI p, jI s, jI ((jasks s q.toNat).2), jI ((jasks s q.toNat).1), jI q, y1, y2, y3]) (st' := [jI ((jasks s q.toNat).2)]) (hp' := hp) rfl ?_
        exact absurd c22 hs0
      · have sqr := jsq_r (s := s) (q := q) (b := 1) hs.1 hs.2 (by omega) (by omega)
        have b1 := jbc_r sqr.1
        have b2 := jbc_r hs.1
        have ar := jasks_r hs.1 hs.2 q.toNat (by omega)
        have as := jasks_s (s := s) (q := q) (by omega)
        have lr : -5 ≤ jlf s q ∧ jlf s q ≤ 5 := by unfold jlf; omega
        refine jm_Ev.bl 2 (pc' := 28) (A' := [jR 56, jI p, jI s, jI ((jasks s q.toNat).2), jI ((jasks s q.toNat).1), jI q, y1, y2, y3]) (st' := [jI q, jI s]) (hp' := hp) rfl ?_
        refine jE_callI (vs := [jI q]) (r := [jI s]) (nx := 31) (v := jI (jtab q)) (hp1 := hp) rfl (c_m_sortsBy hp q (by omega)) ?_
        refine jm_Ev.bl 1 (pc' := 32) (A' := [jR 56, jI p, jI s, jI ((jasks s q.toNat).2), jI ((jasks s q.toNat).1), jI q, y1, y2, y3]) (st' := [jI ((Int32.ofInt s &&& Int32.ofInt (jtab q)).toInt)]) (hp' := hp) rfl ?_
        refine jE_top (w := jsq s q 1) (by unfold jsq; rw [if_pos rfl]) ?_
        refine jE_callI (vs := [jI (jsq s q 1)]) (r := []) (nx := 35) (v := jI (jbc (jsq s q 1))) (hp1 := hp) rfl (c_m_ones hp (jsq s q 1) sqr.1 sqr.2) ?_
        refine jm_Ev.bl 2 (pc' := 38) (A' := [jR 56, jI p, jI s, jI ((jasks s q.toNat).2), jI ((jasks s q.toNat).1), jI q, jI (jbc (jsq s q 1)), y2, y3]) (st' := [jI s]) (hp' := hp) rfl ?_
        refine jE_callI (vs := [jI s]) (r := []) (nx := 41) (v := jI (jbc s)) (hp1 := hp) rfl (c_m_ones hp s hs.1 hs.2) ?_
        refine jm_Ev.bl 5 (pc' := 50) (A' := [jR 56, jI p, jI s, jI ((jasks s q.toNat).2), jI ((jasks s q.toNat).1), jI q, jI (jbc (jsq s q 1)), jI ((jbc s) - (jbc (jsq s q 1))), y3]) (st' := [jI ((jbc s) - (jbc (jsq s q 1))), jI (jbc (jsq s q 1))]) (hp' := hp) rfl ?_
        refine jE_icmp_le rfl (by omega) (by omega) (fun c50 => ?_) (fun c50 => ?_)
        · refine jm_Ev.bl 1 (pc' := 60) (A' := [jR 56, jI p, jI s, jI ((jasks s q.toNat).2), jI ((jasks s q.toNat).1), jI q, jI (jbc (jsq s q 1)), jI ((jbc s) - (jbc (jsq s q 1))), y3]) (st' := [jI ((jbc s) - (jbc (jsq s q 1)))]) (hp' := hp) rfl ?_
          refine jE_top (w := jlf s q) (by unfold jlf; omega) ?_
          refine jm_Ev.bl 3 (pc' := 66) (A' := [jR 56, jI p, jI s, jI ((jasks s q.toNat).2), jI ((jasks s q.toNat).1), jI q, jI (jbc (jsq s q 1)), jI ((jbc s) - (jbc (jsq s q 1))), jI (jlf s q)]) (st' := [jI ((jasks s q.toNat).1), jI (jlf s q)]) (hp' := hp) rfl ?_
          refine jE_icmp_ge rfl (by omega) (by omega) (fun c66 => ?_) (fun c66 => ?_)
          · refine jm_Ev.bl 4 (pc' := 80) (A' := [jR 56, jI p, jI s, jI ((jasks s q.toNat).2), jI ((jasks s q.toNat).1), jI q, jI (jbc (jsq s q 1)), jI ((jbc s) - (jbc (jsq s q 1))), jI (jlf s q)]) (st' := [jI ((jasks s q.toNat).1), jI (jlf s q)]) (hp' := hp) rfl ?_
            refine jE_icmp_ge rfl (by omega) (by omega) (fun c80 => ?_) (fun c80 => ?_)
            · refine jm_Ev.bl 4 (pc' := 15) (A' := [jR 56, jI p, jI s, jI ((jasks s q.toNat).2), jI ((jasks s q.toNat).1), jI (q + 1), jI (jbc (jsq s q 1)), jI ((jbc s) - (jbc (jsq s q 1))), jI (jlf s q)]) (st' := []) (hp' := hp) rfl ?_
              have e : (jasks s (q + 1).toNat) = (jasks s q.toNat) := by rw [as, if_neg (by omega)]
              have z := ih (q + 1) (jI (jbc (jsq s q 1))) (jI ((jbc s) - (jbc (jsq s q 1)))) (jI (jlf s q)) (by omega) (by omega) (by omega)
              rw [e] at z
              exact z
            · refine jm_Ev.bl 5 (pc' := 15) (A' := [jR 56, jI p, jI s, jI ((jasks s q.toNat).2), jI (jlf s q), jI (q + 1), jI (jbc (jsq s q 1)), jI ((jbc s) - (jbc (jsq s q 1))), jI (jlf s q)]) (st' := []) (hp' := hp) rfl ?_
              omega
          · refine jm_Ev.bl 5 (pc' := 80) (A' := [jR 56, jI p, jI s, jI q, jI ((jasks s q.toNat).1), jI q, jI (jbc (jsq s q 1)), jI ((jbc s) - (jbc (jsq s q 1))), jI (jlf s q)]) (st' := [jI ((jasks s q.toNat).1), jI (jlf s q)]) (hp' := hp) rfl ?_
            refine jE_icmp_ge rfl (by omega) (by omega) (fun c80 => ?_) (fun c80 => ?_)
            · refine jm_Ev.bl 4 (pc' := 15) (A' := [jR 56, jI p, jI s, jI q, jI ((jasks s q.toNat).1), jI (q + 1), jI (jbc (jsq s q 1)), jI ((jbc s) - (jbc (jsq s q 1))), jI (jlf s q)]) (st' := []) (hp' := hp) rfl ?_
              omega
            · refine jm_Ev.bl 5 (pc' := 15) (A' := [jR 56, jI p, jI s, jI q, jI (jlf s q), jI (q + 1), jI (jbc (jsq s q 1)), jI ((jbc s) - (jbc (jsq s q 1))), jI (jlf s q)]) (st' := []) (hp' := hp) rfl ?_
              have e : (jasks s (q + 1).toNat) = (jlf s q, q) := by rw [as, if_pos c66]
              have z := ih (q + 1) (jI (jbc (jsq s q 1))) (jI ((jbc s) - (jbc (jsq s q 1)))) (jI (jlf s q)) (by omega) (by omega) (by omega)
              rw [e] at z
              exact z
        · refine jm_Ev.bl 2 (pc' := 60) (A' := [jR 56, jI p, jI s, jI ((jasks s q.toNat).2), jI ((jasks s q.toNat).1), jI q, jI (jbc (jsq s q 1)), jI ((jbc s) - (jbc (jsq s q 1))), y3]) (st' := [jI (jbc (jsq s q 1))]) (hp' := hp) rfl ?_
          refine jE_top (w := jlf s q) (by unfold jlf; omega) ?_
          refine jm_Ev.bl 3 (pc' := 66) (A' := [jR 56, jI p, jI s, jI ((jasks s q.toNat).2), jI ((jasks s q.toNat).1), jI q, jI (jbc (jsq s q 1)), jI ((jbc s) - (jbc (jsq s q 1))), jI (jlf s q)]) (st' := [jI ((jasks s q.toNat).1), jI (jlf s q)]) (hp' := hp) rfl ?_
          refine jE_icmp_ge rfl (by omega) (by omega) (fun c66 => ?_) (fun c66 => ?_)
          · refine jm_Ev.bl 4 (pc' := 80) (A' := [jR 56, jI p, jI s, jI ((jasks s q.toNat).2), jI ((jasks s q.toNat).1), jI q, jI (jbc (jsq s q 1)), jI ((jbc s) - (jbc (jsq s q 1))), jI (jlf s q)]) (st' := [jI ((jasks s q.toNat).1), jI (jlf s q)]) (hp' := hp) rfl ?_
            refine jE_icmp_ge rfl (by omega) (by omega) (fun c80 => ?_) (fun c80 => ?_)
            · refine jm_Ev.bl 4 (pc' := 15) (A' := [jR 56, jI p, jI s, jI ((jasks s q.toNat).2), jI ((jasks s q.toNat).1), jI (q + 1), jI (jbc (jsq s q 1)), jI ((jbc s) - (jbc (jsq s q 1))), jI (jlf s q)]) (st' := []) (hp' := hp) rfl ?_
              have e : (jasks s (q + 1).toNat) = (jasks s q.toNat) := by rw [as, if_neg (by omega)]
              have z := ih (q + 1) (jI (jbc (jsq s q 1))) (jI ((jbc s) - (jbc (jsq s q 1)))) (jI (jlf s q)) (by omega) (by omega) (by omega)
              rw [e] at z
              exact z
            · refine jm_Ev.bl 5 (pc' := 15) (A' := [jR 56, jI p, jI s, jI ((jasks s q.toNat).2), jI (jlf s q), jI (q + 1), jI (jbc (jsq s q 1)), jI ((jbc s) - (jbc (jsq s q 1))), jI (jlf s q)]) (st' := []) (hp' := hp) rfl ?_
              omega
          · refine jm_Ev.bl 5 (pc' := 80) (A' := [jR 56, jI p, jI s, jI q, jI ((jasks s q.toNat).1), jI q, jI (jbc (jsq s q 1)), jI ((jbc s) - (jbc (jsq s q 1))), jI (jlf s q)]) (st' := [jI ((jasks s q.toNat).1), jI (jlf s q)]) (hp' := hp) rfl ?_
            refine jE_icmp_ge rfl (by omega) (by omega) (fun c80 => ?_) (fun c80 => ?_)
            · refine jm_Ev.bl 4 (pc' := 15) (A' := [jR 56, jI p, jI s, jI q, jI ((jasks s q.toNat).1), jI (q + 1), jI (jbc (jsq s q 1)), jI ((jbc s) - (jbc (jsq s q 1))), jI (jlf s q)]) (st' := []) (hp' := hp) rfl ?_
              omega
            · refine jm_Ev.bl 5 (pc' := 15) (A' := [jR 56, jI p, jI s, jI q, jI (jlf s q), jI (q + 1), jI (jbc (jsq s q 1)), jI ((jbc s) - (jbc (jsq s q 1))), jI (jlf s q)]) (st' := []) (hp' := hp) rfl ?_
              have e : (jasks s (q + 1).toNat) = (jlf s q, q) := by rw [as, if_pos c66]
              have z := ih (q + 1) (jI (jbc (jsq s q 1))) (jI ((jbc s) - (jbc (jsq s q 1)))) (jI (jlf s q)) (by omega) (by omega) (by omega)
              rw [e] at z
              exact z
theorem c_m_askOf (hp : jm_H) (pl qu an : Int → Int) (z p : Int) (hz : 0 ≤ z ∧ z ≤ 6) (ez : hp 56 30 = z) (hs : ∀ n, 0 ≤ n → n < z → hp 75 (3 * n) = pl n ∧ hp 75 (3 * n + 1) = qu n ∧ hp 75 (3 * n + 2) = an n ∧ jR32 (pl n) ∧ (0 ≤ qu n ∧ qu n ≤ 3) ∧ (an n = 0 ∨ an n = 1)) (hp32 : jR32 p) (s : Int) (es : jsorts pl qu an p z.toNat = s) (sr : 0 ≤ s ∧ s ≤ 31) : jm_Ev 204 0 [jR 56, jI p, jU, jU, jU, jU, jU, jU, jU] [] hp (jK (some (jI (jask s))) hp) := by
  refine jm_Ev.bl 2 (pc' := 2) (A' := [jR 56, jI p, jU, jU, jU, jU, jU, jU, jU]) (st' := [jI p, jR 56]) (hp' := hp) rfl ?_
  refine jE_callI (vs := [jR 56, jI p]) (r := []) (nx := 5) (v := jI s) (hp1 := hp) rfl (es ▸ c_m_sortsOf hp pl qu an z p hz ez hs hp32) ?_
  refine jm_Ev.bl 7 (pc' := 15) (A' := [jR 56, jI p, jI s, jI (-1), jI 6, jI 0, jU, jU, jU]) (st' := []) (hp' := hp) rfl ?_
  by_cases c : s = 0
  · subst c
    refine jm_Ev.bl 2 (pc' := 18) (A' := [jR 56, jI p, jI 0, jI (-1), jI 6, jI 0, jU, jU, jU]) (st' := [jI 4, jI 0]) (hp' := hp) rfl ?_
    refine jE_icmp_ge rfl (by omega) (by omega) (fun c18 => absurd c18 (by omega)) (fun _ => ?_)
    refine jm_Ev.bl 1 (pc' := 22) (A' := [jR 56, jI p, jI 0, jI (-1), jI 6, jI 0, jU, jU, jU]) (st' := [jI 0]) (hp' := hp) rfl ?_
    refine jE_if_eq rfl (by omega) (fun _ => ?_) (fun c22 => absurd c22 (by omega))
    refine jm_Ev.bl 1 (pc' := 99) (A' := [jR 56, jI p, jI 0, jI (-1), jI 6, jI 0, jU, jU, jU]) (st' := [jI (-1)]) (hp' := hp) rfl ?_
    exact jE_ret rfl ⟨rfl, rfl⟩
  · exact c_m_askOf_L hp p s sr c 5 0 _ _ _ (by omega) (by omega) (by omega)
theorem c_m_isOf (hp : jm_H) (a b : Int) (ha : jR32 a) (hb : jR32 b) : jm_Ev 187 0 [jI a, jI b] [] hp (jK (some (jI (jb (decide (jals a b))))) hp) := by
  refine jm_Ev.bl 1 (pc' := 1) (A' := [jI a, jI b]) (st' := [jI b]) (hp' := hp) rfl ?_
  refine jE_if_eq rfl (by omega) (fun c1 => ?_) (fun c1 => ?_)
  · refine jm_Ev.bl 2 (pc' := 24) (A' := [jI a, jI b]) (st' := [jI 1]) (hp' := hp) rfl ?_
    exact jE_ret rfl ⟨jrI (by rw [decide_eq_true (by unfold jals; omega)]; rfl), rfl⟩
  · refine jm_Ev.bl 2 (pc' := 6) (A' := [jI a, jI b]) (st' := [jI a, jI b]) (hp' := hp) rfl ?_
    refine jE_icmp_eq rfl (by omega) (by omega) (fun c6 => ?_) (fun c6 => ?_)
    · refine jm_Ev.bl 2 (pc' := 24) (A' := [jI a, jI b]) (st' := [jI 1]) (hp' := hp) rfl ?_
      exact jE_ret rfl ⟨jrI (by rw [decide_eq_true (by unfold jals; omega)]; rfl), rfl⟩
    · refine jm_Ev.bl 2 (pc' := 11) (A' := [jI a, jI b]) (st' := [jI 1, jI b]) (hp' := hp) rfl ?_
      refine jE_icmp_ne rfl (by omega) (by omega) (fun c11 => ?_) (fun c11 => ?_)
      · refine jm_Ev.bl 1 (pc' := 24) (A' := [jI a, jI b]) (st' := [jI 0]) (hp' := hp) rfl ?_
        exact jE_ret rfl ⟨jrI (by rw [decide_eq_false (fun z => by unfold jals at z; omega)]; rfl), rfl⟩
      · refine jm_Ev.bl 2 (pc' := 16) (A' := [jI a, jI b]) (st' := [jI 2, jI a]) (hp' := hp) rfl ?_
        refine jE_icmp_ne rfl (by omega) (by omega) (fun c16 => ?_) (fun c16 => ?_)
        · refine jm_Ev.bl 1 (pc' := 24) (A' := [jI a, jI b]) (st' := [jI 0]) (hp' := hp) rfl ?_
          exact jE_ret rfl ⟨jrI (by rw [decide_eq_false (fun z => by unfold jals at z; omega)]; rfl), rfl⟩
        · refine jm_Ev.bl 2 (pc' := 24) (A' := [jI a, jI b]) (st' := [jI 1]) (hp' := hp) rfl ?_
          exact jE_ret rfl ⟨jrI (by rw [decide_eq_true (by unfold jals; omega)]; rfl), rfl⟩
theorem c_m_rackedOf_L (hp : jm_H) (a z : Int) (ha : 0 ≤ a ∧ a < 5) (hz : 0 ≤ z ∧ z ≤ 3) (hr : ∀ n, 0 ≤ n → n < 3 → jR32 (hp 74 (3 * a + n)) ∧ (hp 74 (3 * a + n) ≠ -1 ↔ n < z)) : ∀ (m : Nat) (n : Int), 0 ≤ n → n ≤ z → 3 - n < m → jm_Ev 195 2 [jR 56, jI a, jI n] [] hp (jK (some (jI z)) hp) := by
  intro fu
  induction fu with
  | zero => intro n h0 h1 hm; omega
  | succ fu ih =>
    intro n h0 h1 hm
    refine jm_Ev.bl 2 (pc' := 4) (A' := [jR 56, jI a, jI n]) (st' := [jI 3, jI n]) (hp' := hp) rfl ?_
    refine jE_icmp_ge rfl (by omega) (by omega) (fun c4 => ?_) (fun c4 => ?_)
    · refine jm_Ev.bl 1 (pc' := 28) (A' := [jR 56, jI a, jI n]) (st' := [jI n]) (hp' := hp) rfl ?_
      exact jE_ret rfl ⟨jrI (by omega), rfl⟩
    · have hn := hr n h0 (by omega)
      refine jm_Ev.bl 7 (pc' := 16) (A' := [jR 56, jI a, jI n]) (st' := [jI ((3 * a) + n), jR 74]) (hp' := hp) rfl ?_
      refine jE_iald (n := 15) (f := hp 74) rfl rfl (by omega) ?_
      refine jm_Ev.bl 1 (pc' := 18) (A' := [jR 56, jI a, jI n]) (st' := [jI (-1), jI (hp 74 ((3 * a) + n))]) (hp' := hp) rfl ?_
      refine jE_icmp_eq rfl (by omega) (by omega) (fun c18 => ?_) (fun c18 => ?_)
      · refine jm_Ev.bl 1 (pc' := 28) (A' := [jR 56, jI a, jI n]) (st' := [jI n]) (hp' := hp) rfl ?_
        exact jE_ret rfl ⟨jrI (by by_cases q : n < z; exact absurd c18 (hn.2.mpr q); omega), rfl⟩
      · refine jm_Ev.bl 2 (pc' := 2) (A' := [jR 56, jI a, jI (n + 1)]) (st' := []) (hp' := hp) rfl ?_
        exact ih (n + 1) (by omega) (by have := hn.2.mp c18; omega) (by omega)
theorem c_m_rackedOf (hp : jm_H) (a z : Int) (ha : 0 ≤ a ∧ a < 5) (hz : 0 ≤ z ∧ z ≤ 3) (hr : ∀ n, 0 ≤ n → n < 3 → jR32 (hp 74 (3 * a + n)) ∧ (hp 74 (3 * a + n) ≠ -1 ↔ n < z)) : jm_Ev 195 0 [jR 56, jI a, jU] [] hp (jK (some (jI z)) hp) := by
  refine jm_Ev.bl 2 (pc' := 2) (A' := [jR 56, jI a, jI 0]) (st' := []) (hp' := hp) rfl ?_
  exact c_m_rackedOf_L hp a z ha hz hr 4 0 (by omega) (by omega) (by omega)
theorem c_m_rackedAll (hp : jm_H) (z : Int → Int) (hz : ∀ a, 0 ≤ a → a < 5 → 0 ≤ z a ∧ z a ≤ 3) (hr : ∀ a, 0 ≤ a → a < 5 → ∀ n, 0 ≤ n → n < 3 → jR32 (hp 74 (3 * a + n)) ∧ (hp 74 (3 * a + n) ≠ -1 ↔ n < z a)) : jm_Ev 210 0 [jR 56, jU, jU] [] hp (jK (some (jI (z 0 + z 1 + z 2 + z 3 + z 4))) hp) := by
  refine jm_Ev.bl 6 (pc' := 6) (A' := [jR 56, jI 0, jI 0]) (st' := [jI 5, jI 0]) (hp' := hp) rfl ?_
  refine jE_icmp_ge rfl (by omega) (by omega) (fun c6 => absurd c6 (by omega)) (fun _ => ?_)
  refine jm_Ev.bl 3 (pc' := 12) (A' := [jR 56, jI 0, jI 0]) (st' := [jI 0, jR 56, jI 0]) (hp' := hp) rfl ?_
  refine jE_callI (vs := [jR 56, jI 0]) (r := [jI 0]) (nx := 15) (v := jI (z 0)) (hp1 := hp) rfl (c_m_rackedOf hp 0 (z 0) (by omega) (hz 0 (by omega) (by omega)) (fun n a b => hr 0 (by omega) (by omega) n a b)) ?_
  refine jm_Ev.bl 6 (pc' := 6) (A' := [jR 56, jI (0 + (z 0)), jI 1]) (st' := [jI 5, jI 1]) (hp' := hp) rfl ?_
  refine jE_icmp_ge rfl (by omega) (by omega) (fun c6 => absurd c6 (by omega)) (fun _ => ?_)
  refine jm_Ev.bl 3 (pc' := 12) (A' := [jR 56, jI (0 + (z 0)), jI 1]) (st' := [jI 1, jR 56, jI (0 + (z 0))]) (hp' := hp) rfl ?_
  refine jE_callI (vs := [jR 56, jI 1]) (r := [jI (0 + (z 0))]) (nx := 15) (v := jI (z 1)) (hp1 := hp) rfl (c_m_rackedOf hp 1 (z 1) (by omega) (hz 1 (by omega) (by omega)) (fun n a b => hr 1 (by omega) (by omega) n a b)) ?_
  refine jm_Ev.bl 6 (pc' := 6) (A' := [jR 56, jI ((0 + (z 0)) + (z 1)), jI 2]) (st' := [jI 5, jI 2]) (hp' := hp) rfl ?_
  refine jE_icmp_ge rfl (by omega) (by omega) (fun c6 => absurd c6 (by omega)) (fun _ => ?_)
  refine jm_Ev.bl 3 (pc' := 12) (A' := [jR 56, jI ((0 + (z 0)) + (z 1)), jI 2]) (st' := [jI 2, jR 56, jI ((0 + (z 0)) + (z 1))]) (hp' := hp) rfl ?_
  refine jE_callI (vs := [jR 56, jI 2]) (r := [jI ((0 + (z 0)) + (z 1))]) (nx := 15) (v := jI (z 2)) (hp1 := hp) rfl (c_m_rackedOf hp 2 (z 2) (by omega) (hz 2 (by omega) (by omega)) (fun n a b => hr 2 (by omega) (by omega) n a b)) ?_
  refine jm_Ev.bl 6 (pc' := 6) (A' := [jR 56, jI (((0 + (z 0)) + (z 1)) + (z 2)), jI 3]) (st' := [jI 5, jI 3]) (hp' := hp) rfl ?_
  refine jE_icmp_ge rfl (by omega) (by omega) (fun c6 => absurd c6 (by omega)) (fun _ => ?_)
  refine jm_Ev.bl 3 (pc' := 12) (A' := [jR 56, jI (((0 + (z 0)) + (z 1)) + (z 2)), jI 3]) (st' := [jI 3, jR 56, jI (((0 + (z 0)) + (z 1)) + (z 2))]) (hp' := hp) rfl ?_
  refine jE_callI (vs := [jR 56, jI 3]) (r := [jI (((0 + (z 0)) + (z 1)) + (z 2))]) (nx := 15) (v := jI (z 3)) (hp1 := hp) rfl (c_m_rackedOf hp 3 (z 3) (by omega) (hz 3 (by omega) (by omega)) (fun n a b => hr 3 (by omega) (by omega) n a b)) ?_
  refine jm_Ev.bl 6 (pc' := 6) (A' := [jR 56, jI ((((0 + (z 0)) + (z 1)) + (z 2)) + (z 3)), jI 4]) (st' := [jI 5, jI 4]) (hp' := hp) rfl ?_
  refine jE_icmp_ge rfl (by omega) (by omega) (fun c6 => absurd c6 (by omega)) (fun _ => ?_)
  refine jm_Ev.bl 3 (pc' := 12) (A' := [jR 56, jI ((((0 + (z 0)) + (z 1)) + (z 2)) + (z 3)), jI 4]) (st' := [jI 4, jR 56, jI ((((0 + (z 0)) + (z 1)) + (z 2)) + (z 3))]) (hp' := hp) rfl ?_
  refine jE_callI (vs := [jR 56, jI 4]) (r := [jI ((((0 + (z 0)) + (z 1)) + (z 2)) + (z 3))]) (nx := 15) (v := jI (z 4)) (hp1 := hp) rfl (c_m_rackedOf hp 4 (z 4) (by omega) (hz 4 (by omega) (by omega)) (fun n a b => hr 4 (by omega) (by omega) n a b)) ?_
  refine jm_Ev.bl 6 (pc' := 6) (A' := [jR 56, jI (((((0 + (z 0)) + (z 1)) + (z 2)) + (z 3)) + (z 4)), jI 5]) (st' := [jI 5, jI 5]) (hp' := hp) rfl ?_
  refine jE_icmp_ge rfl (by omega) (by omega) (fun _ => ?_) (fun c6 => absurd c6 (by omega))
  refine jm_Ev.bl 1 (pc' := 24) (A' := [jR 56, jI (((((0 + (z 0)) + (z 1)) + (z 2)) + (z 3)) + (z 4)), jI 5]) (st' := [jI (((((0 + (z 0)) + (z 1)) + (z 2)) + (z 3)) + (z 4))]) (hp' := hp) rfl ?_
  exact jE_ret rfl ⟨jrI (by omega), rfl⟩
def jwgt (w h : Int) (d : Int → Int) : Int := if 1 < jcnt d (w * h).toNat then (jwf w h d (w * h).toNat).2 else -1
def jmwt (hp : jm_H) (v : Int) : Option jm_V → jm_H → Prop := fun rv h => rv = some (jI v) ∧ h 56 29 = hp 56 29 + 1 ∧ h 58 = hp 58 ∧ jMC h ∧ jFq hp h [58, 59, 60, 61, 62, 63, 64, 65, 66, 67, 68, 69, 70, 71, 72] [10, 11, 26, 29]
theorem c_m_weight_L (hp : jm_H) (hM : jMG hp) (hcn : 1 < (jcnt (hp 58) (hp 56 6 * hp 56 7).toNat)) : ∀ (m : Nat) (k l : Int) (y : jm_V) (h : jm_H), 0 ≤ k → k ≤ hp 56 6 * hp 56 7 → h 56 6 = hp 56 6 → h 56 7 = hp 56 7 → h 58 = hp 58 → h 56 29 = hp 56 29 + 1 → ((jwf (hp 56 6) (hp 56 7) (hp 58) k.toNat).2 ≠ -1 → l = (jwf (hp 56 6) (hp 56 7) (hp 58) k.toNat).1) → (0 ≤ l ∧ l ≤ 61) → jFq hp h [58, 59, 60, 61, 62, 63, 64, 65, 66, 67, 68, 69, 70, 71, 72] [10, 11, 26, 29] → hp 56 6 * hp 56 7 - k < m → jm_Ev 198 34 [jR 56, jI ((jwf (hp 56 6) (hp 56 7) (hp 58) k.toNat).2), jI l, jI k, y] [] h (jmwt hp (jwgt (hp 56 6) (hp 56 7) (hp 58))) := by
  have hwh := jm_mulb hM.1 hM.2.1 hM.2.2.1 hM.2.2.2.1
  intro fu
  induction fu with
  | zero => intro k l y h h0 h1 f6 f7 f58 f29 hl hlr hfr hm; omega
  | succ fu ih =>
    intro k l y h h0 h1 f6 f7 f58 f29 hl hlr hfr hm
    have hwr := jwf_r (w := hp 56 6) (h := hp 56 7) (d := hp 58) hM.2.1 hM.2.2.2.1 k.toNat
    have hMh : jMG h := by unfold jMG; rw [f6, f7, f58]; exact hM
    have hcr2 := jcnt_r (hp 58) (hp 56 6 * hp 56 7).toNat
    have eC : jcnt (h 58) (h 56 6 * h 56 7).toNat = (jcnt (hp 58) (hp 56 6 * hp 56 7).toNat) := by rw [f6, f7, f58]
    refine jm_Ev.bl 3 (pc' := 39) (A' := [jR 56, jI ((jwf (hp 56 6) (hp 56 7) (hp 58) k.toNat).2), jI l, jI k, y]) (st' := [jI (h 56 6), jI k]) (hp' := h) rfl ?_
    rw [f6]
    refine jm_Ev.bl 2 (pc' := 43) (A' := [jR 56, jI ((jwf (hp 56 6) (hp 56 7) (hp 58) k.toNat).2), jI l, jI k, y]) (st' := [jI (h 56 7), jI (hp 56 6), jI k]) (hp' := h) rfl ?_
    rw [f7]
    refine jm_Ev.bl 1 (pc' := 44) (A' := [jR 56, jI ((jwf (hp 56 6) (hp 56 7) (hp 58) k.toNat).2), jI l, jI k, y]) (st' := [jI ((hp 56 6) * (hp 56 7)), jI k]) (hp' := h) rfl ?_
    refine jE_icmp_ge rfl (by omega) (by omega) (fun c44 => ?_) (fun c44 => ?_)
    · refine jm_Ev.bl 4 (pc' := 137) (A' := [jR 56, jI ((jwf (hp 56 6) (hp 56 7) (hp 58) k.toNat).2), jI l, jI k, y]) (st' := [jI ((jwf (hp 56 6) (hp 56 7) (hp 58) k.toNat).2)]) (hp' := (jm_hs h 56 10 1)) rfl ?_
      exact jE_ret rfl ⟨jrI (by unfold jwgt; rw [if_pos hcn, show k = hp 56 6 * hp 56 7 by omega]), f29, f58, ⟨hMh, Or.inr rfl, fun z => absurd (show (1 : Int) = 0 from z) (by decide)⟩, hfr.sf (by simp)⟩
    · refine jm_Ev.bl 1 (pc' := 48) (A' := [jR 56, jI ((jwf (hp 56 6) (hp 56 7) (hp 58) k.toNat).2), jI l, jI k, y]) (st' := [jR 56]) (hp' := h) rfl ?_
      refine jE_callI (vs := [jR 56]) (r := []) (nx := 51) (v := jI (jcnt (hp 58) (hp 56 6 * hp 56 7).toNat)) (hp1 := h) rfl (eC ▸ c_m_dotMany h hMh) ?_
      refine jm_Ev.bl 1 (pc' := 52) (A' := [jR 56, jI ((jwf (hp 56 6) (hp 56 7) (hp 58) k.toNat).2), jI l, jI k, y]) (st' := [jI 1, jI (jcnt (hp 58) (hp 56 6 * hp 56 7).toNat)]) (hp' := h) rfl ?_
      refine jE_icmp_le rfl (by omega) (by omega) (fun c52 => ?_) (fun c52 => ?_)
      · refine jm_Ev.bl 4 (pc' := 137) (A' := [jR 56, jI ((jwf (hp 56 6) (hp 56 7) (hp 58) k.toNat).2), jI l, jI k, y]) (st' := [jI ((jwf (hp 56 6) (hp 56 7) (hp 58) k.toNat).2)]) (hp' := (jm_hs h 56 10 1)) rfl ?_
        exact jE_ret rfl ⟨jrI (absurd hcn (by omega)), f29, f58, ⟨hMh, Or.inr rfl, fun z => absurd (show (1 : Int) = 0 from z) (by decide)⟩, hfr.sf (by simp)⟩
      · have hkr := hM.2.2.2.2 k (by omega) (by omega)
        have hws := jwf_s (w := hp 56 6) (h := hp 56 7) (d := hp 58) (p := k) (by omega)
        have hcr := jcor_r (w := hp 56 6) (h := hp 56 7) (d := jwd (hp 58) k) hM.2.1 hM.2.2.2.1
        have hM2 : jMG (jm_hs h 58 k (-1)) := ⟨hMh.1, hMh.2.1, hMh.2.2.1, hMh.2.2.2.1, jhs_in hMh.2.2.2.2 ⟨by omega, by omega⟩⟩
        refine jm_Ev.bl 3 (pc' := 60) (A' := [jR 56, jI ((jwf (hp 56 6) (hp 56 7) (hp 58) k.toNat).2), jI l, jI k, y]) (st' := [jI k, jR 58]) (hp' := h) rfl ?_
        refine jE_iald (n := 25) (f := h 58) rfl rfl (by omega) ?_
        rw [f58]
        refine jm_Ev.bl 1 (pc' := 62) (A' := [jR 56, jI ((jwf (hp 56 6) (hp 56 7) (hp 58) k.toNat).2), jI l, jI k, y]) (st' := [jI (-1), jI (hp 58 k)]) (hp' := h) rfl ?_
        refine jE_icmp_eq rfl (by omega) (by omega) (fun c62 => ?_) (fun c62 => ?_)
        · refine jm_Ev.bl 2 (pc' := 34) (A' := [jR 56, jI ((jwf (hp 56 6) (hp 56 7) (hp 58) k.toNat).2), jI l, jI (k + 1), y]) (st' := []) (hp' := h) rfl ?_
          have e : (jwf (hp 56 6) (hp 56 7) (hp 58) (k + 1).toNat) = (jwf (hp 56 6) (hp 56 7) (hp 58) k.toNat) := by rw [hws, if_neg (fun z => z.1 c62)]
          have z := ih (k + 1) l (y) h (by omega) (by omega) f6 f7 f58 f29 (by rw [e]; exact hl) hlr hfr (by omega)
          rw [e] at z
          exact z
        · refine jm_Ev.bl 3 (pc' := 70) (A' := [jR 56, jI ((jwf (hp 56 6) (hp 56 7) (hp 58) k.toNat).2), jI l, jI k, y]) (st' := [jI k, jR 58]) (hp' := h) rfl ?_
          refine jE_iald (n := 25) (f := h 58) rfl rfl (by omega) ?_
          rw [f58]
          refine jm_Ev.bl 5 (pc' := 79) (A' := [jR 56, jI ((jwf (hp 56 6) (hp 56 7) (hp 58) k.toNat).2), jI l, jI k, jI (hp 58 k)]) (st' := [jI (-1), jI k, jR 58]) (hp' := h) rfl ?_
          refine jE_iast (n := 25) rfl rfl (by omega) ?_
          refine jm_Ev.bl 1 (pc' := 81) (A' := [jR 56, jI ((jwf (hp 56 6) (hp 56 7) (hp 58) k.toNat).2), jI l, jI k, jI (hp 58 k)]) (st' := [jR 56]) (hp' := (jm_hs h 58 k (-1))) rfl ?_
          refine jE_call (vs := [jR 56]) (r := []) (nx := 84) rfl (c_m_layAll (jm_hs h 58 k (-1)) hM2) (fun rv81 h2 hh => ?_)
          obtain ⟨rfl, hL, hf2⟩ := hh
          have eK : jmK (jm_hs h 58 k (-1)) = jgk (hp 56 6) (hp 56 7) (jwd (hp 58) k) := by
            unfold jmK
            rw [show jm_hs h 58 k (-1) 56 6 = hp 56 6 from f6, show jm_hs h 58 k (-1) 56 7 = hp 56 7 from f7]
            refine jgk_cg (fun j j0 j1 => ?_)
            rw [js_hs_eq]; unfold jwd
            split
            · rfl
            · rw [f58]
          have eO : jmO (jm_hs h 58 k (-1)) = jSc (jgk (hp 56 6) (hp 56 7) (jwd (hp 58) k)) 144 := by unfold jmO; rw [eK]
          rw [eK, eO] at hL
          have hl15 := jInv_15 (jK5_of (w := hp 56 6) (h := hp 56 7) (d := jwd (hp 58) k) hM.2.1 hM.2.2.2.1) (jSc_inv (jK5_of hM.2.1 hM.2.2.2.1) 144)
          have hL3 : jML (jm_hs h2 58 k (hp 58 k)) (jgk (hp 56 6) (hp 56 7) (jwd (hp 58) k)) (jSc (jgk (hp 56 6) (hp 56 7) (jwd (hp 58) k)) 144) := jML_fr hL rfl (fun q a b => js_hs_ne (by omega))
          have g58 : jm_hs h2 58 k (hp 58 k) 58 = hp 58 := by
            funext j
            rw [js_hs_eq]
            split
            · rename_i z; rw [z]
            · rename_i z
              rw [show h2 58 = jm_hs h 58 k (-1) 58 from hf2.pl 58 (by simp) (by simp), js_hs_eq, if_neg z, f58]
          have g3 : jFq hp (jm_hs h2 58 k (hp 58 k)) [58, 59, 60, 61, 62, 63, 64, 65, 66, 67, 68, 69, 70, 71, 72] [10, 11, 26, 29] := ((hfr.set (j := k) (v := -1) (by simp)).tr hf2 (V := [58, 59, 60, 61, 62, 63, 64, 65, 66, 67, 68, 69, 70, 71, 72]) (E := [10, 11, 26, 29]) (by simp) (by simp) (by simp) (by simp)).set (by simp)
          have g6 : jm_hs h2 58 k (hp 58 k) 56 6 = hp 56 6 := (hf2.fd 6 (by simp) (by simp)).trans f6
          have g7 : jm_hs h2 58 k (hp 58 k) 56 7 = hp 56 7 := (hf2.fd 7 (by simp) (by simp)).trans f7
          have g29 : jm_hs h2 58 k (hp 58 k) 56 29 = hp 56 29 + 1 := (hf2.fd 29 (by simp) (by simp)).trans f29
          refine jm_Ev.bl 4 (pc' := 91) (A' := [jR 56, jI ((jwf (hp 56 6) (hp 56 7) (hp 58) k.toNat).2), jI l, jI k, jI (hp 58 k)]) (st' := [jI (hp 58 k), jI k, jR 58]) (hp' := h2) rfl ?_
          refine jE_iast (n := 25) rfl rfl (by omega) ?_
          refine jm_Ev.bl 2 (pc' := 94) (A' := [jR 56, jI ((jwf (hp 56 6) (hp 56 7) (hp 58) k.toNat).2), jI l, jI k, jI (hp 58 k)]) (st' := [jI (-1), jI ((jwf (hp 56 6) (hp 56 7) (hp 58) k.toNat).2)]) (hp' := (jm_hs h2 58 k (hp 58 k))) rfl ?_
          refine jE_icmp_eq rfl (by omega) (by omega) (fun c94 => ?_) (fun c94 => ?_)
          · refine jm_Ev.bl 5 (pc' := 113) (A' := [jR 56, jI k, jI l, jI k, jI (hp 58 k)]) (st' := [jI k, jI k]) (hp' := (jm_hs h2 58 k (hp 58 k))) rfl ?_
            refine jE_icmp_ne rfl (by omega) (by omega) (fun c113 => ?_) (fun c113 => ?_)
            · refine jm_Ev.bl 4 (pc' := 34) (A' := [jR 56, jI k, jI l, jI (k + 1), jI (hp 58 k)]) (st' := []) (hp' := (jm_hs h2 58 k (hp 58 k))) rfl ?_
              omega
            · refine jm_Ev.bl 1 (pc' := 117) (A' := [jR 56, jI k, jI l, jI k, jI (hp 58 k)]) (st' := [jR 56]) (hp' := (jm_hs h2 58 k (hp 58 k))) rfl ?_
              refine jE_callI (vs := [jR 56]) (r := []) (nx := 120) (v := jI (jcor (hp 56 6) (hp 56 7) (jwd (hp 58) k))) (hp1 := (jm_hs h2 58 k (hp 58 k))) rfl (c_m_cornersAll (jm_hs h2 58 k (hp 58 k)) _ _ hL3 hl15) ?_
              refine jm_Ev.bl 4 (pc' := 34) (A' := [jR 56, jI k, jI (jcor (hp 56 6) (hp 56 7) (jwd (hp 58) k)), jI (k + 1), jI (hp 58 k)]) (st' := []) (hp' := (jm_hs h2 58 k (hp 58 k))) rfl ?_
              have e : (jwf (hp 56 6) (hp 56 7) (hp 58) (k + 1).toNat) = ((jcor (hp 56 6) (hp 56 7) (jwd (hp 58) k)), k) := by rw [hws, if_pos ⟨c62, by have := hwr.2.2.2.2.mp c94; omega⟩]
              have z := ih (k + 1) (jcor (hp 56 6) (hp 56 7) (jwd (hp 58) k)) (jI (hp 58 k)) (jm_hs h2 58 k (hp 58 k)) (by omega) (by omega) g6 g7 g58 g29 (by rw [e]; exact fun _ => rfl) (by omega) g3 (by omega)
              rw [e] at z
              exact z
          · refine jm_Ev.bl 1 (pc' := 98) (A' := [jR 56, jI ((jwf (hp 56 6) (hp 56 7) (hp 58) k.toNat).2), jI l, jI k, jI (hp 58 k)]) (st' := [jR 56]) (hp' := (jm_hs h2 58 k (hp 58 k))) rfl ?_
            refine jE_callI (vs := [jR 56]) (r := []) (nx := 101) (v := jI (jcor (hp 56 6) (hp 56 7) (jwd (hp 58) k))) (hp1 := (jm_hs h2 58 k (hp 58 k))) rfl (c_m_cornersAll (jm_hs h2 58 k (hp 58 k)) _ _ hL3 hl15) ?_
            refine jm_Ev.bl 1 (pc' := 102) (A' := [jR 56, jI ((jwf (hp 56 6) (hp 56 7) (hp 58) k.toNat).2), jI l, jI k, jI (hp 58 k)]) (st' := [jI l, jI (jcor (hp 56 6) (hp 56 7) (jwd (hp 58) k))]) (hp' := (jm_hs h2 58 k (hp 58 k))) rfl ?_
            refine jE_icmp_ge rfl (by omega) (by omega) (fun c102 => ?_) (fun c102 => ?_)
            · refine jm_Ev.bl 4 (pc' := 113) (A' := [jR 56, jI ((jwf (hp 56 6) (hp 56 7) (hp 58) k.toNat).2), jI l, jI k, jI (hp 58 k)]) (st' := [jI k, jI ((jwf (hp 56 6) (hp 56 7) (hp 58) k.toNat).2)]) (hp' := (jm_hs h2 58 k (hp 58 k))) rfl ?_
              refine jE_icmp_ne rfl (by omega) (by omega) (fun c113 => ?_) (fun c113 => ?_)
              · refine jm_Ev.bl 4 (pc' := 34) (A' := [jR 56, jI ((jwf (hp 56 6) (hp 56 7) (hp 58) k.toNat).2), jI l, jI (k + 1), jI (hp 58 k)]) (st' := []) (hp' := (jm_hs h2 58 k (hp 58 k))) rfl ?_
                have e : (jwf (hp 56 6) (hp 56 7) (hp 58) (k + 1).toNat) = (jwf (hp 56 6) (hp 56 7) (hp 58) k.toNat) := by rw [hws, if_neg (fun z => by have := z.2; have := hl c94; omega)]
                have z := ih (k + 1) l (jI (hp 58 k)) (jm_hs h2 58 k (hp 58 k)) (by omega) (by omega) g6 g7 g58 g29 (by rw [e]; exact hl) hlr g3 (by omega)
                rw [e] at z
                exact z
              · refine jm_Ev.bl 1 (pc' := 117) (A' := [jR 56, jI ((jwf (hp 56 6) (hp 56 7) (hp 58) k.toNat).2), jI l, jI k, jI (hp 58 k)]) (st' := [jR 56]) (hp' := (jm_hs h2 58 k (hp 58 k))) rfl ?_
                refine jE_callI (vs := [jR 56]) (r := []) (nx := 120) (v := jI (jcor (hp 56 6) (hp 56 7) (jwd (hp 58) k))) (hp1 := (jm_hs h2 58 k (hp 58 k))) rfl (c_m_cornersAll (jm_hs h2 58 k (hp 58 k)) _ _ hL3 hl15) ?_
                refine jm_Ev.bl 4 (pc' := 34) (A' := [jR 56, jI ((jwf (hp 56 6) (hp 56 7) (hp 58) k.toNat).2), jI (jcor (hp 56 6) (hp 56 7) (jwd (hp 58) k)), jI (k + 1), jI (hp 58 k)]) (st' := []) (hp' := (jm_hs h2 58 k (hp 58 k))) rfl ?_
                omega
            · refine jm_Ev.bl 5 (pc' := 113) (A' := [jR 56, jI k, jI l, jI k, jI (hp 58 k)]) (st' := [jI k, jI k]) (hp' := (jm_hs h2 58 k (hp 58 k))) rfl ?_
              refine jE_icmp_ne rfl (by omega) (by omega) (fun c113 => ?_) (fun c113 => ?_)
              · refine jm_Ev.bl 4 (pc' := 34) (A' := [jR 56, jI k, jI l, jI (k + 1), jI (hp 58 k)]) (st' := []) (hp' := (jm_hs h2 58 k (hp 58 k))) rfl ?_
                omega
              · refine jm_Ev.bl 1 (pc' := 117) (A' := [jR 56, jI k, jI l, jI k, jI (hp 58 k)]) (st' := [jR 56]) (hp' := (jm_hs h2 58 k (hp 58 k))) rfl ?_
                refine jE_callI (vs := [jR 56]) (r := []) (nx := 120) (v := jI (jcor (hp 56 6) (hp 56 7) (jwd (hp 58) k))) (hp1 := (jm_hs h2 58 k (hp 58 k))) rfl (c_m_cornersAll (jm_hs h2 58 k (hp 58 k)) _ _ hL3 hl15) ?_
                refine jm_Ev.bl 4 (pc' := 34) (A' := [jR 56, jI k, jI (jcor (hp 56 6) (hp 56 7) (jwd (hp 58) k)), jI (k + 1), jI (hp 58 k)]) (st' := []) (hp' := (jm_hs h2 58 k (hp 58 k))) rfl ?_
                have e : (jwf (hp 56 6) (hp 56 7) (hp 58) (k + 1).toNat) = ((jcor (hp 56 6) (hp 56 7) (jwd (hp 58) k)), k) := by rw [hws, if_pos ⟨c62, by have := hl c94; omega⟩]
                have z := ih (k + 1) (jcor (hp 56 6) (hp 56 7) (jwd (hp 58) k)) (jI (hp 58 k)) (jm_hs h2 58 k (hp 58 k)) (by omega) (by omega) g6 g7 g58 g29 (by rw [e]; exact fun _ => rfl) (by omega) g3 (by omega)
                rw [e] at z
                exact z
theorem c_m_weight (hp : jm_H) (hM : jMG hp) (hW0 : ¬ hp 56 6 = 0) (hA : ¬ hp 56 29 = 5) (hAr : 0 ≤ hp 56 29 ∧ hp 56 29 ≤ 5) : jm_Ev 198 0 [jR 56, jU, jU, jU, jU] [] hp (jmwt hp (jwgt (hp 56 6) (hp 56 7) (hp 58))) := by
  have hwh := jm_mulb hM.1 hM.2.1 hM.2.2.1 hM.2.2.2.1
  have hcr2 := jcnt_r (hp 58) (hp 56 6 * hp 56 7).toNat
  refine jm_Ev.bl 1 (pc' := 1) (A' := [jR 56, jU, jU, jU, jU]) (st' := [jR 56]) (hp' := hp) rfl ?_
  refine jE_callI (vs := [jR 56]) (r := []) (nx := 4) (v := jI (jb (decide (hp 56 6 = 0)))) (hp1 := hp) rfl (c_m_lacks hp hM) ?_
  refine jE_ifd_ne rfl (fun c4 => ?_) (fun c4 => ?_)
  · exact absurd c4 hW0
  · refine jm_Ev.bl 3 (pc' := 12) (A' := [jR 56, jU, jU, jU, jU]) (st' := [jI 5, jI (hp 56 29)]) (hp' := hp) rfl ?_
    refine jE_icmp_ne rfl (by omega) (by omega) (fun c12 => ?_) (fun c12 => ?_)
    · refine jm_Ev.bl 12 (pc' := 34) (A' := [jR 56, jI (-1), jI 0, jI 0, jU]) (st' := []) (hp' := (jm_hs hp 56 29 ((hp 56 29) + 1))) rfl ?_
      by_cases hcn : 1 < (jcnt (hp 58) (hp 56 6 * hp 56 7).toNat)
      · exact c_m_weight_L hp hM hcn 26 0 0 _ _ (by omega) (by omega) rfl rfl rfl rfl (fun z => absurd rfl z) (by omega) (jFq.rf.sf (by simp)) (by omega)
      · refine jm_Ev.bl 3 (pc' := 39) (A' := [jR 56, jI (-1), jI 0, jI 0, jU]) (st' := [jI ((jm_hs hp 56 29 (hp 56 29 + 1)) 56 6), jI 0]) (hp' := (jm_hs hp 56 29 (hp 56 29 + 1))) rfl ?_
        refine jE_top (w := (hp 56 6)) (rfl) ?_
        refine jm_Ev.bl 2 (pc' := 43) (A' := [jR 56, jI (-1), jI 0, jI 0, jU]) (st' := [jI ((jm_hs hp 56 29 (hp 56 29 + 1)) 56 7), jI (hp 56 6), jI 0]) (hp' := (jm_hs hp 56 29 (hp 56 29 + 1))) rfl ?_
        refine jE_top (w := (hp 56 7)) (rfl) ?_
        refine jm_Ev.bl 1 (pc' := 44) (A' := [jR 56, jI (-1), jI 0, jI 0, jU]) (st' := [jI ((hp 56 6) * (hp 56 7)), jI 0]) (hp' := (jm_hs hp 56 29 (hp 56 29 + 1))) rfl ?_
        refine jE_icmp_ge rfl (by omega) (by omega) (fun c44 => ?_) (fun c44 => ?_)
        · refine jm_Ev.bl 4 (pc' := 137) (A' := [jR 56, jI (-1), jI 0, jI 0, jU]) (st' := [jI (-1)]) (hp' := (jm_hs (jm_hs hp 56 29 (hp 56 29 + 1)) 56 10 1)) rfl ?_
          exact jE_ret rfl ⟨jrI (by unfold jwgt; rw [if_neg hcn]), rfl, rfl, ⟨hM, Or.inr rfl, fun z => absurd (show (1 : Int) = 0 from z) (by decide)⟩, (jFq.rf.sf (by simp)).sf (by simp)⟩
        · refine jm_Ev.bl 1 (pc' := 48) (A' := [jR 56, jI (-1), jI 0, jI 0, jU]) (st' := [jR 56]) (hp' := (jm_hs hp 56 29 (hp 56 29 + 1))) rfl ?_
          refine jE_callI (vs := [jR 56]) (r := []) (nx := 51) (v := jI (jcnt (hp 58) (hp 56 6 * hp 56 7).toNat)) (hp1 := (jm_hs hp 56 29 (hp 56 29 + 1))) rfl (c_m_dotMany (jm_hs hp 56 29 (hp 56 29 + 1)) hM) ?_
          refine jm_Ev.bl 1 (pc' := 52) (A' := [jR 56, jI (-1), jI 0, jI 0, jU]) (st' := [jI 1, jI (jcnt (hp 58) (hp 56 6 * hp 56 7).toNat)]) (hp' := (jm_hs hp 56 29 (hp 56 29 + 1))) rfl ?_
          refine jE_icmp_le rfl (by omega) (by omega) (fun c52 => ?_) (fun c52 => ?_)
          · refine jm_Ev.bl 4 (pc' := 137) (A' := [jR 56, jI (-1), jI 0, jI 0, jU]) (st' := [jI (-1)]) (hp' := (jm_hs (jm_hs hp 56 29 (hp 56 29 + 1)) 56 10 1)) rfl ?_
            exact jE_ret rfl ⟨jrI (by unfold jwgt; rw [if_neg hcn]), rfl, rfl, ⟨hM, Or.inr rfl, fun z => absurd (show (1 : Int) = 0 from z) (by decide)⟩, (jFq.rf.sf (by simp)).sf (by simp)⟩
          · omega
    · exact absurd c12 hA
theorem c_m_weight_0 (hp : jm_H) (hM : jMG hp) (h0 : hp 56 6 = 0 ∨ hp 56 29 = 5) (hAr : 0 ≤ hp 56 29 ∧ hp 56 29 ≤ 5) : jm_Ev 198 0 [jR 56, jU, jU, jU, jU] [] hp (jK (some (jI (-103))) hp) := by
  refine jm_Ev.bl 1 (pc' := 1) (A' := [jR 56, jU, jU, jU, jU]) (st' := [jR 56]) (hp' := hp) rfl ?_
  refine jE_callI (vs := [jR 56]) (r := []) (nx := 4) (v := jI (jb (decide (hp 56 6 = 0)))) (hp1 := hp) rfl (c_m_lacks hp hM) ?_
  refine jE_ifd_ne rfl (fun c4 => ?_) (fun c4 => ?_)
  · refine jm_Ev.bl 1 (pc' := 17) (A' := [jR 56, jU, jU, jU, jU]) (st' := [jI (-103)]) (hp' := hp) rfl ?_
    exact jE_ret rfl ⟨rfl, rfl⟩
  · refine jm_Ev.bl 3 (pc' := 12) (A' := [jR 56, jU, jU, jU, jU]) (st' := [jI 5, jI (hp 56 29)]) (hp' := hp) rfl ?_
    refine jE_icmp_ne rfl (by omega) (by omega) (fun c12 => ?_) (fun c12 => ?_)
    · exact absurd h0 (by omega)
    · refine jm_Ev.bl 1 (pc' := 17) (A' := [jR 56, jU, jU, jU, jU]) (st' := [jI (-103)]) (hp' := hp) rfl ?_
      exact jE_ret rfl ⟨rfl, rfl⟩
