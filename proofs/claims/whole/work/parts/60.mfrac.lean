/-! the model's fraction -/
theorem jfrac_eq {a b j : Nat} (hb : 0 < b) : FP.Core.roundRatio FP.Core.b32 false (a * 2 ^ j) b (-(j : Int)) = FP.Core.roundRatio FP.Core.b32 false a b 0 := by
  refine FP.Core.roundRatio_congr hb hb ?_
  rw [show (-(j : Int) - 0).toNat = 0 by omega, show (0 - -(j : Int)).toNat = j by omega, Nat.pow_zero, Nat.mul_one]
  rw [Nat.mul_assoc, Nat.mul_comm (2 ^ j) b, ← Nat.mul_assoc]
theorem c_m_frac_L (hp : jm_H) (a b : Nat) (ha : 0 < a) (ha2 : a ≤ 100000) (hb : 0 < b) (hb2 : b ≤ 100) : ∀ (n : Nat) (j U : Nat), U = a * 2 ^ j → U < b * 536870912 → 40 - j < n → jm_Ev 158 14 [jL (a : Int), jU, jL (b : Int), jU, jL (U : Int), jU, jI (-(j : Int))] [] hp (jK (some (jI (jfrac (a : Int) (b : Int)))) hp) := by
  intro n
  induction n with
  | zero => intro j U hU hU2 hn; omega
  | succ n ih =>
    intro j U hU hU2 hn
    have hj : j ≤ 36 := by
      by_cases h : j ≤ 36
      · exact h
      · have h1 : 1 * 2 ^ 37 ≤ a * 2 ^ j := Nat.mul_le_mul ha (Nat.pow_le_pow_right (by decide) (by omega))
        have h2 : (1 : Nat) * 2 ^ 37 = 137438953472 := by decide
        omega
    refine jm_Ev.bl 4 (pc' := 21) (A' := [jL (a : Int), jU, jL (b : Int), jU, jL (U : Int), jU, jI (-(j : Int))]) (st' := [jL ((b : Int) * 268435456), jL (U : Int)]) (hp' := hp) rfl ?_
    refine jE_lcmp rfl (by omega) (by omega) ?_
    refine jE_lc_ge rfl (fun c22 => ?_) (fun c22 => ?_)
    · have hv1 : 2 ^ (23 + 5) ≤ U / b := by
        rw [Nat.le_div_iff_mul_le hb, show (2 : Nat) ^ (23 + 5) = 268435456 by decide, Nat.mul_comm]; omega
      have hv2 : U / b < 2 ^ (24 + 5) := by
        rw [Nat.div_lt_iff_lt_mul hb, show (2 : Nat) ^ (24 + 5) = 536870912 by decide, Nat.mul_comm]; omega
      have ef : (FP.Core.encode FP.Core.b32 (FP.Core.roundRatio FP.Core.b32 false U b (-(j : Int))) : Int) = jfrac (a : Int) (b : Int) := by
        unfold jfrac
        rw [if_neg (by omega), hU, jfrac_eq hb, Int.toNat_natCast, Int.toNat_natCast]
      have hmd : ((U % b : Nat) : Int) = (U : Int) % (b : Int) := Int.natCast_emod _ _
      have hdv : ((U / b : Nat) : Int) = (U : Int) / (b : Int) := Int.natCast_ediv _ _
      have hml := Nat.mod_lt U hb
      have hdl := Nat.div_le_self U b
      refine jm_Ev.bl 2 (pc' := 42) (A' := [jL (a : Int), jU, jL (b : Int), jU, jL (U : Int), jU, jI (-(j : Int))]) (st' := [jL (b : Int), jL (U : Int)]) (hp' := hp) rfl ?_
      refine jE_ldiv rfl (by omega) (by omega) ?_
      rw [← hdv]
      refine jm_Ev.bl 3 (pc' := 48) (A' := [jL (a : Int), jU, jL (b : Int), jU, jL (U : Int), jU, jI (-(j : Int))]) (st' := [jL (b : Int), jL (U : Int), jI (-(j : Int)), jL ((U / b : Nat) : Int)]) (hp' := hp) rfl ?_
      refine jE_lrem rfl (by omega) (by omega) ?_
      rw [← hmd]
      refine jm_Ev.bl 1 (pc' := 50) (A' := [jL (a : Int), jU, jL (b : Int), jU, jL (U : Int), jU, jI (-(j : Int))]) (st' := [jL 0, jL ((U % b : Nat) : Int), jI (-(j : Int)), jL ((U / b : Nat) : Int)]) (hp' := hp) rfl ?_
      refine jE_lcmp rfl (by omega) (by omega) ?_
      refine jE_lc_eq rfl (fun c51 => ?_) (fun c51 => ?_)
      · refine jm_Ev.bl 1 (pc' := 59) (A' := [jL (a : Int), jU, jL (b : Int), jU, jL (U : Int), jU, jI (-(j : Int))]) (st' := [jI 0, jI (-(j : Int)), jL ((U / b : Nat) : Int)]) (hp' := hp) rfl ?_
        refine jE_callI (vs := [jL ((U / b : Nat) : Int), jI (-(j : Int)), jI 0]) (r := []) (nx := 62) (v := jI (jfrac (a : Int) (b : Int))) (hp1 := hp) rfl (ef ▸ c_m_near hp U b (U / b) 5 (-(j : Int)) false hb rfl ((decide_eq_false (by omega)).symm) hv1 hv2 (by omega) (by omega) (by omega) (fun z => absurd z (by decide))) ?_
        exact jE_ret rfl ⟨rfl, rfl⟩
      · refine jm_Ev.bl 2 (pc' := 59) (A' := [jL (a : Int), jU, jL (b : Int), jU, jL (U : Int), jU, jI (-(j : Int))]) (st' := [jI 1, jI (-(j : Int)), jL ((U / b : Nat) : Int)]) (hp' := hp) rfl ?_
        refine jE_callI (vs := [jL ((U / b : Nat) : Int), jI (-(j : Int)), jI 1]) (r := []) (nx := 62) (v := jI (jfrac (a : Int) (b : Int))) (hp1 := hp) rfl (ef ▸ c_m_near hp U b (U / b) 5 (-(j : Int)) true hb rfl ((decide_eq_true (by omega)).symm) hv1 hv2 (by omega) (by omega) (by omega) (fun z => absurd z (by decide))) ?_
        exact jE_ret rfl ⟨rfl, rfl⟩
    · refine jm_Ev.bl 6 (pc' := 14) (A' := [jL (a : Int), jU, jL (b : Int), jU, jL ((U : Int) * 2), jU, jI ((-(j : Int)) + (-1))]) (st' := []) (hp' := hp) rfl ?_
      rw [show (U : Int) * 2 = ((U * 2 : Nat) : Int) by omega, show -(j : Int) + (-1) = -((j + 1 : Nat) : Int) by omega]
      exact ih (j + 1) (U * 2) (by rw [hU, Nat.pow_succ, Nat.mul_assoc]) (by omega) (by omega)
theorem c_m_fraction (hp : jm_H) (a b : Nat) (ha2 : a ≤ 100000) (hb : 0 < b) (hb2 : b ≤ 100) : jm_Ev 158 0 [jL (a : Int), jU, jL (b : Int), jU, jU, jU, jU] [] hp (jK (some (jI (jfrac (a : Int) (b : Int)))) hp) := by
  refine jm_Ev.bl 2 (pc' := 2) (A' := [jL (a : Int), jU, jL (b : Int), jU, jU, jU, jU]) (st' := [jL 0, jL (a : Int)]) (hp' := hp) rfl ?_
  refine jE_lcmp rfl (by omega) (by omega) ?_
  refine jE_lc_ne rfl (fun c3 => ?_) (fun c3 => ?_)
  · refine jm_Ev.bl 4 (pc' := 14) (A' := [jL (a : Int), jU, jL (b : Int), jU, jL (a : Int), jU, jI 0]) (st' := []) (hp' := hp) rfl ?_
    have u := c_m_frac_L hp a b (by omega) ha2 hb hb2 41 0 a (by rw [Nat.pow_zero, Nat.mul_one]) (by omega) (by omega)
    rw [show -((0 : Nat) : Int) = 0 by decide] at u
    exact u
  · refine jm_Ev.bl 1 (pc' := 7) (A' := [jL (a : Int), jU, jL (b : Int), jU, jU, jU, jU]) (st' := [jI 0]) (hp' := hp) rfl ?_
    exact jE_ret rfl ⟨jrI (by unfold jfrac; rw [if_pos c3]), rfl⟩
