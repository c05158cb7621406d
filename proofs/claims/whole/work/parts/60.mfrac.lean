/-! the model's fraction -/
theorem jfrac_eq {a b j : Nat} (hb : 0 < b) : FP.Core.roundRatio FP.Core.b32 false (a * 2 ^ j) b (-(j : Int)) = FP.Core.roundRatio FP.Core.b32 false a b 0 := by
  refine FP.Core.roundRatio_congr hb hb ?_
  rw [show (-(j : Int) - 0).toNat = 0 by omega, show (0 - -(j : Int)).toNat = j by omega, Nat.pow_zero, Nat.mul_one]
  rw [Nat.mul_assoc, Nat.mul_comm (2 ^ j) b, ← Nat.mul_assoc]
