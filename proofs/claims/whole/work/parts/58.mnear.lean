/-! the model's near -/
theorem jpow_div {V k j : Nat} (h1 : 2 ^ (23 + k) ≤ V) (h2 : V < 2 ^ (24 + k)) (hj : j ≤ k) : (j < k → 16777216 ≤ V / 2 ^ j) ∧ (j = k → 8388608 ≤ V / 2 ^ j ∧ V / 2 ^ j < 16777216) := by
  have hp : 0 < 2 ^ j := Nat.two_pow_pos j
  refine ⟨fun h => ?_, fun h => ?_⟩
  · rw [Nat.le_div_iff_mul_le hp]
    have e : (16777216 : Nat) = 2 ^ 24 := by decide
    rw [e, ← Nat.pow_add]
    exact Nat.le_trans (Nat.pow_le_pow_right (by decide) (by omega)) h1
  · subst h
    refine ⟨?_, ?_⟩
    · rw [Nat.le_div_iff_mul_le hp]
      have e : (8388608 : Nat) = 2 ^ 23 := by decide
      rw [e, ← Nat.pow_add]; exact h1
    · rw [Nat.div_lt_iff_lt_mul hp]
      have e : (16777216 : Nat) = 2 ^ 24 := by decide
      rw [e, ← Nat.pow_add]; exact h2
theorem jpow_le {j : Nat} (h : j ≤ 40) : 0 < 2 ^ j ∧ 2 ^ j ≤ 1099511627776 := ⟨Nat.two_pow_pos j, Nat.pow_le_pow_right (by decide) h⟩
/-- what near tells, by the two numbers that it reckons -/
theorem jnear_eq {A B k : Nat} {p : Int} (hB : 0 < B) (h1 : 2 ^ (23 + k) ≤ A / B) (h2 : A / B < 2 ^ (24 + k)) (hq : -149 ≤ p + k) (hq2 : p + k ≤ 103) (hk : k = 0 → A % B = 0) : (FP.Core.encode FP.Core.b32 (FP.Core.roundRatio FP.Core.b32 false A B p) : Int) = (p + k + 150) * 8388608 + ((A / B / 2 ^ k : Nat) : Int) + (if 1 < 2 ^ k ∧ (2 * (A / B % 2 ^ k) > 2 ^ k ∨ (2 * (A / B % 2 ^ k) = 2 ^ k ∧ (A % B ≠ 0 ∨ A / B / 2 ^ k % 2 = 1))) then 1 else 0) - 8388608 := by
  have eA : B * (A / B) + A % B = A := Nat.div_add_mod A B
  have hr : A % B < B := Nat.mod_lt _ hB
  have l1 : B * 2 ^ (23 + k) ≤ A := by
    have := Nat.mul_le_mul_left B h1
    omega
  have l2 : A < B * 2 ^ (24 + k) := by
    have : B * (A / B + 1) ≤ B * 2 ^ (24 + k) := Nat.mul_le_mul_left B h2
    rw [Nat.mul_add, Nat.mul_one] at this
    omega
  rw [jf_rr hB l1 l2 hq hq2]
  have hn : FP.Core.nearest A (B * 2 ^ k) = A / B / 2 ^ k + (if 1 < 2 ^ k ∧ (2 * (A / B % 2 ^ k) > 2 ^ k ∨ (2 * (A / B % 2 ^ k) = 2 ^ k ∧ (A % B ≠ 0 ∨ A / B / 2 ^ k % 2 = 1))) then 1 else 0) := by
    cases k with
    | zero =>
      have hz := hk rfl
      rw [hz] at eA
      have e1 : A = (A / B) * B := by rw [Nat.mul_comm]; omega
      rw [Nat.pow_zero, Nat.mul_one, if_neg (by omega), Nat.div_one]
      conv => lhs; rw [e1]
      rw [FP.Core.nearest_exact _ hB]
      omega
    | succ g =>
      have e2 : 2 ^ (g + 1) = 2 * 2 ^ g := by rw [Nat.pow_succ, Nat.mul_comm]
      have hg := Nat.two_pow_pos g
      have hm : A / B % 2 ^ (g + 1) < 2 ^ (g + 1) := Nat.mod_lt _ (Nat.two_pow_pos _)
      have hd := (Nat.div_add_mod (A / B) (2 ^ (g + 1))).symm
      have := jnr_even (B := B) (v := A / B) (r := A % B) (g := 2 ^ g) (W := A / B / 2 ^ (g + 1)) (R := A / B % 2 ^ (g + 1)) hB hr (by rw [← e2]; exact hd) (by rw [← e2]; exact hm)
      rw [eA, ← e2] at this
      rw [this]
      have h1 : 1 < 2 ^ (g + 1) := by omega
      simp only [h1, true_and]
  rw [hn]
  push_cast
  split <;> omega
