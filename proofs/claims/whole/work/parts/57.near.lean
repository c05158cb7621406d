/-! near, as rounding -/
theorem jnr {B v r h W R : Nat} (hB : 0 < B) (hr : r < B) (hv : v = h * W + R) (hR : R < h) : (B * v + r) / (B * h) = W ∧ (B * v + r) % (B * h) = B * R + r := by
  have hlt : B * R + r < B * h := by
    have : B * (R + 1) ≤ B * h := Nat.mul_le_mul_left _ hR
    rw [Nat.mul_add, Nat.mul_one] at this
    omega
  have e : B * v + r = B * h * W + (B * R + r) := by rw [hv, Nat.mul_add, Nat.mul_assoc]; omega
  rw [e]
  exact ⟨by rw [Nat.mul_add_div (by omega), Nat.div_eq_of_lt hlt]; omega, by rw [Nat.mul_add_mod, Nat.mod_eq_of_lt hlt]⟩
theorem jnr_even {B v r g W R : Nat} (hB : 0 < B) (hr : r < B) (hv : v = 2 * g * W + R) (hR : R < 2 * g) : FP.Core.nearest (B * v + r) (B * (2 * g)) = W + (if 2 * R > 2 * g ∨ (2 * R = 2 * g ∧ (r ≠ 0 ∨ W % 2 = 1)) then 1 else 0) := by
  obtain ⟨e1, e2⟩ := jnr hB hr hv hR
  unfold FP.Core.nearest
  rw [e1, e2]
  have m0 : B * (2 * g) = 2 * (B * g) := by rw [Nat.mul_left_comm]
  rw [m0]
  rcases Nat.lt_trichotomy R g with h | h | h
  · have : B * (R + 1) ≤ B * g := Nat.mul_le_mul_left _ h
    rw [Nat.mul_add, Nat.mul_one] at this
    rw [if_pos (by omega), if_neg (by omega)]; rfl
  · subst h
    by_cases hr0 : r = 0
    · subst hr0
      rw [if_neg (by omega), if_neg (by omega)]
      split <;> omega
    · rw [if_neg (by omega), if_pos (by omega), if_pos (by omega)]
  · have : B * (g + 1) ≤ B * R := Nat.mul_le_mul_left _ h
    rw [Nat.mul_add, Nat.mul_one] at this
    rw [if_neg (by omega), if_pos (by omega), if_pos (by omega)]
