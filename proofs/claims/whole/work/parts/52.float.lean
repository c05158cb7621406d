/-! floats: rounding as a formula on bits -/
theorem jf_tails : FP.Core.b32.tails = 8388608 := by decide
theorem jf_exps : FP.Core.b32.exps = 256 := by decide
theorem jf_qmin : FP.Core.b32.qmin = -149 := by decide
theorem jf_qmax : FP.Core.b32.qmax = 104 := by decide
theorem jf_dec {e t : Nat} (h0 : 0 < e) (h1 : e < 255) (ht : t < 8388608) : FP.Core.decode FP.Core.b32 (e * 8388608 + t) = .fin false (8388608 + t) ((e : Int) - 150) := by
  have e1 : FP.Core.fieldE FP.Core.b32 (e * 8388608 + t) = e := by
    unfold FP.Core.fieldE; rw [jf_tails, jf_exps]; omega
  have e2 : FP.Core.fieldT FP.Core.b32 (e * 8388608 + t) = t := by
    unfold FP.Core.fieldT; rw [jf_tails]; omega
  have e3 : FP.Core.fieldS FP.Core.b32 (e * 8388608 + t) = false := by
    unfold FP.Core.fieldS; rw [jf_tails, jf_exps, show (e * 8388608 + t) / 8388608 / 256 % 2 = 0 by omega]; rfl
  unfold FP.Core.decode
  rw [e1, e2, e3, jf_exps, jf_tails, jf_qmin, if_neg (by omega), if_neg (by omega)]
  congr 1
  omega
theorem jf_enc {c : Nat} {q : Int} (h0 : 8388608 ≤ c) : FP.Core.encode FP.Core.b32 (.fin false c q) = ((q + 149).toNat + 1) * 8388608 + (c - 8388608) := by
  unfold FP.Core.encode
  dsimp only
  rw [jf_tails, if_neg (by omega), jf_qmin]
  unfold FP.Core.assemble
  rw [jf_tails, jf_exps, show q - -149 = q + 149 by omega]
  simp
theorem jf_bel (A B x : Nat) : FP.Core.Below A B (x : Int) ↔ A < B * 2 ^ x := by
  have := FP.Core.below_iff A B x 0
  rw [show ((x : Int) - (0 : Nat)) = (x : Int) by omega, Nat.pow_zero, Nat.mul_one] at this
  exact this
theorem jf_round {A B k : Nat} {e : Int} (hB : 0 < B) (h1 : B * 2 ^ (23 + k) ≤ A) (h2 : A < B * 2 ^ (24 + k)) (hq : -149 ≤ e + k) : FP.Core.roundRatio FP.Core.b32 false A B e = FP.Core.settle FP.Core.b32 false (FP.Core.nearest A (B * 2 ^ k)) (e + k) := by
  have hA : 0 < A := Nat.lt_of_lt_of_le (Nat.mul_pos hB (Nat.two_pow_pos _)) h1
  have eq : FP.Core.quantum FP.Core.b32 A B e = e + k := by
    refine FP.Core.quantum_eq hA hB (by rw [jf_qmin]; exact hq) ?_ (Or.inr ?_)
    · rw [show e + (k : Int) - e + ((FP.Core.b32.p : Nat) : Int) = ((24 + k : Nat) : Int) by show e + (k : Int) - e + 24 = _; push_cast; omega, jf_bel]
      exact h2
    · rw [show e + (k : Int) - e + (((FP.Core.b32.p : Nat) : Int) - 1) = ((23 + k : Nat) : Int) by show e + (k : Int) - e + (24 - 1) = _; push_cast; omega, jf_bel]
      omega
  unfold FP.Core.roundRatio
  rw [if_neg (by omega), eq]
  unfold FP.Core.roundAt FP.Core.unitsNum FP.Core.unitsDen
  rw [show (e - (e + (k : Int))).toNat = 0 by omega, show (e + (k : Int) - e).toNat = k by omega, Nat.pow_zero, Nat.mul_one]
theorem jf_settle {c : Nat} {q : Int} (hc : 8388608 ≤ c) (hc2 : c ≤ 16777216) (hq : -149 ≤ q) (hq2 : q ≤ 103) : (FP.Core.encode FP.Core.b32 (FP.Core.settle FP.Core.b32 false c q) : Int) = (q + 150) * 8388608 + c - 8388608 := by
  unfold FP.Core.settle FP.Core.bound
  rw [jf_qmax, jf_tails, show (2 : Nat) ^ FP.Core.b32.p = 16777216 by decide]
  by_cases h : c < 16777216
  · rw [if_pos h, if_pos (by omega), jf_enc hc]
    have : ((q + 149).toNat : Int) = q + 149 := by omega
    omega
  · rw [if_neg h, if_pos (by omega), jf_enc (by omega)]
    have : ((q + 1 + 149).toNat : Int) = q + 150 := by omega
    omega
theorem jf_near {A B k : Nat} (hB : 0 < B) (h1 : B * 2 ^ (23 + k) ≤ A) (h2 : A < B * 2 ^ (24 + k)) : 8388608 ≤ FP.Core.nearest A (B * 2 ^ k) ∧ FP.Core.nearest A (B * 2 ^ k) ≤ 16777216 := by
  have hD : 0 < B * 2 ^ k := Nat.mul_pos hB (Nat.two_pow_pos _)
  refine ⟨FP.Core.nearest_ge hD ?_, FP.Core.nearest_le hD ?_⟩
  · rw [show 8388608 * (B * 2 ^ k) = B * 2 ^ (23 + k) by rw [Nat.pow_add, Nat.mul_left_comm]]; exact h1
  · rw [show 16777216 * (B * 2 ^ k) = B * 2 ^ (24 + k) by rw [Nat.pow_add, Nat.mul_left_comm]]; omega
/-- the bits of a rounded ratio -/
theorem jf_rr {A B k : Nat} {e : Int} (hB : 0 < B) (h1 : B * 2 ^ (23 + k) ≤ A) (h2 : A < B * 2 ^ (24 + k)) (hq : -149 ≤ e + k) (hq2 : e + k ≤ 103) : (FP.Core.encode FP.Core.b32 (FP.Core.roundRatio FP.Core.b32 false A B e) : Int) = (e + k + 150) * 8388608 + FP.Core.nearest A (B * 2 ^ k) - 8388608 := by
  have hn := jf_near hB h1 h2
  rw [jf_round hB h1 h2 hq, jf_settle hn.1 hn.2 hq hq2]
