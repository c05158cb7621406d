/-! sets of points, as bits of a long -/
def jlb (v : Int) (j : Nat) : Bool := (Int64.ofInt v).toBitVec.getLsbD j
theorem jI64_r (z : Int64) : jR64 z.toInt := ⟨Int64.le_toInt _, by have := Int64.toInt_lt z; omega⟩
theorem jlb_or (a b : Int) (j : Nat) : jlb (Int64.ofInt a ||| Int64.ofInt b).toInt j = (jlb a j || jlb b j) := by
  unfold jlb
  rw [Int64.ofInt_toInt, Int64.toBitVec_or, BitVec.getLsbD_or]
theorem jlb_and (a b : Int) (j : Nat) : jlb (Int64.ofInt a &&& Int64.ofInt b).toInt j = (jlb a j && jlb b j) := by
  unfold jlb
  rw [Int64.ofInt_toInt, Int64.toBitVec_and, BitVec.getLsbD_and]
theorem jlb_z (j : Nat) : jlb 0 j = false := by
  unfold jlb
  rw [show (Int64.ofInt 0).toBitVec = 0#64 by decide, BitVec.getLsbD_zero]
theorem jsh_am : ∀ u : Fin 60, ((Int32.ofInt (u.val : Int)).toInt64 &&& 63) = Int64.ofNat u.val := by decide +kernel
theorem jsh_nm : ∀ u : Fin 60, ((Int64.ofNat u.val).toBitVec.smod 64).toNat = u.val := by decide +kernel
theorem jlb_shl (a : Int) (u : Fin 60) (j : Nat) : jlb (Int64.ofInt a <<< ((Int32.ofInt (u.val : Int)).toInt64 &&& 63)).toInt j = (decide (j < 64) && !decide (j < u.val) && jlb a (j - u.val)) := by
  unfold jlb
  rw [Int64.ofInt_toInt, jsh_am, Int64.toBitVec_shiftLeft, BitVec.shiftLeft_eq', jsh_nm, BitVec.getLsbD_shiftLeft]
theorem jlb_1 (j : Nat) : jlb 1 j = decide (j = 0) := by
  unfold jlb
  rw [show (Int64.ofInt 1).toBitVec = 1#64 by decide]
  by_cases h : j < 64
  · have : ∀ f : Fin 64, (1#64).getLsbD f.val = decide (f.val = 0) := by decide +kernel
    exact this ⟨j, h⟩
  · rw [BitVec.getLsbD_of_ge _ _ (by omega), decide_eq_false (by omega)]
theorem jlb_m2 (j : Nat) (h : j < 64) : jlb (-2) j = decide (0 < j) := by
  unfold jlb
  have : ∀ f : Fin 64, (Int64.ofInt (-2)).toBitVec.getLsbD f.val = decide (0 < f.val) := by decide +kernel
  exact this ⟨j, h⟩
/-- a set of one -/
theorem jlb_one {u : Int} (h0 : 0 ≤ u) (h1 : u < 60) (j : Nat) (hj : j < 64) : jlb (Int64.ofInt 1 <<< ((Int32.ofInt u).toInt64 &&& 63)).toInt j = decide ((j : Int) = u) := by
  obtain ⟨f, rfl⟩ := jfin (n := 60) h0 (by omega)
  have hf := f.isLt
  rw [jlb_shl, jlb_1, decide_eq_true hj, Bool.true_and]
  by_cases q : j < f.val
  · rw [decide_eq_true q, decide_eq_false (show ¬((j : Int) = (f.val : Int)) by omega)]; rfl
  · rw [decide_eq_false q]
    by_cases e : j = f.val
    · rw [decide_eq_true (show j - f.val = 0 by omega), decide_eq_true (show ((j : Int) = (f.val : Int)) by omega)]; rfl
    · rw [decide_eq_false (show ¬(j - f.val = 0) by omega), decide_eq_false (show ¬((j : Int) = (f.val : Int)) by omega)]; rfl
/-- all greater ones -/
theorem jlb_gt {u : Int} (h0 : 0 ≤ u) (h1 : u < 60) (j : Nat) (hj : j < 64) : jlb (Int64.ofInt (-2) <<< ((Int32.ofInt u).toInt64 &&& 63)).toInt j = decide (u < (j : Int)) := by
  obtain ⟨f, rfl⟩ := jfin (n := 60) h0 (by omega)
  have hf := f.isLt
  rw [jlb_shl, jlb_m2 _ (by omega), decide_eq_true hj, Bool.true_and]
  by_cases q : j < f.val
  · rw [decide_eq_true q, decide_eq_false (show ¬((f.val : Int) < (j : Int)) by omega)]; rfl
  · rw [decide_eq_false q]
    by_cases e : j = f.val
    · rw [decide_eq_false (show ¬(0 < j - f.val) by omega), decide_eq_false (show ¬((f.val : Int) < (j : Int)) by omega)]; rfl
    · rw [decide_eq_true (show 0 < j - f.val by omega), decide_eq_true (show (f.val : Int) < (j : Int) by omega)]; rfl
theorem jsr_am : ∀ u : Fin 60, ((Int32.ofInt (u.val : Int)).toInt64.toUInt64 &&& Int64.toUInt64 63) = UInt64.ofNat u.val := by decide +kernel
theorem jsr_nm : ∀ u : Fin 60, ((UInt64.ofNat u.val).toBitVec % 64).toNat = u.val := by decide +kernel
/-- one bit looked at -/
theorem jlb_tst (v : Int) {u : Int} (h0 : 0 ≤ u) (h1 : u < 60) : (Int64.ofInt ((Int64.ofInt v).toUInt64 >>> ((Int32.ofInt u).toInt64.toUInt64 &&& Int64.toUInt64 63)).toInt64.toInt &&& Int64.ofInt 1).toInt = jb (jlb v u.toNat) := by
  obtain ⟨f, rfl⟩ := jfin (n := 60) h0 (by omega)
  rw [Int64.ofInt_toInt, jsr_am, Int.toNat_natCast]
  have k : ((Int64.ofInt v).toUInt64 >>> UInt64.ofNat f.val).toInt64 &&& Int64.ofInt 1 = bif jlb v f.val then 1 else 0 := by
    apply Int64.toBitVec.inj
    rw [Int64.toBitVec_and]
    show ((Int64.ofInt v).toBitVec >>> ((UInt64.ofNat f.val).toBitVec % 64)) &&& 1#64 = _
    rw [BitVec.ushiftRight_eq', jsr_nm, BitVec.and_one_eq_setWidth_ofBool_getLsbD, BitVec.getLsbD_ushiftRight, Nat.add_zero]
    show BitVec.setWidth 64 (BitVec.ofBool (jlb v f.val)) = _
    cases jlb v f.val <;> decide
  rw [k]
  cases jlb v f.val <;> decide
theorem jlb_0 {v : Int} (hr : jR64 v) : v = 0 ↔ ∀ j, j < 64 → jlb v j = false := by
  constructor
  · intro h j _; subst h; exact jlb_z j
  · intro h
    have e : (Int64.ofInt v).toBitVec = 0#64 := BitVec.eq_of_getLsbD_eq (fun i hi => by rw [BitVec.getLsbD_zero]; exact h i hi)
    have e2 : Int64.ofInt v = 0 := Int64.toBitVec.inj e
    have e3 := jw64 hr
    unfold jm_w64 at e3
    rw [e2] at e3
    exact e3.symm
