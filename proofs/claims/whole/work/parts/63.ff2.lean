/-! floats of the class: their rows -/
theorem jf_u {a : Nat} (h : a < 4294967296) : (UInt32.ofNat a).toNat = a := by
  rw [UInt32.toNat_ofNat']
  exact Nat.mod_eq_of_lt h
theorem jf_ok {z : Nat} (h : z ≤ 2139095040) : decide ((UInt32.ofNat z) &&& 0x7fffffff ≤ 0x7f800000) = true := by
  refine decide_eq_true ?_
  rw [UInt32.le_iff_toNat_le, UInt32.toNat_and, jf_u (by omega)]
  have := @Nat.and_le_left z (UInt32.toNat 0x7fffffff)
  exact Nat.le_trans this h
theorem jf2_add {a b z : Nat} (ha : a < 4294967296) (hb : b < 4294967296) (hz : z ≤ 2139095040) (e : FP.Core.add FP.Core.b32 a b = z) : jm_f2 .fadd a b = some z := by
  have u : FP.fadd (UInt32.ofNat a) (UInt32.ofNat b) = UInt32.ofNat z := by
    unfold FP.fadd FP.Core.fadd; rw [jf_u ha, jf_u hb, e]
  show (bif decide (FP.fadd (UInt32.ofNat a) (UInt32.ofNat b) &&& 0x7fffffff ≤ 0x7f800000) then some (FP.fadd (UInt32.ofNat a) (UInt32.ofNat b)).toNat else none) = _
  rw [u, jf_ok hz, jf_u (by omega)]
  rfl
theorem jf2_sub {a b z : Nat} (ha : a < 4294967296) (hb : b < 4294967296) (hz : z ≤ 2139095040) (e : FP.Core.sub FP.Core.b32 a b = z) : jm_f2 .fsub a b = some z := by
  have u : FP.fsub (UInt32.ofNat a) (UInt32.ofNat b) = UInt32.ofNat z := by
    unfold FP.fsub FP.Core.fsub; rw [jf_u ha, jf_u hb, e]
  show (bif decide (FP.fsub (UInt32.ofNat a) (UInt32.ofNat b) &&& 0x7fffffff ≤ 0x7f800000) then some (FP.fsub (UInt32.ofNat a) (UInt32.ofNat b)).toNat else none) = _
  rw [u, jf_ok hz, jf_u (by omega)]
  rfl
theorem jf2_mul {a b z : Nat} (ha : a < 4294967296) (hb : b < 4294967296) (hz : z ≤ 2139095040) (e : FP.Core.mul FP.Core.b32 a b = z) : jm_f2 .fmul a b = some z := by
  have u : FP.fmul (UInt32.ofNat a) (UInt32.ofNat b) = UInt32.ofNat z := by
    unfold FP.fmul FP.Core.fmul; rw [jf_u ha, jf_u hb, e]
  show (bif decide (FP.fmul (UInt32.ofNat a) (UInt32.ofNat b) &&& 0x7fffffff ≤ 0x7f800000) then some (FP.fmul (UInt32.ofNat a) (UInt32.ofNat b)).toNat else none) = _
  rw [u, jf_ok hz, jf_u (by omega)]
  rfl
theorem jf2_div {a b z : Nat} (ha : a < 4294967296) (hb : b < 4294967296) (hz : z ≤ 2139095040) (e : FP.Core.div FP.Core.b32 a b = z) : jm_f2 .fdiv a b = some z := by
  have u : FP.fdiv (UInt32.ofNat a) (UInt32.ofNat b) = UInt32.ofNat z := by
    unfold FP.fdiv FP.Core.fdiv; rw [jf_u ha, jf_u hb, e]
  show (bif decide (FP.fdiv (UInt32.ofNat a) (UInt32.ofNat b) &&& 0x7fffffff ≤ 0x7f800000) then some (FP.fdiv (UInt32.ofNat a) (UInt32.ofNat b)).toNat else none) = _
  rw [u, jf_ok hz, jf_u (by omega)]
  rfl
theorem jf2_jfa {a b : Int} (h : jfn 249 a) (hb : jfn 249 b) : jm_f2 .fadd a.toNat b.toNat = some (jfa a b).toNat := by
  have u := jfa_n h hb (by omega) (by omega)
  unfold jfn at *
  refine jf2_add (by omega) (by omega) (by omega) ?_
  unfold jfa
  omega
/-- none, or a fraction -/
def jfe (x : Int) : Nat := if x = -1 then 3212836864 else x.toNat
theorem jfe_n : jfe (-1) = 3212836864 := rfl
theorem jfe_p {x : Int} (h : 0 ≤ x) : jfe x = x.toNat := by unfold jfe; rw [if_neg (by omega)]
theorem jf_half : FP.Core.half FP.Core.b32 = 2147483648 := by decide
theorem jkey {x : Int} (h : x = -1 ∨ jfn 250 x) : jfe x < 4294967296 ∧ FP.Core.decode FP.Core.b32 (jfe x) ≠ .nan ∧ FP.Core.key FP.Core.b32 (jfe x) = (if x = -1 then -1065353216 else x) := by
  rcases h with rfl | h
  · rw [jfe_n]
    refine ⟨by omega, by decide, by decide⟩
  · have h' := h
    unfold jfn at h
    rw [jfe_p (by omega), if_neg (by omega)]
    refine ⟨by omega, ?_, ?_⟩
    · rcases h with rfl | h
      · decide
      · rw [jfd (by omega) (by omega)]; intro z; cases z
    · unfold FP.Core.key FP.Core.mag
      rw [jf_half, decide_eq_false (by omega), Nat.mod_eq_of_lt (by omega)]
      unfold FP.Core.signed
      rw [if_neg (by decide)]
      omega
theorem jcmp {x y : Int} {op : ClassFile.CmpOp} (hx : x = -1 ∨ jfn 250 x) (hy : y = -1 ∨ jfn 250 y) : (Op.cmpValue (FP.fcmp (UInt32.ofNat (jfe x)) (UInt32.ofNat (jfe y))) op).toInt = jm_lc x y := by
  obtain ⟨x1, x2, x3⟩ := jkey hx
  obtain ⟨y1, y2, y3⟩ := jkey hy
  unfold FP.fcmp FP.Core.fcmp
  rw [jf_u x1, jf_u y1, FP.Core.cmp_key FP.Core.good_b32 (by rw [jf_half]; exact x1) (by rw [jf_half]; exact y1) x2 y2, x3, y3]
  unfold jfn at hx hy
  unfold jm_lc
  rcases (show x < y ∨ x = y ∨ y < x by omega) with c | c | c
  · rw [show compare (if x = -1 then (-1065353216 : Int) else x) (if y = -1 then -1065353216 else y) = .lt from by rw [Int.compare_eq_lt]; split <;> split <;> omega, if_pos c]
    rfl
  · subst c
    rw [show compare (if x = -1 then (-1065353216 : Int) else x) (if x = -1 then -1065353216 else x) = .eq from by rw [Int.compare_eq_eq], if_neg (by omega), if_pos rfl]
    rfl
  · rw [show compare (if x = -1 then (-1065353216 : Int) else x) (if y = -1 then -1065353216 else y) = .gt from by rw [Int.compare_eq_gt]; split <;> split <;> omega, if_neg (by omega), if_neg (by omega)]
    rfl
theorem jcmp_nn {x y : Int} {op : ClassFile.CmpOp} (hx : jfn 250 x) (hy : jfn 250 y) : (Op.cmpValue (FP.fcmp (UInt32.ofNat x.toNat) (UInt32.ofNat y.toNat)) op).toInt = jm_lc x y := by
  have u := jcmp (op := op) (Or.inr hx) (Or.inr hy)
  unfold jfn at hx hy
  rw [jfe_p (by omega), jfe_p (by omega)] at u
  exact u
/-- whole numbers scaled up -/
theorem jscale {b : Nat} (c : Nat) : ∀ (n a : Nat), 0 < a → a < b * 2 ^ (c + 1) → b * 2 ^ (c + 1) - a < n → ∃ j, b * 2 ^ c ≤ a * 2 ^ j ∧ a * 2 ^ j < b * 2 ^ (c + 1) := by
  intro n
  induction n with
  | zero => intro a _ _ h; omega
  | succ n ih =>
    intro a h0 h1 h2
    by_cases q : b * 2 ^ c ≤ a
    · exact ⟨0, by rw [Nat.pow_zero, Nat.mul_one]; exact q, by rw [Nat.pow_zero, Nat.mul_one]; exact h1⟩
    · have e : b * 2 ^ (c + 1) = 2 * (b * 2 ^ c) := by rw [Nat.pow_succ, ← Nat.mul_assoc, Nat.mul_comm]
      obtain ⟨j, u, v⟩ := ih (a * 2) (by omega) (by omega) (by omega)
      refine ⟨j + 1, ?_, ?_⟩
      · rw [Nat.pow_succ, Nat.mul_comm (2 ^ j) 2, ← Nat.mul_assoc]; exact u
      · rw [Nat.pow_succ, Nat.mul_comm (2 ^ j) 2, ← Nat.mul_assoc]; exact v
theorem jfrac_n {a b : Int} (ha : 0 ≤ a) (ha2 : a ≤ 100000) (hb : 0 < b) (hb2 : b ≤ 100) : jfn 145 (jfrac a b) ∧ (a ≠ 0 → jfrac a b ≠ 0) := by
  by_cases h : a = 0
  · unfold jfrac; rw [if_pos h]; exact ⟨Or.inl rfl, fun z => absurd h z⟩
  · obtain ⟨a, rfl⟩ := Int.eq_ofNat_of_zero_le ha
    obtain ⟨b, rfl⟩ := Int.eq_ofNat_of_zero_le (show 0 ≤ b by omega)
    have p29 : (2 : Nat) ^ (28 + 1) = 536870912 := by decide
    have p28 : (2 : Nat) ^ 28 = 268435456 := by decide
    obtain ⟨j, u, v⟩ := jscale (b := b) 28 (b * 2 ^ (28 + 1) - a + 1) a (by omega) (by rw [p29]; omega) (by omega)
    have hj : j ≤ 36 := by
      by_cases q : j ≤ 36
      · exact q
      · have h1 : 1 * 2 ^ 37 ≤ a * 2 ^ j := Nat.mul_le_mul (by omega) (Nat.pow_le_pow_right (by decide) (by omega))
        have h2 : (1 : Nat) * 2 ^ 37 = 137438953472 := by decide
        rw [p29] at v
        omega
    have hj2 : 12 ≤ j := by
      by_cases q : 12 ≤ j
      · exact q
      · have h1 : a * 2 ^ j ≤ 100000 * 2 ^ 11 := Nat.mul_le_mul (by omega) (Nat.pow_le_pow_right (by decide) (by omega))
        have h2 : (100000 : Nat) * 2 ^ 11 = 204800000 := by decide
        rw [p28] at u
        omega
    have r := jf_rr (A := a * 2 ^ j) (B := b) (k := 5) (e := -(j : Int)) (by omega) u v (by omega) (by omega)
    have n := jf_near (A := a * 2 ^ j) (B := b) (k := 5) (by omega) u v
    rw [jfrac_eq (by omega)] at r
    unfold jfrac jfn
    rw [if_neg h, Int.toNat_natCast, Int.toNat_natCast]
    generalize FP.Core.nearest _ _ = w at *
    generalize FP.Core.encode _ _ = z at *
    omega
/-- a whole number as a float -/
theorem ji2f {s : Nat} (h0 : 0 < s) (h1 : s < 8388608) : ∃ t : Nat, t ≤ 23 ∧ 8388608 ≤ s * 2 ^ t ∧ s * 2 ^ t < 16777216 ∧ FP.Core.decode FP.Core.b32 (FP.i2f (Int32.ofInt (s : Int))).toNat = .fin false (s * 2 ^ t) (-(t : Int)) := by
  have p24 : (1 : Nat) * 2 ^ (23 + 1) = 16777216 := by decide
  have p23 : (1 : Nat) * 2 ^ 23 = 8388608 := by decide
  obtain ⟨t, u, v⟩ := jscale (b := 1) 23 (1 * 2 ^ (23 + 1) - s + 1) s h0 (by rw [p24]; omega) (by omega)
  rw [p23] at u
  rw [p24] at v
  have ht : t ≤ 23 := by
    by_cases q : t ≤ 23
    · exact q
    · have h1 : 1 * 2 ^ 24 ≤ s * 2 ^ t := Nat.mul_le_mul (by omega) (Nat.pow_le_pow_right (by decide) (by omega))
      have h2 : (1 : Nat) * 2 ^ 24 = 16777216 := by decide
      omega
  refine ⟨t, ht, u, v, ?_⟩
  have w := FP.Core.val32_i2f (Int32.ofInt (s : Int))
  unfold FP.Core.val32 at w
  rw [w, Int32.toInt_ofInt_of_le (show (-2 ^ 31 : Int) ≤ (s : Int) by omega) (show (s : Int) < 2 ^ 31 by omega)]
  unfold FP.Core.ofInt
  rw [decide_eq_false (by omega), Int.natAbs_natCast]
  show FP.Core.roundRatio FP.Core.b32 false s 1 0 = _
  refine FP.Core.roundRatio_exact FP.Core.good_b32 (by decide) ?_ ?_
  · refine ⟨?_, ?_, ?_, ?_⟩
    · rw [show (2 : Nat) ^ FP.Core.b32.p = 16777216 by decide]; exact v
    · rw [jf_qmin]; omega
    · rw [jf_qmax]; omega
    · right; rw [jf_tails]; exact u
  · rw [show (0 - -(t : Int)).toNat = t by omega, show (-(t : Int) - 0).toNat = 0 by omega, Nat.pow_zero, Nat.mul_one, Nat.mul_one]
theorem ji2f_0 : FP.i2f (Int32.ofInt 0) = 0 := by decide
theorem jdiv_frac {a b : Int} (ha : 0 ≤ a) (ha2 : a ≤ 100000) (hb : 0 < b) (hb2 : b ≤ 100) : jm_f2 .fdiv (FP.i2f (Int32.ofInt a)).toNat (FP.i2f (Int32.ofInt b)).toNat = some (jfrac a b).toNat := by
  have n := jfrac_n ha ha2 hb hb2
  unfold jfn at n
  refine jf2_div (UInt32.toNat_lt _) (UInt32.toNat_lt _) (by omega) ?_
  obtain ⟨b, rfl⟩ := Int.eq_ofNat_of_zero_le (show 0 ≤ b by omega)
  obtain ⟨t2, _, c2, d2, e2⟩ := ji2f (s := b) (by omega) (by omega)
  unfold FP.Core.div
  rw [e2]
  by_cases h : a = 0
  · subst h
    rw [ji2f_0, show UInt32.toNat 0 = 0 from rfl, jfd0]
    show FP.Core.encode FP.Core.b32 (if b * 2 ^ t2 = 0 then _ else FP.Core.roundRatio FP.Core.b32 (false != false) 0 (b * 2 ^ t2) _) = _
    rw [if_neg (by omega)]
    unfold FP.Core.roundRatio jfrac
    rw [if_pos rfl, if_pos rfl]
    decide
  · obtain ⟨a, rfl⟩ := Int.eq_ofNat_of_zero_le ha
    obtain ⟨t1, _, c1, d1, e1⟩ := ji2f (s := a) (by omega) (by omega)
    rw [e1]
    show FP.Core.encode FP.Core.b32 (if b * 2 ^ t2 = 0 then _ else FP.Core.roundRatio FP.Core.b32 false (a * 2 ^ t1) (b * 2 ^ t2) (-(t1 : Int) - -(t2 : Int))) = _
    rw [if_neg (by omega)]
    have e : FP.Core.roundRatio FP.Core.b32 false (a * 2 ^ t1) (b * 2 ^ t2) (-(t1 : Int) - -(t2 : Int)) = FP.Core.roundRatio FP.Core.b32 false a b 0 := by
      refine FP.Core.roundRatio_congr (by omega) (by omega) ?_
      rw [show (-(t1 : Int) - -(t2 : Int) - 0).toNat = t2 - t1 by omega, show (0 - (-(t1 : Int) - -(t2 : Int))).toNat = t1 - t2 by omega]
      have e3 : 2 ^ t1 * 2 ^ (t2 - t1) = 2 ^ t2 * 2 ^ (t1 - t2) := by
        rw [← Nat.pow_add, ← Nat.pow_add, show t1 + (t2 - t1) = t2 + (t1 - t2) by omega]
      calc a * 2 ^ t1 * b * 2 ^ (t2 - t1) = a * b * (2 ^ t1 * 2 ^ (t2 - t1)) := by ac_rfl
        _ = a * b * (2 ^ t2 * 2 ^ (t1 - t2)) := by rw [e3]
        _ = a * (b * 2 ^ t2) * 2 ^ (t1 - t2) := by ac_rfl
    rw [e]
    unfold jfrac
    rw [if_neg h, Int.toNat_natCast, Int.toNat_natCast, Int.toNat_natCast]
