/-! the class's bitsOf -/
theorem jfit {c : Nat} {q : Int} (h0 : 8388608 ≤ c) (h1 : c < 16777216) (q0 : -149 ≤ q) (q1 : q ≤ 104) : FP.Core.fits FP.Core.b32 (.fin false c q) := by
  refine ⟨?_, ?_, ?_, ?_⟩
  · rw [show (2 : Nat) ^ FP.Core.b32.p = 16777216 by decide]; exact h1
  · rw [jf_qmin]; exact q0
  · rw [jf_qmax]; exact q1
  · right; rw [jf_tails]; exact h0
theorem jenc2 {c : Nat} {q : Int} (h0 : 8388608 ≤ c) (h1 : c < 16777216) (q0 : -149 ≤ q) (q1 : q ≤ 104) : FP.Core.decode FP.Core.b32 (FP.Core.encode FP.Core.b32 (.fin false c q)) = .fin false c q := FP.Core.decode_encode FP.Core.good_b32 _ (jfit h0 h1 q0 q1)
theorem jenc3 {c : Nat} {q : Int} (h0 : 8388608 ≤ c) (h1 : c < 16777216) (q0 : -149 ≤ q) (q1 : q ≤ 104) : FP.Core.encode FP.Core.b32 (.fin false c q) ≤ 2139095040 := by
  rw [jf_enc h0]; omega
theorem jquo {c d : Nat} {q r : Int} (h : d ≠ 0) : FP.Core.quotient FP.Core.b32 (.fin false c q) (.fin false d r) = FP.Core.roundRatio FP.Core.b32 false c d (q - r) := by
  unfold FP.Core.quotient
  dsimp only
  rw [if_neg h]
  rfl
theorem jdiv2 {r : Nat} (h0 : 2 * 8388608 ≤ r) (h1 : r < 255 * 8388608) : FP.Core.div FP.Core.b32 r 1073741824 = r - 8388608 := by
  unfold FP.Core.div
  rw [jfd (by omega) h1, show FP.Core.decode FP.Core.b32 1073741824 = .fin false 8388608 (-22) by decide]
  rw [jquo (by decide)]
  rw [FP.Core.roundRatio_exact (c := 8388608 + r % 8388608) (q := ((r / 8388608 : Nat) : Int) - 151) FP.Core.good_b32 (by decide) (jfit (by omega) (by omega) (by omega) (by omega)) ?_, jf_enc (by omega)]
  · omega
  · rw [show (((r / 8388608 : Nat) : Int) - 150 - -22 - (((r / 8388608 : Nat) : Int) - 151)).toNat = 23 by omega, show ((((r / 8388608 : Nat) : Int) - 151) - (((r / 8388608 : Nat) : Int) - 150 - -22)).toNat = 0 by omega, Nat.pow_zero, Nat.mul_one]
theorem jmul2 {r : Nat} (h0 : 8388608 ≤ r) (h1 : r < 254 * 8388608) : FP.Core.mul FP.Core.b32 r 1073741824 = r + 8388608 := by
  unfold FP.Core.mul
  rw [jfd (by omega) (by omega), show FP.Core.decode FP.Core.b32 1073741824 = .fin false 8388608 (-22) by decide]
  show FP.Core.encode FP.Core.b32 (FP.Core.roundRatio FP.Core.b32 false ((8388608 + r % 8388608) * 8388608) 1 (((r / 8388608 : Nat) : Int) - 150 + -22)) = _
  rw [FP.Core.roundRatio_exact (c := 8388608 + r % 8388608) (q := ((r / 8388608 : Nat) : Int) - 149) FP.Core.good_b32 (by decide) (jfit (by omega) (by omega) (by omega) (by omega)) ?_, jf_enc (by omega)]
  · omega
  · rw [show (((r / 8388608 : Nat) : Int) - 150 + -22 - (((r / 8388608 : Nat) : Int) - 149)).toNat = 0 by omega, show ((((r / 8388608 : Nat) : Int) - 149) - (((r / 8388608 : Nat) : Int) - 150 + -22)).toNat = 23 by omega, Nat.pow_zero, Nat.mul_one, Nat.mul_one]
theorem jtail {r : Nat} (h0 : 1065353216 ≤ r) (h1 : r < 1073741824) : ∃ u z : Nat, jm_f2 .fsub r 1065353216 = some u ∧ jm_f2 .fmul u 1258291200 = some z ∧ (FP.f2i (UInt32.ofNat z)).toInt = (r : Int) - 1065353216 := by
  obtain ⟨m, rfl⟩ : ∃ m, r = 1065353216 + m := ⟨r - 1065353216, by omega⟩
  by_cases hm : m = 0
  · subst hm
    exact ⟨0, 0, by decide, by decide, by decide⟩
  · have p24 : (1 : Nat) * 2 ^ (23 + 1) = 16777216 := by decide
    have p23 : (1 : Nat) * 2 ^ 23 = 8388608 := by decide
    obtain ⟨t, u, v⟩ := jscale (b := 1) 23 (1 * 2 ^ (23 + 1) - m + 1) m (by omega) (by rw [p24]; omega) (by omega)
    rw [p23] at u
    rw [p24] at v
    have ht : t ≤ 23 := by
      by_cases q : t ≤ 23
      · exact q
      · have h1 : 1 * 2 ^ 24 ≤ m * 2 ^ t := Nat.mul_le_mul (by omega) (Nat.pow_le_pow_right (by decide) (by omega))
        have h2 : (1 : Nat) * 2 ^ 24 = 16777216 := by decide
        omega
    have d1 : FP.Core.decode FP.Core.b32 (1065353216 + m) = .fin false (8388608 + m) (-23) := by
      have w := jf_dec (e := 127) (t := m) (by decide) (by decide) (by omega)
      exact w
    have e1 : FP.Core.sub FP.Core.b32 (1065353216 + m) 1065353216 = FP.Core.encode FP.Core.b32 (.fin false (m * 2 ^ t) (-23 - (t : Int))) := by
      unfold FP.Core.sub
      rw [d1, show FP.Core.decode FP.Core.b32 1065353216 = .fin false 8388608 (-23) by decide]
      show FP.Core.encode _ (FP.Core.round _ (.fin (FP.Core.sumSign false true (FP.Core.sumUnits false (8388608 + m) (-23) true 8388608 (-23) (min (-23) (-23)))) (FP.Core.sumUnits false (8388608 + m) (-23) true 8388608 (-23) (min (-23) (-23))).natAbs (min (-23) (-23)))) = _
      have e : FP.Core.sumUnits false (8388608 + m) (-23) true 8388608 (-23) (min (-23) (-23)) = (m : Int) := by
        unfold FP.Core.sumUnits FP.Core.signed FP.Core.inUnits
        rw [if_neg (by decide), if_pos rfl, show ((-23 : Int) - min (-23) (-23)).toNat = 0 by decide, Nat.pow_zero, Nat.mul_one, Nat.mul_one]
        omega
      rw [e, Int.natAbs_natCast]
      have e2 : FP.Core.sumSign false true (m : Int) = false := by
        unfold FP.Core.sumSign
        rw [if_neg (by omega)]
        exact decide_eq_false (by omega)
      rw [e2]
      show FP.Core.encode _ (FP.Core.roundRatio FP.Core.b32 false m 1 (min (-23) (-23))) = _
      rw [FP.Core.roundRatio_exact (c := m * 2 ^ t) (q := -23 - (t : Int)) FP.Core.good_b32 (by decide) (jfit u v (by omega) (by omega)) ?_]
      rw [show (min (-23 : Int) (-23) - (-23 - (t : Int))).toNat = t by omega, show (-23 - (t : Int) - min (-23) (-23)).toNat = 0 by omega, Nat.pow_zero, Nat.mul_one, Nat.mul_one]
    have e3 : FP.Core.mul FP.Core.b32 (FP.Core.encode FP.Core.b32 (.fin false (m * 2 ^ t) (-23 - (t : Int)))) 1258291200 = FP.Core.encode FP.Core.b32 (.fin false (m * 2 ^ t) (-(t : Int))) := by
      unfold FP.Core.mul
      rw [jenc2 u v (by omega) (by omega), show FP.Core.decode FP.Core.b32 1258291200 = .fin false 8388608 0 by decide]
      show FP.Core.encode FP.Core.b32 (FP.Core.roundRatio FP.Core.b32 false (m * 2 ^ t * 8388608) 1 (-23 - (t : Int) + 0)) = _
      rw [FP.Core.roundRatio_exact (c := m * 2 ^ t) (q := -(t : Int)) FP.Core.good_b32 (by decide) (jfit u v (by omega) (by omega)) ?_]
      rw [show (-23 - (t : Int) + 0 - -(t : Int)).toNat = 0 by omega, show (-(t : Int) - (-23 - (t : Int) + 0)).toNat = 23 by omega, Nat.pow_zero, Nat.mul_one, Nat.mul_one]
    have l1 := jenc3 (c := m * 2 ^ t) (q := -23 - (t : Int)) u v (by omega) (by omega)
    have l2 := jenc3 (c := m * 2 ^ t) (q := -(t : Int)) u v (by omega) (by omega)
    refine ⟨_, _, jf2_sub (by omega) (by decide) l1 e1, jf2_mul (by omega) (by decide) l2 e3, ?_⟩
    unfold FP.f2i FP.Core.f2i FP.Core.toI
    rw [jf_u (by omega), jenc2 u v (by omega) (by omega)]
    show (Int32.ofInt (max (-2 ^ 31) (min (2 ^ 31 - 1) (FP.Core.truncate false (m * 2 ^ t) (-(t : Int)))))).toInt = _
    have e4 : FP.Core.truncate false (m * 2 ^ t) (-(t : Int)) = (m : Int) := by
      unfold FP.Core.truncate FP.Core.signed
      rw [if_neg (by decide), show (-(t : Int)).toNat = 0 by omega, show (- -(t : Int)).toNat = t by omega, Nat.pow_zero, Nat.mul_one, Nat.mul_div_cancel _ (Nat.two_pow_pos t)]
    rw [e4, show max (-2 ^ 31 : Int) (min (2 ^ 31 - 1) (m : Int)) = (m : Int) by omega, Int32.toInt_ofInt_of_le (show (-2 ^ 31 : Int) ≤ (m : Int) by omega) (show (m : Int) < 2 ^ 31 by omega)]
    omega
theorem jshor {e m : Nat} (he : e < 255) (hm : m < 8388608) : (Int32.ofInt (Int32.ofInt (e : Int) <<< (Int32.ofInt 23 &&& 31)).toInt ||| Int32.ofInt (m : Int)).toInt = (e : Int) * 8388608 + (m : Int) := by
  have h : Int32.ofInt (Int32.ofInt (e : Int) <<< (Int32.ofInt 23 &&& 31)).toInt ||| Int32.ofInt (m : Int) = Int32.ofInt ((e * 8388608 + m : Nat) : Int) := by
    rw [Int32.ofInt_toInt]
    apply Int32.toBitVec.inj
    rw [Int32.toBitVec_or, Int32.toBitVec_shiftLeft, show (Int32.ofInt 23 &&& 31) = 23 by decide]
    apply BitVec.eq_of_toNat_eq
    have s23 : ((23 : Int32).toBitVec.smod 32).toNat = 23 := by decide
    simp only [BitVec.toNat_or, BitVec.shiftLeft_eq', BitVec.toNat_shiftLeft, Int32.toBitVec_ofInt, BitVec.toNat_ofInt, s23]
    have a1 : ((e : Int) % ((2 ^ 32 : Nat) : Int)).toNat = e := by omega
    have a2 : ((m : Int) % ((2 ^ 32 : Nat) : Int)).toNat = m := by omega
    have a3 : (((e * 8388608 + m : Nat) : Int) % ((2 ^ 32 : Nat) : Int)).toNat = e * 8388608 + m := by omega
    rw [a1, a2, a3, Nat.shiftLeft_eq, show (2 : Nat) ^ 23 = 8388608 by decide, Nat.mod_eq_of_lt (show e * 8388608 < 2 ^ 32 by omega)]
    have q := Nat.two_pow_add_eq_or_of_lt (i := 23) (b := m) (by omega) e
    rw [show (2 : Nat) ^ 23 = 8388608 by decide, Nat.mul_comm] at q
    exact q.symm
  rw [h, Int32.toInt_ofInt_of_le (show (-2 ^ 31 : Int) ≤ ((e * 8388608 + m : Nat) : Int) by omega) (show ((e * 8388608 + m : Nat) : Int) < 2 ^ 31 by omega)]
  omega
theorem c_bits_L2 (hp : jm_H) (v : Int) (hv : 8388608 ≤ v ∧ v < 250 * 8388608) : ∀ (n : Nat) (r ex i : Int), 8388608 ≤ r → r < 1073741824 → (ex - 127) * 8388608 + r = v → 0 ≤ i → (i + 1) * 8388608 ≤ r → 126 - i < n → jm_Ev 130 42 [jF v.toNat, jF r.toNat, jI ex, jI i] [] hp (jK (some (jI v)) hp) := by
  intro n
  induction n with
  | zero => intro r ex i h0 h1 h2 h3 h4 hn; omega
  | succ n ih =>
    intro r ex i h0 h1 h2 h3 h4 hn
    refine jm_Ev.bl 2 (pc' := 45) (A' := [jF v.toNat, jF r.toNat, jI ex, jI i]) (st' := [jI 126, jI i]) (hp' := hp) rfl ?_
    refine jE_icmp_ge rfl (by omega) (by omega) (fun c45 => ?_) (fun c45 => ?_)
    · obtain ⟨u, z2, q1, q2, q3⟩ := jtail (r := r.toNat) (by omega) (by omega)
      have hex : ex = v / 8388608 := by omega
      refine jm_Ev.bl 5 (pc' := 73) (A' := [jF v.toNat, jF r.toNat, jI ex, jI i]) (st' := [jF 1065353216, jF r.toNat, jI ((Int32.ofInt ex <<< (Int32.ofInt 23 &&& 31)).toInt)]) (hp' := hp) rfl ?_
      refine jE_f2 (i := .fsub) (z := u) rfl rfl (q1) ?_
      refine jm_Ev.bl 1 (pc' := 77) (A' := [jF v.toNat, jF r.toNat, jI ex, jI i]) (st' := [jF 1258291200, jF u, jI ((Int32.ofInt ex <<< (Int32.ofInt 23 &&& 31)).toInt)]) (hp' := hp) rfl ?_
      refine jE_f2 (i := .fmul) (z := z2) rfl rfl (q2) ?_
      refine jm_Ev.bl 1 (pc' := 79) (A' := [jF v.toNat, jF r.toNat, jI ex, jI i]) (st' := [jI ((FP.f2i (UInt32.ofNat z2)).toInt), jI ((Int32.ofInt ex <<< (Int32.ofInt 23 &&& 31)).toInt)]) (hp' := hp) rfl ?_
      refine jE_top (w := ((v % 8388608).toNat : Int)) (by rw [q3]; omega) ?_
      refine jm_Ev.bl 1 (pc' := 80) (A' := [jF v.toNat, jF r.toNat, jI ex, jI i]) (st' := [jI ((Int32.ofInt ((Int32.ofInt ex <<< (Int32.ofInt 23 &&& 31)).toInt) ||| Int32.ofInt ((v % 8388608).toNat : Int)).toInt)]) (hp' := hp) rfl ?_
      exact jE_ret rfl ⟨jrI ((congrArg (fun w => (Int32.ofInt (Int32.ofInt w <<< (Int32.ofInt 23 &&& 31)).toInt ||| Int32.ofInt ((v % 8388608).toNat : Int)).toInt) (show ex = ((v / 8388608).toNat : Int) by omega)).trans ((jshor (e := (v / 8388608).toNat) (m := (v % 8388608).toNat) (by omega) (by omega)).trans (by omega))), rfl⟩
    · refine jm_Ev.bl 2 (pc' := 50) (A' := [jF v.toNat, jF r.toNat, jI ex, jI i]) (st' := [jF 1065353216, jF r.toNat]) (hp' := hp) rfl ?_
      refine jE_fcmp (u := r) (v := 1065353216) rfl (jcmp_nn (x := r) (y := 1065353216) (by unfold jfn; omega) (by unfold jfn; omega)) ?_
      refine jE_lc_ge rfl (fun c51 => ?_) (fun c51 => ?_)
      · obtain ⟨u, z2, q1, q2, q3⟩ := jtail (r := r.toNat) (by omega) (by omega)
        have hex : ex = v / 8388608 := by omega
        refine jm_Ev.bl 5 (pc' := 73) (A' := [jF v.toNat, jF r.toNat, jI ex, jI i]) (st' := [jF 1065353216, jF r.toNat, jI ((Int32.ofInt ex <<< (Int32.ofInt 23 &&& 31)).toInt)]) (hp' := hp) rfl ?_
        refine jE_f2 (i := .fsub) (z := u) rfl rfl (q1) ?_
        refine jm_Ev.bl 1 (pc' := 77) (A' := [jF v.toNat, jF r.toNat, jI ex, jI i]) (st' := [jF 1258291200, jF u, jI ((Int32.ofInt ex <<< (Int32.ofInt 23 &&& 31)).toInt)]) (hp' := hp) rfl ?_
        refine jE_f2 (i := .fmul) (z := z2) rfl rfl (q2) ?_
        refine jm_Ev.bl 1 (pc' := 79) (A' := [jF v.toNat, jF r.toNat, jI ex, jI i]) (st' := [jI ((FP.f2i (UInt32.ofNat z2)).toInt), jI ((Int32.ofInt ex <<< (Int32.ofInt 23 &&& 31)).toInt)]) (hp' := hp) rfl ?_
        refine jE_top (w := ((v % 8388608).toNat : Int)) (by rw [q3]; omega) ?_
        refine jm_Ev.bl 1 (pc' := 80) (A' := [jF v.toNat, jF r.toNat, jI ex, jI i]) (st' := [jI ((Int32.ofInt ((Int32.ofInt ex <<< (Int32.ofInt 23 &&& 31)).toInt) ||| Int32.ofInt ((v % 8388608).toNat : Int)).toInt)]) (hp' := hp) rfl ?_
        exact jE_ret rfl ⟨jrI ((congrArg (fun w => (Int32.ofInt (Int32.ofInt w <<< (Int32.ofInt 23 &&& 31)).toInt ||| Int32.ofInt ((v % 8388608).toNat : Int)).toInt) (show ex = ((v / 8388608).toNat : Int) by omega)).trans ((jshor (e := (v / 8388608).toNat) (m := (v % 8388608).toNat) (by omega) (by omega)).trans (by omega))), rfl⟩
      · refine jm_Ev.bl 2 (pc' := 56) (A' := [jF v.toNat, jF r.toNat, jI ex, jI i]) (st' := [jF 1073741824, jF r.toNat]) (hp' := hp) rfl ?_
        refine jE_f2 (i := .fmul) (z := (r + 8388608).toNat) rfl rfl (jf2_mul (by omega) (by decide) (by omega) ((jmul2 (by omega) (by omega)).trans (by omega))) ?_
        refine jm_Ev.bl 4 (pc' := 42) (A' := [jF v.toNat, jF ((r + 8388608).toNat), jI (ex + (-1)), jI (i + 1)]) (st' := []) (hp' := hp) rfl ?_
        exact ih (r + 8388608) _ _ (by omega) (by omega) (by omega) (by omega) (by omega) (by omega)
theorem c_bits_L1 (hp : jm_H) (v : Int) (hv : 8388608 ≤ v ∧ v < 250 * 8388608) : ∀ (n : Nat) (r ex i : Int), 8388608 ≤ r → r = v - i * 8388608 → ex = 127 + i → 0 ≤ i → i ≤ 127 → 128 - i < n → jm_Ev 130 15 [jF v.toNat, jF r.toNat, jI ex, jI i] [] hp (jK (some (jI v)) hp) := by
  intro n
  induction n with
  | zero => intro r ex i h0 h1 h2 h3 h4 hn; omega
  | succ n ih =>
    intro r ex i h0 h1 h2 h3 h4 hn
    refine jm_Ev.bl 2 (pc' := 18) (A' := [jF v.toNat, jF r.toNat, jI ex, jI i]) (st' := [jI 127, jI i]) (hp' := hp) rfl ?_
    refine jE_icmp_ge rfl (by omega) (by omega) (fun c18 => ?_) (fun c18 => ?_)
    · refine jm_Ev.bl 2 (pc' := 42) (A' := [jF v.toNat, jF r.toNat, jI ex, jI 0]) (st' := []) (hp' := hp) rfl ?_
      exact c_bits_L2 hp v hv 130 r ex 0 (by omega) (by omega) (by omega) (by omega) (by omega) (by omega)
    · refine jm_Ev.bl 2 (pc' := 23) (A' := [jF v.toNat, jF r.toNat, jI ex, jI i]) (st' := [jF 1073741824, jF r.toNat]) (hp' := hp) rfl ?_
      refine jE_fcmp (u := r) (v := 1073741824) rfl (jcmp_nn (x := r) (y := 1073741824) (by unfold jfn; omega) (by unfold jfn; omega)) ?_
      refine jE_lc_lt rfl (fun c24 => ?_) (fun c24 => ?_)
      · refine jm_Ev.bl 2 (pc' := 42) (A' := [jF v.toNat, jF r.toNat, jI ex, jI 0]) (st' := []) (hp' := hp) rfl ?_
        exact c_bits_L2 hp v hv 130 r ex 0 (by omega) (by omega) (by omega) (by omega) (by omega) (by omega)
      · refine jm_Ev.bl 2 (pc' := 29) (A' := [jF v.toNat, jF r.toNat, jI ex, jI i]) (st' := [jF 1073741824, jF r.toNat]) (hp' := hp) rfl ?_
        refine jE_f2 (i := .fdiv) (z := (r - 8388608).toNat) rfl rfl (jf2_div (by omega) (by decide) (by omega) ((jdiv2 (by omega) (by omega)).trans (by omega))) ?_
        refine jm_Ev.bl 4 (pc' := 15) (A' := [jF v.toNat, jF ((r - 8388608).toNat), jI (ex + 1), jI (i + 1)]) (st' := []) (hp' := hp) rfl ?_
        exact ih (r - 8388608) _ _ (by omega) (by omega) (by omega) (by omega) (by omega) (by omega)
theorem c_bitsOf (hp : jm_H) (v : Int) (hv : jfn 250 v) : jm_Ev 130 0 [jF v.toNat, jU, jU, jU] [] hp (jK (some (jI v)) hp) := by
  have hv2 := hv
  unfold jfn at hv2
  refine jm_Ev.bl 2 (pc' := 2) (A' := [jF v.toNat, jU, jU, jU]) (st' := [jF 0, jF v.toNat]) (hp' := hp) rfl ?_
  refine jE_fcmp (u := v) (v := 0) rfl (jcmp_nn (x := v) (y := 0) hv (Or.inl rfl)) ?_
  refine jE_lc_gt rfl (fun c3 => ?_) (fun c3 => ?_)
  · refine jm_Ev.bl 6 (pc' := 15) (A' := [jF v.toNat, jF v.toNat, jI 127, jI 0]) (st' := []) (hp' := hp) rfl ?_
    exact c_bits_L1 hp v (by omega) 130 v 127 0 (by omega) (by omega) (by omega) (by omega) (by omega) (by omega)
  · refine jm_Ev.bl 1 (pc' := 7) (A' := [jF v.toNat, jU, jU, jU]) (st' := [jI 0]) (hp' := hp) rfl ?_
    exact jE_ret rfl ⟨jrI (by omega), rfl⟩
