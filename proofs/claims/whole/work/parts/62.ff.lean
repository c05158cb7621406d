/-! floats of the class: fractions from 0 on, by their bits -/
def jfn (E n : Int) : Prop := n = 0 ∨ (8388608 ≤ n ∧ n < E * 8388608)
def jfa (a b : Int) : Int := (FP.Core.add FP.Core.b32 a.toNat b.toNat : Int)
theorem jfd {n : Nat} (h0 : 8388608 ≤ n) (h1 : n < 255 * 8388608) : FP.Core.decode FP.Core.b32 n = .fin false (8388608 + n % 8388608) (((n / 8388608 : Nat) : Int) - 150) := by
  have u := jf_dec (e := n / 8388608) (t := n % 8388608) (by omega) (by omega) (by omega)
  rw [show n / 8388608 * 8388608 + n % 8388608 = n by omega] at u
  exact u
theorem jfd0 : FP.Core.decode FP.Core.b32 0 = .fin false 0 (-149) := by decide
theorem jfe_d {n : Nat} (h : n = 0 ∨ (8388608 ≤ n ∧ n < 255 * 8388608)) : FP.Core.encode FP.Core.b32 (FP.Core.decode FP.Core.b32 n) = n := by
  refine FP.Core.encode_decode FP.Core.good_b32 n (by rw [FP.Core.size_b32]; omega) ?_
  rcases h with rfl | h
  · rw [jfd0]; intro z; cases z
  · rw [jfd h.1 h.2]; intro z; cases z
theorem jadd_z {n : Nat} (h : n = 0 ∨ (8388608 ≤ n ∧ n < 255 * 8388608)) : FP.Core.add FP.Core.b32 n 0 = n := by
  unfold FP.Core.add
  have e := FP.Core.round_sum_zero FP.Core.good_b32 (FP.Core.decode_fits FP.Core.good_b32 n) false (fun s q z => by
    rcases h with rfl | h
    · rw [jfd0] at z; cases z; exact Or.inl rfl
    · rw [jfd h.1 h.2] at z; injection z with z1 z2 z3; exact Or.inl z1.symm)
  rw [jf_qmin] at e
  rw [jfd0, e]
  exact jfe_d h
theorem jadd_comm (a b : Nat) : FP.Core.add FP.Core.b32 a b = FP.Core.add FP.Core.b32 b a := by
  unfold FP.Core.add
  rw [FP.Core.exactSum_comm]
theorem jadd_core {lo hi : Nat} (h0 : 8388608 ≤ lo) (h1 : lo ≤ hi) (h2 : hi < 250 * 8388608) : FP.Core.add FP.Core.b32 hi lo = FP.Core.encode FP.Core.b32 (FP.Core.roundRatio FP.Core.b32 false ((8388608 + hi % 8388608) * 2 ^ (hi / 8388608 - lo / 8388608) + (8388608 + lo % 8388608)) 1 (((lo / 8388608 : Nat) : Int) - 150)) := by
  have hd : lo / 8388608 ≤ hi / 8388608 := by omega
  unfold FP.Core.add
  rw [jfd (by omega) (by omega), jfd (by omega) (by omega)]
  generalize hi / 8388608 = eh at *
  generalize lo / 8388608 = el at *
  generalize 8388608 + hi % 8388608 = H
  generalize 8388608 + lo % 8388608 = G
  show FP.Core.encode _ (FP.Core.round _ (.fin (FP.Core.sumSign false false (FP.Core.sumUnits false H ((eh : Int) - 150) false G ((el : Int) - 150) (min ((eh : Int) - 150) ((el : Int) - 150)))) (FP.Core.sumUnits false H ((eh : Int) - 150) false G ((el : Int) - 150) (min ((eh : Int) - 150) ((el : Int) - 150))).natAbs (min ((eh : Int) - 150) ((el : Int) - 150)))) = _
  rw [show min ((eh : Int) - 150) ((el : Int) - 150) = (el : Int) - 150 by omega]
  have e : FP.Core.sumUnits false H ((eh : Int) - 150) false G ((el : Int) - 150) ((el : Int) - 150) = ((H * 2 ^ (eh - el) + G : Nat) : Int) := by
    unfold FP.Core.sumUnits FP.Core.signed FP.Core.inUnits
    rw [show ((eh : Int) - 150 - ((el : Int) - 150)).toNat = eh - el by omega, show ((el : Int) - 150 - ((el : Int) - 150)).toNat = 0 by omega, Nat.pow_zero, Nat.mul_one, Int.natCast_add]
    rfl
  rw [e, Int.natAbs_natCast]
  generalize H * 2 ^ (eh - el) + G = V
  have e2 : FP.Core.sumSign false false (V : Int) = false := by
    unfold FP.Core.sumSign
    split
    · rfl
    · exact decide_eq_false (by omega)
  rw [e2]
  rfl
theorem jadd_k {H G b : Nat} (h0 : 8388608 ≤ H) (h1 : H < 16777216) (g0 : 8388608 ≤ G) (g1 : G < 16777216) : ∃ k : Nat, (k = b ∨ k = b + 1) ∧ 1 * 2 ^ (23 + k) ≤ H * 2 ^ b + G ∧ H * 2 ^ b + G < 1 * 2 ^ (24 + k) ∧ (k = b + 1 → FP.Core.nearest (H * 2 ^ b + G) (1 * 2 ^ k) ≤ 16777215) := by
  have hT : 1 ≤ 2 ^ b := Nat.two_pow_pos b
  have hP0 : 8388608 * 2 ^ b ≤ H * 2 ^ b := Nat.mul_le_mul_right _ h0
  have hP1 : H * 2 ^ b ≤ 16777215 * 2 ^ b := Nat.mul_le_mul_right _ (by omega)
  have t23 : 1 * 2 ^ (23 + b) = 8388608 * 2 ^ b := by rw [Nat.pow_add, Nat.one_mul]
  have t24 : 1 * 2 ^ (24 + b) = 16777216 * 2 ^ b := by rw [Nat.pow_add, Nat.one_mul]
  have t24' : 1 * 2 ^ (23 + (b + 1)) = 16777216 * 2 ^ b := by rw [show 23 + (b + 1) = 24 + b by omega, Nat.pow_add, Nat.one_mul]
  have t25 : 1 * 2 ^ (24 + (b + 1)) = 33554432 * 2 ^ b := by rw [show 24 + (b + 1) = 25 + b by omega, Nat.pow_add, Nat.one_mul]
  have tb : 2 ^ (b + 1) = 2 * 2 ^ b := by rw [Nat.pow_succ, Nat.mul_comm]
  by_cases c : H * 2 ^ b + G < 16777216 * 2 ^ b
  · refine ⟨b, Or.inl rfl, ?_, ?_, fun z => by omega⟩
    · rw [t23]; omega
    · rw [t24]; exact c
  · refine ⟨b + 1, Or.inr rfl, ?_, ?_, fun _ => ?_⟩
    · rw [t24']; omega
    · rw [t25]; omega
    · refine FP.Core.nearest_le (by rw [tb]; omega) ?_
      rw [tb]; omega
theorem jadd_rng {lo hi E : Nat} (h0 : 8388608 ≤ lo) (h1 : lo ≤ hi) (h2 : hi < E * 8388608) (hE : E ≤ 250) : 8388608 ≤ FP.Core.add FP.Core.b32 hi lo ∧ FP.Core.add FP.Core.b32 hi lo < (E + 1) * 8388608 := by
  have hd : lo / 8388608 ≤ hi / 8388608 := by omega
  have e1 : 1 ≤ lo / 8388608 := by omega
  have e2 : hi / 8388608 < E := by omega
  have hE2 : hi < 250 * 8388608 := Nat.lt_of_lt_of_le h2 (Nat.mul_le_mul_right _ hE)
  obtain ⟨k, hk, k1, k2, k3⟩ := jadd_k (H := 8388608 + hi % 8388608) (G := 8388608 + lo % 8388608) (b := hi / 8388608 - lo / 8388608) (by omega) (by omega) (by omega) (by omega)
  have r := jf_rr (e := ((lo / 8388608 : Nat) : Int) - 150) (by decide) k1 k2 (by omega) (by omega)
  have n := jf_near (by decide) k1 k2
  rw [← jadd_core h0 h1 hE2] at r
  generalize FP.Core.add FP.Core.b32 hi lo = z at *
  generalize FP.Core.nearest _ _ = w at *
  generalize hi / 8388608 = eh at *
  generalize lo / 8388608 = el at *
  rcases hk with rfl | rfl
  · omega
  · have := k3 rfl
    omega
theorem jnear_lo {H T G : Nat} (h : 2 * G < T) : FP.Core.nearest (H * T + G) T = H := by
  unfold FP.Core.nearest
  rw [Nat.mul_comm H T, Nat.mul_add_mod, Nat.mul_add_div (by omega), Nat.mod_eq_of_lt (by omega), Nat.div_eq_of_lt (by omega), if_pos (by omega), Nat.add_zero]
theorem jadd_big {lo hi : Nat} (h0 : 8388608 ≤ lo) (h1 : lo ≤ hi) (h2 : hi < 250 * 8388608) (hb : 30 < hi / 8388608 - lo / 8388608) : FP.Core.add FP.Core.b32 hi lo = hi := by
  have hT : 2 ^ 31 ≤ 2 ^ (hi / 8388608 - lo / 8388608) := Nat.pow_le_pow_right (by decide) (by omega)
  rw [show (2 : Nat) ^ 31 = 2147483648 by decide] at hT
  have hP0 : 8388608 * 2 ^ (hi / 8388608 - lo / 8388608) ≤ (8388608 + hi % 8388608) * 2 ^ (hi / 8388608 - lo / 8388608) := Nat.mul_le_mul_right _ (by omega)
  have hP1 : (8388608 + hi % 8388608) * 2 ^ (hi / 8388608 - lo / 8388608) ≤ 16777215 * 2 ^ (hi / 8388608 - lo / 8388608) := Nat.mul_le_mul_right _ (by omega)
  have r := jf_rr (e := ((lo / 8388608 : Nat) : Int) - 150) (A := (8388608 + hi % 8388608) * 2 ^ (hi / 8388608 - lo / 8388608) + (8388608 + lo % 8388608)) (B := 1) (k := hi / 8388608 - lo / 8388608) (by decide) (by rw [Nat.pow_add, Nat.one_mul]; omega) (by rw [Nat.pow_add, Nat.one_mul]; omega) (by omega) (by omega)
  rw [← jadd_core h0 h1 h2] at r
  have e : FP.Core.nearest ((8388608 + hi % 8388608) * 2 ^ (hi / 8388608 - lo / 8388608) + (8388608 + lo % 8388608)) (1 * 2 ^ (hi / 8388608 - lo / 8388608)) = 8388608 + hi % 8388608 := by
    rw [Nat.one_mul]
    exact jnear_lo (by omega)
  rw [e] at r
  omega
theorem jfa_comm (a b : Int) : jfa a b = jfa b a := by unfold jfa; rw [jadd_comm]
theorem jfa_z {a : Int} (h : jfn 250 a) : jfa a 0 = a := by
  unfold jfa
  unfold jfn at h
  rw [show (0 : Int).toNat = 0 from rfl, jadd_z (by omega)]
  omega
theorem jfa_n {E a b : Int} (h : jfn E a) (hb : jfn E b) (h0 : 0 ≤ E) (hE : E ≤ 250) : jfn (E + 1) (jfa a b) ∧ 0 ≤ jfa a b := by
  have ha := h
  have hb' := hb
  unfold jfn at h hb ⊢
  by_cases c : b = 0
  · subst c
    rw [jfa_z (by unfold jfn; omega)]
    omega
  · by_cases d : a = 0
    · subst d
      rw [jfa_comm, jfa_z (by unfold jfn; omega)]
      omega
    · have key : ∀ {lo hi : Int}, 8388608 ≤ lo → lo ≤ hi → hi < E * 8388608 → 8388608 ≤ jfa hi lo ∧ jfa hi lo < (E + 1) * 8388608 := by
        intro lo hi x y z
        have u := jadd_rng (lo := lo.toNat) (hi := hi.toNat) (E := E.toNat) (by omega) (by omega) (by omega) (by omega)
        unfold jfa
        omega
      by_cases o : a ≤ b
      · have := key (lo := a) (hi := b) (by omega) o (by omega)
        rw [jfa_comm]
        omega
      · have := key (lo := b) (hi := a) (by omega) (by omega) (by omega)
        omega
