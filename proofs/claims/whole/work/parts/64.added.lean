/-! the model's added; the class's penaltyOf -/
theorem c_m_wholeOf (hp : jm_H) (a : Int) (ha : 0 ≤ a ∧ a < 2147483648) : jm_Ev 160 0 [jI a] [] hp (jK (some (jL (8388608 + a % 8388608))) hp) := by
  refine jm_Ev.bl 3 (pc' := 6) (A' := [jI a]) (st' := [jI 8388608, jI a, jL 8388608]) (hp' := hp) rfl ?_
  refine jE_irem rfl (by omega) (by omega) ?_
  refine jE_i2l rfl (by omega) ?_
  refine jm_Ev.bl 1 (pc' := 9) (A' := [jI a]) (st' := [jL (8388608 + (a % 8388608))]) (hp' := hp) rfl ?_
  exact jE_ret rfl ⟨rfl, rfl⟩
theorem c_m_added_L (hp : jm_H) (a b : Int) (lo hi H by_ : Nat) (h0 : 8388608 ≤ lo) (h1 : lo ≤ hi) (h2 : hi < 250 * 8388608) (hH : H = 8388608 + hi % 8388608) (hby : by_ = hi / 8388608 - lo / 8388608) (hb30 : by_ ≤ 30) : ∀ (n : Nat) (j : Nat), j ≤ by_ → by_ - j < n → jm_Ev 161 63 [jI a, jI b, jI (lo : Int), jI (hi : Int), jI (by_ : Int), jL ((H * 2 ^ j : Nat) : Int), jU, jI (j : Int)] [] hp (jK (some (jI (jfa (hi : Int) (lo : Int)))) hp) := by
  intro n
  induction n with
  | zero => intro j hj hn; omega
  | succ n ih =>
    intro j hj hn
    have hq : H * 2 ^ j ≤ 16777216 * 2 ^ 30 := Nat.mul_le_mul (by omega) (Nat.pow_le_pow_right (by decide) (by omega))
    rw [show (16777216 : Nat) * 2 ^ 30 = 18014398509481984 by decide] at hq
    refine jm_Ev.bl 2 (pc' := 67) (A' := [jI a, jI b, jI (lo : Int), jI (hi : Int), jI (by_ : Int), jL ((H * 2 ^ j : Nat) : Int), jU, jI (j : Int)]) (st' := [jI (by_ : Int), jI (j : Int)]) (hp' := hp) rfl ?_
    refine jE_icmp_ge rfl (by omega) (by omega) (fun c67 => ?_) (fun c67 => ?_)
    · have ej : j = by_ := by omega
      subst ej
      refine jm_Ev.bl 2 (pc' := 87) (A' := [jI a, jI b, jI (lo : Int), jI (hi : Int), jI (j : Int), jL ((H * 2 ^ j : Nat) : Int), jU, jI (j : Int)]) (st' := [jI (lo : Int), jL ((H * 2 ^ j : Nat) : Int)]) (hp' := hp) rfl ?_
      refine jE_callI (vs := [jI (lo : Int)]) (r := [jL ((H * 2 ^ j : Nat) : Int)]) (nx := 90) (v := jL (8388608 + (lo : Int) % 8388608)) (hp1 := hp) rfl (c_m_wholeOf hp (lo : Int) (by omega)) ?_
      refine jm_Ev.bl 2 (pc' := 93) (A' := [jI a, jI b, jI (lo : Int), jI (hi : Int), jI (j : Int), jL (((H * 2 ^ j : Nat) : Int) + (8388608 + (lo : Int) % 8388608)), jU, jI (j : Int)]) (st' := []) (hp' := hp) rfl ?_
      obtain ⟨V, hV⟩ : ∃ V : Nat, V = (8388608 + hi % 8388608) * 2 ^ (hi / 8388608 - lo / 8388608) + (8388608 + lo % 8388608) := ⟨_, rfl⟩
      have eV : ((H * 2 ^ j : Nat) : Int) + (8388608 + (lo : Int) % 8388608) = (V : Int) := by
        rw [hV, ← hH, ← hby]; omega
      rw [eV]
      obtain ⟨k, hk, k1, k2, k3⟩ := jadd_k (H := 8388608 + hi % 8388608) (G := 8388608 + lo % 8388608) (b := hi / 8388608 - lo / 8388608) (by omega) (by omega) (by omega) (by omega)
      rw [← hV, Nat.one_mul] at k1 k2
      have enr : (FP.Core.encode FP.Core.b32 (FP.Core.roundRatio FP.Core.b32 false V 1 (((lo / 8388608 : Nat) : Int) - 150)) : Int) = jfa (hi : Int) (lo : Int) := by
        unfold jfa
        rw [Int.toNat_natCast, Int.toNat_natCast, jadd_core h0 h1 h2, hV]
      refine jm_Ev.bl 3 (pc' := 98) (A' := [jI a, jI b, jI (lo : Int), jI (hi : Int), jI (j : Int), jL (V : Int), jU, jI (j : Int)]) (st' := [jI 8388608, jI (lo : Int), jL (V : Int)]) (hp' := hp) rfl ?_
      refine jE_idiv rfl (by omega) (by omega) ?_
      rw [show (lo : Int) / 8388608 = ((lo / 8388608 : Nat) : Int) by omega]
      refine jm_Ev.bl 3 (pc' := 104) (A' := [jI a, jI b, jI (lo : Int), jI (hi : Int), jI (j : Int), jL (V : Int), jU, jI (j : Int)]) (st' := [jI 0, jI (((lo / 8388608 : Nat) : Int) - 150), jL (V : Int)]) (hp' := hp) rfl ?_
      refine jE_callI (vs := [jL (V : Int), jI (((lo / 8388608 : Nat) : Int) - 150), jI 0]) (r := []) (nx := 107) (v := jI (jfa (hi : Int) (lo : Int))) (hp1 := hp) rfl (enr ▸ c_m_near hp V 1 V k (((lo / 8388608 : Nat) : Int) - 150) false (by decide) (by rw [Nat.div_one]) (by rw [Nat.mod_one]; rfl) k1 k2 (by omega) (by omega) (by omega) (fun _ => Nat.mod_one _)) ?_
      exact jE_ret rfl ⟨rfl, rfl⟩
    · refine jm_Ev.bl 6 (pc' := 63) (A' := [jI a, jI b, jI (lo : Int), jI (hi : Int), jI (by_ : Int), jL (((H * 2 ^ j : Nat) : Int) * 2), jU, jI ((j : Int) + 1)]) (st' := []) (hp' := hp) rfl ?_
      have u := ih (j + 1) (by omega) (by omega)
      rw [show H * 2 ^ (j + 1) = H * 2 ^ j * 2 by rw [Nat.pow_succ, Nat.mul_assoc], Int.natCast_mul, Int.natCast_add] at u
      exact u
theorem c_m_added_T (hp : jm_H) (a b : Int) (lo hi : Nat) (h0 : 8388608 ≤ lo) (h1 : lo ≤ hi) (h2 : hi < 250 * 8388608) : jm_Ev 161 34 [jI a, jI b, jI (lo : Int), jI (hi : Int), jU, jU, jU, jU] [] hp (jK (some (jI (jfa (hi : Int) (lo : Int)))) hp) := by
  refine jm_Ev.bl 2 (pc' := 37) (A' := [jI a, jI b, jI (lo : Int), jI (hi : Int), jU, jU, jU, jU]) (st' := [jI 8388608, jI (hi : Int)]) (hp' := hp) rfl ?_
  refine jE_idiv rfl (by omega) (by omega) ?_
  refine jm_Ev.bl 2 (pc' := 41) (A' := [jI a, jI b, jI (lo : Int), jI (hi : Int), jU, jU, jU, jU]) (st' := [jI 8388608, jI (lo : Int), jI ((hi : Int) / 8388608)]) (hp' := hp) rfl ?_
  refine jE_idiv rfl (by omega) (by omega) ?_
  refine jm_Ev.bl 2 (pc' := 45) (A' := [jI a, jI b, jI (lo : Int), jI (hi : Int), jI (((hi : Int) / 8388608) - ((lo : Int) / 8388608)), jU, jU, jU]) (st' := []) (hp' := hp) rfl ?_
  obtain ⟨by_, hby⟩ : ∃ z, z = hi / 8388608 - lo / 8388608 := ⟨_, rfl⟩
  rw [show (((hi : Int) / 8388608) - ((lo : Int) / 8388608)) = (by_ : Int) by omega]
  refine jm_Ev.bl 2 (pc' := 49) (A' := [jI a, jI b, jI (lo : Int), jI (hi : Int), jI (by_ : Int), jU, jU, jU]) (st' := [jI 30, jI (by_ : Int)]) (hp' := hp) rfl ?_
  refine jE_icmp_le rfl (by omega) (by omega) (fun c49 => ?_) (fun c49 => ?_)
  · refine jm_Ev.bl 1 (pc' := 55) (A' := [jI a, jI b, jI (lo : Int), jI (hi : Int), jI (by_ : Int), jU, jU, jU]) (st' := [jI (hi : Int)]) (hp' := hp) rfl ?_
    refine jE_callI (vs := [jI (hi : Int)]) (r := []) (nx := 58) (v := jL (8388608 + (hi : Int) % 8388608)) (hp1 := hp) rfl (c_m_wholeOf hp (hi : Int) (by omega)) ?_
    refine jm_Ev.bl 1 (pc' := 60) (A' := [jI a, jI b, jI (lo : Int), jI (hi : Int), jI (by_ : Int), jL (8388608 + (hi : Int) % 8388608), jU, jU]) (st' := []) (hp' := hp) rfl ?_
    rw [show (8388608 : Int) + (hi : Int) % 8388608 = ((8388608 + hi % 8388608 : Nat) : Int) by omega]
    refine jm_Ev.bl 2 (pc' := 63) (A' := [jI a, jI b, jI (lo : Int), jI (hi : Int), jI (by_ : Int), jL ((8388608 + hi % 8388608 : Nat) : Int), jU, jI 0]) (st' := []) (hp' := hp) rfl ?_
    have u := c_m_added_L hp a b lo hi (8388608 + hi % 8388608) by_ (by omega) (by omega) (by omega) rfl hby (by omega) 32 0 (by omega) (by omega)
    rw [Nat.pow_zero, Nat.mul_one] at u
    exact u
  · refine jm_Ev.bl 1 (pc' := 53) (A' := [jI a, jI b, jI (lo : Int), jI (hi : Int), jI (by_ : Int), jU, jU, jU]) (st' := [jI (hi : Int)]) (hp' := hp) rfl ?_
    have u := jadd_big (lo := lo) (hi := hi) (by omega) (by omega) (by omega) (by omega)
    exact jE_ret rfl ⟨jrI (by unfold jfa; rw [Int.toNat_natCast, Int.toNat_natCast, u]), rfl⟩
theorem c_m_added (hp : jm_H) (a b : Int) (ha : jfn 249 a) (hb : jfn 249 b) : jm_Ev 161 0 [jI a, jI b, jU, jU, jU, jU, jU, jU] [] hp (jK (some (jI (jfa a b))) hp) := by
  unfold jfn at ha hb
  refine jm_Ev.bl 1 (pc' := 1) (A' := [jI a, jI b, jU, jU, jU, jU, jU, jU]) (st' := [jI a]) (hp' := hp) rfl ?_
  refine jE_if_eq rfl (by omega) (fun c1 => ?_) (fun c1 => ?_)
  · refine jm_Ev.bl 3 (pc' := 11) (A' := [jI a, jI b, jU, jU, jU, jU, jU, jU]) (st' := [jI (a + b)]) (hp' := hp) rfl ?_
    exact jE_ret rfl ⟨jrI (by rw [c1, jfa_comm, jfa_z (by unfold jfn; omega)]; omega), rfl⟩
  · refine jm_Ev.bl 1 (pc' := 5) (A' := [jI a, jI b, jU, jU, jU, jU, jU, jU]) (st' := [jI b]) (hp' := hp) rfl ?_
    refine jE_if_ne rfl (by omega) (fun c5 => ?_) (fun c5 => ?_)
    · refine jm_Ev.bl 2 (pc' := 14) (A' := [jI a, jI b, jU, jU, jU, jU, jU, jU]) (st' := [jI b, jI a]) (hp' := hp) rfl ?_
      refine jE_icmp_ge rfl (by omega) (by omega) (fun c14 => ?_) (fun c14 => ?_)
      · refine jm_Ev.bl 4 (pc' := 25) (A' := [jI a, jI b, jI b, jU, jU, jU, jU, jU]) (st' := [jI b, jI a]) (hp' := hp) rfl ?_
        refine jE_icmp_ge rfl (by omega) (by omega) (fun c25 => ?_) (fun c25 => ?_)
        · refine jm_Ev.bl 2 (pc' := 34) (A' := [jI a, jI b, jI b, jI a, jU, jU, jU, jU]) (st' := []) (hp' := hp) rfl ?_
          obtain ⟨lo, hlo⟩ : ∃ lo : Nat, b = (lo : Int) := ⟨b.toNat, by omega⟩
          obtain ⟨hi, hhi⟩ : ∃ hi : Nat, a = (hi : Int) := ⟨a.toNat, by omega⟩
          have u := c_m_added_T hp a b lo hi (by omega) (by omega) (by omega)
          rw [← hlo, ← hhi] at u
          exact u
        · refine jm_Ev.bl 3 (pc' := 34) (A' := [jI a, jI b, jI b, jI b, jU, jU, jU, jU]) (st' := []) (hp' := hp) rfl ?_
          exact absurd c14 (by omega)
      · refine jm_Ev.bl 5 (pc' := 25) (A' := [jI a, jI b, jI a, jU, jU, jU, jU, jU]) (st' := [jI b, jI a]) (hp' := hp) rfl ?_
        refine jE_icmp_ge rfl (by omega) (by omega) (fun c25 => ?_) (fun c25 => ?_)
        · refine jm_Ev.bl 2 (pc' := 34) (A' := [jI a, jI b, jI a, jI a, jU, jU, jU, jU]) (st' := []) (hp' := hp) rfl ?_
          exact absurd c14 (by omega)
        · refine jm_Ev.bl 3 (pc' := 34) (A' := [jI a, jI b, jI a, jI b, jU, jU, jU, jU]) (st' := []) (hp' := hp) rfl ?_
          obtain ⟨lo, hlo⟩ : ∃ lo : Nat, a = (lo : Int) := ⟨a.toNat, by omega⟩
          obtain ⟨hi, hhi⟩ : ∃ hi : Nat, b = (hi : Int) := ⟨b.toNat, by omega⟩
          have u := c_m_added_T hp a b lo hi (by omega) (by omega) (by omega)
          rw [← hlo, ← hhi] at u
          exact jfa_comm a b ▸ u
    · refine jm_Ev.bl 3 (pc' := 11) (A' := [jI a, jI b, jU, jU, jU, jU, jU, jU]) (st' := [jI (a + b)]) (hp' := hp) rfl ?_
      exact jE_ret rfl ⟨jrI (by rw [c5, jfa_z (by unfold jfn; omega)]; omega), rfl⟩
theorem c_o_beside_20 (hp : jm_H) (i s N : Int) (X Y L M : Int → Int) (hV : jVo_20 hp i s N X Y L M) (hW : jWy N X Y L M) (a b : Int) (ha : 0 ≤ a ∧ a < N) (hb : 0 ≤ b ∧ b < N) (c : Int) (hc : 0 ≤ c ∧ c < N) : jm_Ev 72 0 [jR 20, jI (s + a), jI (s + c), jI (s + b)] [] hp (jK (some (jI (jfar X Y a c b))) hp) := by
  obtain ⟨es, eN, s0, s60, hi, hpt⟩ := id hV
  have pa := hpt a ha.1 ha.2
  have pb := hpt b hb.1 hb.2
  have pc := hpt c hc.1 hc.2
  refine jm_Ev.bl 2 (pc' := 2) (A' := [jR 20, jI (s + a), jI (s + c), jI (s + b)]) (st' := [jI (s + c), jR 20]) (hp' := hp) rfl ?_
  refine jE_callI (vs := [jR 20, jI (s + c)]) (r := []) (nx := 5) (v := jI (X c)) (hp1 := hp) rfl (pc.1 ▸ c_o_xAt_20 hp (s + c) (by omega) (by omega)) ?_
  refine jm_Ev.bl 2 (pc' := 7) (A' := [jR 20, jI (s + a), jI (s + c), jI (s + b)]) (st' := [jI (s + a), jR 20, jI (X c)]) (hp' := hp) rfl ?_
  refine jE_callI (vs := [jR 20, jI (s + a)]) (r := [jI (X c)]) (nx := 10) (v := jI (X a)) (hp1 := hp) rfl (pa.1 ▸ c_o_xAt_20 hp (s + a) (by omega) (by omega)) ?_
  refine jm_Ev.bl 3 (pc' := 13) (A' := [jR 20, jI (s + a), jI (s + c), jI (s + b)]) (st' := [jI (s + b), jR 20, jI ((X c) - (X a))]) (hp' := hp) rfl ?_
  refine jE_callI (vs := [jR 20, jI (s + b)]) (r := [jI ((X c) - (X a))]) (nx := 16) (v := jI (Y b)) (hp1 := hp) rfl (pb.2.1 ▸ c_o_yAt_20 hp (s + b) (by omega) (by omega)) ?_
  refine jm_Ev.bl 2 (pc' := 18) (A' := [jR 20, jI (s + a), jI (s + c), jI (s + b)]) (st' := [jI (s + a), jR 20, jI (Y b), jI ((X c) - (X a))]) (hp' := hp) rfl ?_
  refine jE_callI (vs := [jR 20, jI (s + a)]) (r := [jI (Y b), jI ((X c) - (X a))]) (nx := 21) (v := jI (Y a)) (hp1 := hp) rfl (pa.2.1 ▸ c_o_yAt_20 hp (s + a) (by omega) (by omega)) ?_
  refine jm_Ev.bl 4 (pc' := 25) (A' := [jR 20, jI (s + a), jI (s + c), jI (s + b)]) (st' := [jI (s + c), jR 20, jI (((X c) - (X a)) * ((Y b) - (Y a)))]) (hp' := hp) rfl ?_
  refine jE_callI (vs := [jR 20, jI (s + c)]) (r := [jI (((X c) - (X a)) * ((Y b) - (Y a)))]) (nx := 28) (v := jI (Y c)) (hp1 := hp) rfl (pc.2.1 ▸ c_o_yAt_20 hp (s + c) (by omega) (by omega)) ?_
  refine jm_Ev.bl 2 (pc' := 30) (A' := [jR 20, jI (s + a), jI (s + c), jI (s + b)]) (st' := [jI (s + a), jR 20, jI (Y c), jI (((X c) - (X a)) * ((Y b) - (Y a)))]) (hp' := hp) rfl ?_
  refine jE_callI (vs := [jR 20, jI (s + a)]) (r := [jI (Y c), jI (((X c) - (X a)) * ((Y b) - (Y a)))]) (nx := 33) (v := jI (Y a)) (hp1 := hp) rfl (pa.2.1 ▸ c_o_yAt_20 hp (s + a) (by omega) (by omega)) ?_
  refine jm_Ev.bl 3 (pc' := 36) (A' := [jR 20, jI (s + a), jI (s + c), jI (s + b)]) (st' := [jI (s + b), jR 20, jI ((Y c) - (Y a)), jI (((X c) - (X a)) * ((Y b) - (Y a)))]) (hp' := hp) rfl ?_
  refine jE_callI (vs := [jR 20, jI (s + b)]) (r := [jI ((Y c) - (Y a)), jI (((X c) - (X a)) * ((Y b) - (Y a)))]) (nx := 39) (v := jI (X b)) (hp1 := hp) rfl (pb.1 ▸ c_o_xAt_20 hp (s + b) (by omega) (by omega)) ?_
  refine jm_Ev.bl 2 (pc' := 41) (A' := [jR 20, jI (s + a), jI (s + c), jI (s + b)]) (st' := [jI (s + a), jR 20, jI (X b), jI ((Y c) - (Y a)), jI (((X c) - (X a)) * ((Y b) - (Y a)))]) (hp' := hp) rfl ?_
  refine jE_callI (vs := [jR 20, jI (s + a)]) (r := [jI (X b), jI ((Y c) - (Y a)), jI (((X c) - (X a)) * ((Y b) - (Y a)))]) (nx := 44) (v := jI (X a)) (hp1 := hp) rfl (pa.1 ▸ c_o_xAt_20 hp (s + a) (by omega) (by omega)) ?_
  refine jm_Ev.bl 3 (pc' := 47) (A' := [jR 20, jI (s + a), jI (s + c), jI (s + b)]) (st' := [jI ((((X c) - (X a)) * ((Y b) - (Y a))) - (((Y c) - (Y a)) * ((X b) - (X a))))]) (hp' := hp) rfl ?_
  exact jE_ret rfl ⟨rfl, rfl⟩
theorem c_o_pen_L_20 (hp : jm_H) (i s N : Int) (X Y L M : Int → Int) (hV : jVo_20 hp i s N X Y L M) (hW : jWy N X Y L M) (a b : Int) (ha : 0 ≤ a ∧ a < N) (hb : 0 ≤ b ∧ b < N) (hab : a ≠ b) (hc : jcan N X Y L M a b = true) : ∀ (m : Nat) (t : Int) (z1 z2 : jm_V), 1 ≤ t → t ≤ jstp2 N a b → jstp2 N a b - t < m → jm_Ev 74 91 [jR 20, jI i, jI a, jI b, jI s, jI N, jI (s + a), jI (s + b), jI (X b - X a), jI (Y b - Y a), jI (jsqd X Y a b), jI (jstp2 N a b), jI (jss N X Y a b (t - 1).toNat), jI t, z1, z2] [] hp (jK (some (jF (jfrac (jss N X Y a b (jstp2 N a b - 1).toNat) (jsqd X Y a b)).toNat)) hp) := by
  obtain ⟨es, eN, s0, s60, hi, hpt⟩ := id hV
  have hN := hW.1
  have hN6 := hW.2.1
  have sp := jspan_r hW ha.1 ha.2 hb.1 hb.2
  have sq := jsqd_r hW ha.1 ha.2 hb.1 hb.2
  have pa := hpt a ha.1 ha.2
  have pb := hpt b hb.1 hb.2
  have ra := hW.2.2 a ha.1 ha.2
  have rb := hW.2.2 b hb.1 hb.2
  have hst2 : 1 ≤ jstp2 N a b ∧ jstp2 N a b ≤ N := by unfold jstp2; split <;> omega
  have hcn := hc
  unfold jcan at hcn
  rw [Bool.and_eq_true, decide_eq_true_eq] at hcn
  obtain ⟨hsp, hcs⟩ := hcn
  have sq1 := sq.2.2.1 hsp
  have hsl : jstp2 N a b < N := by unfold jstp2; split <;> omega
  have sl := jss_le hW ha.1 ha.2 hb.1 hb.2 (jstp2 N a b - 1).toNat (by omega) hcs
  intro n
  induction n with
  | zero => intro t z1 z2 ht0 ht1 hm; omega
  | succ n ih =>
    intro t z1 z2 ht0 ht1 hm
    refine jm_Ev.bl 2 (pc' := 95) (A' := [jR 20, jI i, jI a, jI b, jI s, jI N, jI (s + a), jI (s + b), jI (X b - X a), jI (Y b - Y a), jI (jsqd X Y a b), jI (jstp2 N a b), jI (jss N X Y a b (t - 1).toNat), jI t, z1, z2]) (st' := [jI (jstp2 N a b), jI t]) (hp' := hp) rfl ?_
    refine jE_icmp_ge rfl (by omega) (by omega) (fun c95 => ?_) (fun c95 => ?_)
    · rw [show t = jstp2 N a b by omega]
      refine jm_Ev.bl 4 (pc' := 160) (A' := [jR 20, jI i, jI a, jI b, jI s, jI N, jI (s + a), jI (s + b), jI (X b - X a), jI (Y b - Y a), jI (jsqd X Y a b), jI (jstp2 N a b), jI (jss N X Y a b (jstp2 N a b - 1).toNat), jI (jstp2 N a b), z1, z2]) (st' := [jF ((FP.i2f (Int32.ofInt (jsqd X Y a b))).toNat), jF ((FP.i2f (Int32.ofInt (jss N X Y a b (jstp2 N a b - 1).toNat))).toNat)]) (hp' := hp) rfl ?_
      refine jE_f2 (i := .fdiv) (z := (jfrac (jss N X Y a b (jstp2 N a b - 1).toNat) (jsqd X Y a b)).toNat) rfl rfl (jdiv_frac (by omega) (by omega) (by omega) (by omega)) ?_
      exact jE_ret rfl ⟨rfl, rfl⟩
    · refine jm_Ev.bl 5 (pc' := 106) (A' := [jR 20, jI i, jI a, jI b, jI s, jI N, jI (s + a), jI (s + b), jI (X b - X a), jI (Y b - Y a), jI (jsqd X Y a b), jI (jstp2 N a b), jI (jss N X Y a b (t - 1).toNat), jI t, z1, z2]) (st' := [jI N, jI (a + t), jI s]) (hp' := hp) rfl ?_
      refine jE_icmp_ge rfl (by omega) (by omega) (fun c106 => ?_) (fun c106 => ?_)
      · refine jm_Ev.bl 7 (pc' := 126) (A' := [jR 20, jI i, jI a, jI b, jI s, jI N, jI (s + a), jI (s + b), jI (X b - X a), jI (Y b - Y a), jI (jsqd X Y a b), jI (jstp2 N a b), jI (jss N X Y a b (t - 1).toNat), jI t, jI (s + ((a + t) - N)), z2]) (st' := []) (hp' := hp) rfl ?_
        obtain ⟨kk, hkk⟩ : ∃ z, z = jwr N (a + t) := ⟨_, rfl⟩
        have hkr := jwr_r ha.1 ha.2 (show 0 ≤ t by omega) (show t < N by omega)
        rw [← hkk] at hkr
        have hss := jss_s (N := N) (X := X) (Y := Y) (i := a) (j := b) ht0
        rw [← hkk] at hss
        rw [show (s + ((a + t) - N)) = s + kk by rw [hkk]; unfold jwr; split <;> omega]
        refine jm_Ev.bl 4 (pc' := 133) (A' := [jR 20, jI i, jI a, jI b, jI s, jI N, jI (s + a), jI (s + b), jI (X b - X a), jI (Y b - Y a), jI (jsqd X Y a b), jI (jstp2 N a b), jI (jss N X Y a b (t - 1).toNat), jI t, jI (s + kk), z2]) (st' := [jI (s + b), jI (s + kk), jI (s + a), jR 20]) (hp' := hp) rfl ?_
        refine jE_callI (vs := [jR 20, jI (s + a), jI (s + kk), jI (s + b)]) (r := []) (nx := 136) (v := jI (jfar X Y a kk b)) (hp1 := hp) rfl (c_o_beside_20 hp i s N X Y L M hV hW a b ha hb kk hkr) ?_
        refine jm_Ev.bl 7 (pc' := 148) (A' := [jR 20, jI i, jI a, jI b, jI s, jI N, jI (s + a), jI (s + b), jI (X b - X a), jI (Y b - Y a), jI (jsqd X Y a b), jI (jstp2 N a b), jI ((jss N X Y a b (t - 1).toNat) + ((jfar X Y a kk b) * (jfar X Y a kk b))), jI t, jI (s + kk), jI (jfar X Y a kk b)]) (st' := []) (hp' := hp) rfl ?_
        rw [← hss]
        refine jm_Ev.bl 2 (pc' := 91) (A' := [jR 20, jI i, jI a, jI b, jI s, jI N, jI (s + a), jI (s + b), jI (X b - X a), jI (Y b - Y a), jI (jsqd X Y a b), jI (jstp2 N a b), jI (jss N X Y a b t.toNat), jI (t + 1), jI (s + kk), jI (jfar X Y a kk b)]) (st' := []) (hp' := hp) rfl ?_
        have u := ih (t + 1) (jI (s + kk)) (jI (jfar X Y a kk b)) (by omega) (by omega) (by omega)
        rw [show t + 1 - 1 = t by omega] at u
        exact u
      · refine jm_Ev.bl 6 (pc' := 126) (A' := [jR 20, jI i, jI a, jI b, jI s, jI N, jI (s + a), jI (s + b), jI (X b - X a), jI (Y b - Y a), jI (jsqd X Y a b), jI (jstp2 N a b), jI (jss N X Y a b (t - 1).toNat), jI t, jI (s + (a + t)), z2]) (st' := []) (hp' := hp) rfl ?_
        obtain ⟨kk, hkk⟩ : ∃ z, z = jwr N (a + t) := ⟨_, rfl⟩
        have hkr := jwr_r ha.1 ha.2 (show 0 ≤ t by omega) (show t < N by omega)
        rw [← hkk] at hkr
        have hss := jss_s (N := N) (X := X) (Y := Y) (i := a) (j := b) ht0
        rw [← hkk] at hss
        rw [show (s + (a + t)) = s + kk by rw [hkk]; unfold jwr; split <;> omega]
        refine jm_Ev.bl 4 (pc' := 133) (A' := [jR 20, jI i, jI a, jI b, jI s, jI N, jI (s + a), jI (s + b), jI (X b - X a), jI (Y b - Y a), jI (jsqd X Y a b), jI (jstp2 N a b), jI (jss N X Y a b (t - 1).toNat), jI t, jI (s + kk), z2]) (st' := [jI (s + b), jI (s + kk), jI (s + a), jR 20]) (hp' := hp) rfl ?_
        refine jE_callI (vs := [jR 20, jI (s + a), jI (s + kk), jI (s + b)]) (r := []) (nx := 136) (v := jI (jfar X Y a kk b)) (hp1 := hp) rfl (c_o_beside_20 hp i s N X Y L M hV hW a b ha hb kk hkr) ?_
        refine jm_Ev.bl 7 (pc' := 148) (A' := [jR 20, jI i, jI a, jI b, jI s, jI N, jI (s + a), jI (s + b), jI (X b - X a), jI (Y b - Y a), jI (jsqd X Y a b), jI (jstp2 N a b), jI ((jss N X Y a b (t - 1).toNat) + ((jfar X Y a kk b) * (jfar X Y a kk b))), jI t, jI (s + kk), jI (jfar X Y a kk b)]) (st' := []) (hp' := hp) rfl ?_
        rw [← hss]
        refine jm_Ev.bl 2 (pc' := 91) (A' := [jR 20, jI i, jI a, jI b, jI s, jI N, jI (s + a), jI (s + b), jI (X b - X a), jI (Y b - Y a), jI (jsqd X Y a b), jI (jstp2 N a b), jI (jss N X Y a b t.toNat), jI (t + 1), jI (s + kk), jI (jfar X Y a kk b)]) (st' := []) (hp' := hp) rfl ?_
        have u := ih (t + 1) (jI (s + kk)) (jI (jfar X Y a kk b)) (by omega) (by omega) (by omega)
        rw [show t + 1 - 1 = t by omega] at u
        exact u
theorem c_o_penaltyOf_20 (hp : jm_H) (i s N : Int) (X Y L M : Int → Int) (hV : jVo_20 hp i s N X Y L M) (hW : jWy N X Y L M) (a b : Int) (ha : 0 ≤ a ∧ a < N) (hb : 0 ≤ b ∧ b < N) (hab : a ≠ b) (hc : jcan N X Y L M a b = true) : jm_Ev 74 0 [jR 20, jI i, jI a, jI b, jU, jU, jU, jU, jU, jU, jU, jU, jU, jU, jU, jU] [] hp (jK (some (jF (jfrac (jss N X Y a b (jstp2 N a b - 1).toNat) (jsqd X Y a b)).toNat)) hp) := by
  obtain ⟨es, eN, s0, s60, hi, hpt⟩ := id hV
  have hN := hW.1
  have hN6 := hW.2.1
  have sp := jspan_r hW ha.1 ha.2 hb.1 hb.2
  have sq := jsqd_r hW ha.1 ha.2 hb.1 hb.2
  have pa := hpt a ha.1 ha.2
  have pb := hpt b hb.1 hb.2
  have ra := hW.2.2 a ha.1 ha.2
  have rb := hW.2.2 b hb.1 hb.2
  have hst2 : 1 ≤ jstp2 N a b ∧ jstp2 N a b ≤ N := by unfold jstp2; split <;> omega
  have hcn := hc
  unfold jcan at hcn
  rw [Bool.and_eq_true, decide_eq_true_eq] at hcn
  obtain ⟨hsp, hcs⟩ := hcn
  have sq1 := sq.2.2.1 hsp
  have hsl : jstp2 N a b < N := by unfold jstp2; split <;> omega
  have sl := jss_le hW ha.1 ha.2 hb.1 hb.2 (jstp2 N a b - 1).toNat (by omega) hcs
  refine jm_Ev.bl 2 (pc' := 2) (A' := [jR 20, jI i, jI a, jI b, jU, jU, jU, jU, jU, jU, jU, jU, jU, jU, jU, jU]) (st' := [jI i, jR 20]) (hp' := hp) rfl ?_
  refine jE_callI (vs := [jR 20, jI i]) (r := []) (nx := 5) (v := jI s) (hp1 := hp) rfl (es ▸ c_o_startOf_20 hp i (by omega) (by omega)) ?_
  refine jm_Ev.bl 3 (pc' := 9) (A' := [jR 20, jI i, jI a, jI b, jI s, jU, jU, jU, jU, jU, jU, jU, jU, jU, jU, jU]) (st' := [jI i, jR 20]) (hp' := hp) rfl ?_
  refine jE_callI (vs := [jR 20, jI i]) (r := []) (nx := 12) (v := jI N) (hp1 := hp) rfl (eN ▸ c_o_len_20 hp (by omega) i (by omega) (by omega)) ?_
  refine jm_Ev.bl 11 (pc' := 29) (A' := [jR 20, jI i, jI a, jI b, jI s, jI N, jI (s + a), jI (s + b), jU, jU, jU, jU, jU, jU, jU, jU]) (st' := [jI (s + b), jR 20]) (hp' := hp) rfl ?_
  refine jE_callI (vs := [jR 20, jI (s + b)]) (r := []) (nx := 32) (v := jI (X b)) (hp1 := hp) rfl (pb.1 ▸ c_o_xAt_20 hp (s + b) (by omega) (by omega)) ?_
  refine jm_Ev.bl 2 (pc' := 35) (A' := [jR 20, jI i, jI a, jI b, jI s, jI N, jI (s + a), jI (s + b), jU, jU, jU, jU, jU, jU, jU, jU]) (st' := [jI (s + a), jR 20, jI (X b)]) (hp' := hp) rfl ?_
  refine jE_callI (vs := [jR 20, jI (s + a)]) (r := [jI (X b)]) (nx := 38) (v := jI (X a)) (hp1 := hp) rfl (pa.1 ▸ c_o_xAt_20 hp (s + a) (by omega) (by omega)) ?_
  refine jm_Ev.bl 4 (pc' := 44) (A' := [jR 20, jI i, jI a, jI b, jI s, jI N, jI (s + a), jI (s + b), jI ((X b) - (X a)), jU, jU, jU, jU, jU, jU, jU]) (st' := [jI (s + b), jR 20]) (hp' := hp) rfl ?_
  refine jE_callI (vs := [jR 20, jI (s + b)]) (r := []) (nx := 47) (v := jI (Y b)) (hp1 := hp) rfl (pb.2.1 ▸ c_o_yAt_20 hp (s + b) (by omega) (by omega)) ?_
  refine jm_Ev.bl 2 (pc' := 50) (A' := [jR 20, jI i, jI a, jI b, jI s, jI N, jI (s + a), jI (s + b), jI ((X b) - (X a)), jU, jU, jU, jU, jU, jU, jU]) (st' := [jI (s + a), jR 20, jI (Y b)]) (hp' := hp) rfl ?_
  refine jE_callI (vs := [jR 20, jI (s + a)]) (r := [jI (Y b)]) (nx := 53) (v := jI (Y a)) (hp1 := hp) rfl (pa.2.1 ▸ c_o_yAt_20 hp (s + a) (by omega) (by omega)) ?_
  refine jm_Ev.bl 10 (pc' := 69) (A' := [jR 20, jI i, jI a, jI b, jI s, jI N, jI (s + a), jI (s + b), jI ((X b) - (X a)), jI ((Y b) - (Y a)), jI ((((X b) - (X a)) * ((X b) - (X a))) + (((Y b) - (Y a)) * ((Y b) - (Y a)))), jU, jU, jU, jU, jU]) (st' := []) (hp' := hp) rfl ?_
  rw [show ((((X b) - (X a)) * ((X b) - (X a))) + (((Y b) - (Y a)) * ((Y b) - (Y a)))) = jsqd X Y a b from rfl]
  refine jm_Ev.bl 1 (pc' := 71) (A' := [jR 20, jI i, jI a, jI b, jI s, jI N, jI (s + a), jI (s + b), jI ((X b) - (X a)), jI ((Y b) - (Y a)), jI (jsqd X Y a b), jU, jU, jU, jU, jU]) (st' := [jI (jsqd X Y a b)]) (hp' := hp) rfl ?_
  refine jE_if_ne rfl (by omega) (fun c71 => ?_) (fun c71 => ?_)
  · refine jm_Ev.bl 3 (pc' := 80) (A' := [jR 20, jI i, jI a, jI b, jI s, jI N, jI (s + a), jI (s + b), jI ((X b) - (X a)), jI ((Y b) - (Y a)), jI (jsqd X Y a b), jU, jU, jU, jU, jU]) (st' := [jI N, jI b, jI a]) (hp' := hp) rfl ?_
    refine jE_callI (vs := [jI a, jI b, jI N]) (r := []) (nx := 83) (v := jI (jstp2 N a b)) (hp1 := hp) rfl (c_o_steps hp a b N (by omega) (by omega)) ?_
    refine jm_Ev.bl 5 (pc' := 91) (A' := [jR 20, jI i, jI a, jI b, jI s, jI N, jI (s + a), jI (s + b), jI ((X b) - (X a)), jI ((Y b) - (Y a)), jI (jsqd X Y a b), jI (jstp2 N a b), jI 0, jI 1, jU, jU]) (st' := []) (hp' := hp) rfl ?_
    have u := c_o_pen_L_20 hp i s N X Y L M hV hW a b ha hb hab hc 61 1 jU jU (by omega) (by omega) (by omega)
    exact u
  · refine jm_Ev.bl 1 (pc' := 75) (A' := [jR 20, jI i, jI a, jI b, jI s, jI N, jI (s + a), jI (s + b), jI ((X b) - (X a)), jI ((Y b) - (Y a)), jI (jsqd X Y a b), jU, jU, jU, jU, jU]) (st' := [jF 0]) (hp' := hp) rfl ?_
    exact absurd c71 (by omega)
theorem c_o_beside_43 (hp : jm_H) (i s N : Int) (X Y L M : Int → Int) (hV : jVo_43 hp i s N X Y L M) (hW : jWy N X Y L M) (a b : Int) (ha : 0 ≤ a ∧ a < N) (hb : 0 ≤ b ∧ b < N) (c : Int) (hc : 0 ≤ c ∧ c < N) : jm_Ev 72 0 [jR 43, jI (s + a), jI (s + c), jI (s + b)] [] hp (jK (some (jI (jfar X Y a c b))) hp) := by
  obtain ⟨es, eN, s0, s60, hi, hpt⟩ := id hV
  have pa := hpt a ha.1 ha.2
  have pb := hpt b hb.1 hb.2
  have pc := hpt c hc.1 hc.2
  refine jm_Ev.bl 2 (pc' := 2) (A' := [jR 43, jI (s + a), jI (s + c), jI (s + b)]) (st' := [jI (s + c), jR 43]) (hp' := hp) rfl ?_
  refine jE_callI (vs := [jR 43, jI (s + c)]) (r := []) (nx := 5) (v := jI (X c)) (hp1 := hp) rfl (pc.1 ▸ c_o_xAt_43 hp (s + c) (by omega) (by omega)) ?_
  refine jm_Ev.bl 2 (pc' := 7) (A' := [jR 43, jI (s + a), jI (s + c), jI (s + b)]) (st' := [jI (s + a), jR 43, jI (X c)]) (hp' := hp) rfl ?_
  refine jE_callI (vs := [jR 43, jI (s + a)]) (r := [jI (X c)]) (nx := 10) (v := jI (X a)) (hp1 := hp) rfl (pa.1 ▸ c_o_xAt_43 hp (s + a) (by omega) (by omega)) ?_
  refine jm_Ev.bl 3 (pc' := 13) (A' := [jR 43, jI (s + a), jI (s + c), jI (s + b)]) (st' := [jI (s + b), jR 43, jI ((X c) - (X a))]) (hp' := hp) rfl ?_
  refine jE_callI (vs := [jR 43, jI (s + b)]) (r := [jI ((X c) - (X a))]) (nx := 16) (v := jI (Y b)) (hp1 := hp) rfl (pb.2.1 ▸ c_o_yAt_43 hp (s + b) (by omega) (by omega)) ?_
  refine jm_Ev.bl 2 (pc' := 18) (A' := [jR 43, jI (s + a), jI (s + c), jI (s + b)]) (st' := [jI (s + a), jR 43, jI (Y b), jI ((X c) - (X a))]) (hp' := hp) rfl ?_
  refine jE_callI (vs := [jR 43, jI (s + a)]) (r := [jI (Y b), jI ((X c) - (X a))]) (nx := 21) (v := jI (Y a)) (hp1 := hp) rfl (pa.2.1 ▸ c_o_yAt_43 hp (s + a) (by omega) (by omega)) ?_
  refine jm_Ev.bl 4 (pc' := 25) (A' := [jR 43, jI (s + a), jI (s + c), jI (s + b)]) (st' := [jI (s + c), jR 43, jI (((X c) - (X a)) * ((Y b) - (Y a)))]) (hp' := hp) rfl ?_
  refine jE_callI (vs := [jR 43, jI (s + c)]) (r := [jI (((X c) - (X a)) * ((Y b) - (Y a)))]) (nx := 28) (v := jI (Y c)) (hp1 := hp) rfl (pc.2.1 ▸ c_o_yAt_43 hp (s + c) (by omega) (by omega)) ?_
  refine jm_Ev.bl 2 (pc' := 30) (A' := [jR 43, jI (s + a), jI (s + c), jI (s + b)]) (st' := [jI (s + a), jR 43, jI (Y c), jI (((X c) - (X a)) * ((Y b) - (Y a)))]) (hp' := hp) rfl ?_
  refine jE_callI (vs := [jR 43, jI (s + a)]) (r := [jI (Y c), jI (((X c) - (X a)) * ((Y b) - (Y a)))]) (nx := 33) (v := jI (Y a)) (hp1 := hp) rfl (pa.2.1 ▸ c_o_yAt_43 hp (s + a) (by omega) (by omega)) ?_
  refine jm_Ev.bl 3 (pc' := 36) (A' := [jR 43, jI (s + a), jI (s + c), jI (s + b)]) (st' := [jI (s + b), jR 43, jI ((Y c) - (Y a)), jI (((X c) - (X a)) * ((Y b) - (Y a)))]) (hp' := hp) rfl ?_
  refine jE_callI (vs := [jR 43, jI (s + b)]) (r := [jI ((Y c) - (Y a)), jI (((X c) - (X a)) * ((Y b) - (Y a)))]) (nx := 39) (v := jI (X b)) (hp1 := hp) rfl (pb.1 ▸ c_o_xAt_43 hp (s + b) (by omega) (by omega)) ?_
  refine jm_Ev.bl 2 (pc' := 41) (A' := [jR 43, jI (s + a), jI (s + c), jI (s + b)]) (st' := [jI (s + a), jR 43, jI (X b), jI ((Y c) - (Y a)), jI (((X c) - (X a)) * ((Y b) - (Y a)))]) (hp' := hp) rfl ?_
  refine jE_callI (vs := [jR 43, jI (s + a)]) (r := [jI (X b), jI ((Y c) - (Y a)), jI (((X c) - (X a)) * ((Y b) - (Y a)))]) (nx := 44) (v := jI (X a)) (hp1 := hp) rfl (pa.1 ▸ c_o_xAt_43 hp (s + a) (by omega) (by omega)) ?_
  refine jm_Ev.bl 3 (pc' := 47) (A' := [jR 43, jI (s + a), jI (s + c), jI (s + b)]) (st' := [jI ((((X c) - (X a)) * ((Y b) - (Y a))) - (((Y c) - (Y a)) * ((X b) - (X a))))]) (hp' := hp) rfl ?_
  exact jE_ret rfl ⟨rfl, rfl⟩
theorem c_o_pen_L_43 (hp : jm_H) (i s N : Int) (X Y L M : Int → Int) (hV : jVo_43 hp i s N X Y L M) (hW : jWy N X Y L M) (a b : Int) (ha : 0 ≤ a ∧ a < N) (hb : 0 ≤ b ∧ b < N) (hab : a ≠ b) (hc : jcan N X Y L M a b = true) : ∀ (m : Nat) (t : Int) (z1 z2 : jm_V), 1 ≤ t → t ≤ jstp2 N a b → jstp2 N a b - t < m → jm_Ev 74 91 [jR 43, jI i, jI a, jI b, jI s, jI N, jI (s + a), jI (s + b), jI (X b - X a), jI (Y b - Y a), jI (jsqd X Y a b), jI (jstp2 N a b), jI (jss N X Y a b (t - 1).toNat), jI t, z1, z2] [] hp (jK (some (jF (jfrac (jss N X Y a b (jstp2 N a b - 1).toNat) (jsqd X Y a b)).toNat)) hp) := by
  obtain ⟨es, eN, s0, s60, hi, hpt⟩ := id hV
  have hN := hW.1
  have hN6 := hW.2.1
  have sp := jspan_r hW ha.1 ha.2 hb.1 hb.2
  have sq := jsqd_r hW ha.1 ha.2 hb.1 hb.2
  have pa := hpt a ha.1 ha.2
  have pb := hpt b hb.1 hb.2
  have ra := hW.2.2 a ha.1 ha.2
  have rb := hW.2.2 b hb.1 hb.2
  have hst2 : 1 ≤ jstp2 N a b ∧ jstp2 N a b ≤ N := by unfold jstp2; split <;> omega
  have hcn := hc
  unfold jcan at hcn
  rw [Bool.and_eq_true, decide_eq_true_eq] at hcn
  obtain ⟨hsp, hcs⟩ := hcn
  have sq1 := sq.2.2.1 hsp
  have hsl : jstp2 N a b < N := by unfold jstp2; split <;> omega
  have sl := jss_le hW ha.1 ha.2 hb.1 hb.2 (jstp2 N a b - 1).toNat (by omega) hcs
  intro n
  induction n with
  | zero => intro t z1 z2 ht0 ht1 hm; omega
  | succ n ih =>
    intro t z1 z2 ht0 ht1 hm
    refine jm_Ev.bl 2 (pc' := 95) (A' := [jR 43, jI i, jI a, jI b, jI s, jI N, jI (s + a), jI (s + b), jI (X b - X a), jI (Y b - Y a), jI (jsqd X Y a b), jI (jstp2 N a b), jI (jss N X Y a b (t - 1).toNat), jI t, z1, z2]) (st' := [jI (jstp2 N a b), jI t]) (hp' := hp) rfl ?_
    refine jE_icmp_ge rfl (by omega) (by omega) (fun c95 => ?_) (fun c95 => ?_)
    · rw [show t = jstp2 N a b by omega]
      refine jm_Ev.bl 4 (pc' := 160) (A' := [jR 43, jI i, jI a, jI b, jI s, jI N, jI (s + a), jI (s + b), jI (X b - X a), jI (Y b - Y a), jI (jsqd X Y a b), jI (jstp2 N a b), jI (jss N X Y a b (jstp2 N a b - 1).toNat), jI (jstp2 N a b), z1, z2]) (st' := [jF ((FP.i2f (Int32.ofInt (jsqd X Y a b))).toNat), jF ((FP.i2f (Int32.ofInt (jss N X Y a b (jstp2 N a b - 1).toNat))).toNat)]) (hp' := hp) rfl ?_
      refine jE_f2 (i := .fdiv) (z := (jfrac (jss N X Y a b (jstp2 N a b - 1).toNat) (jsqd X Y a b)).toNat) rfl rfl (jdiv_frac (by omega) (by omega) (by omega) (by omega)) ?_
      exact jE_ret rfl ⟨rfl, rfl⟩
    · refine jm_Ev.bl 5 (pc' := 106) (A' := [jR 43, jI i, jI a, jI b, jI s, jI N, jI (s + a), jI (s + b), jI (X b - X a), jI (Y b - Y a), jI (jsqd X Y a b), jI (jstp2 N a b), jI (jss N X Y a b (t - 1).toNat), jI t, z1, z2]) (st' := [jI N, jI (a + t), jI s]) (hp' := hp) rfl ?_
      refine jE_icmp_ge rfl (by omega) (by omega) (fun c106 => ?_) (fun c106 => ?_)
      · refine jm_Ev.bl 7 (pc' := 126) (A' := [jR 43, jI i, jI a, jI b, jI s, jI N, jI (s + a), jI (s + b), jI (X b - X a), jI (Y b - Y a), jI (jsqd X Y a b), jI (jstp2 N a b), jI (jss N X Y a b (t - 1).toNat), jI t, jI (s + ((a + t) - N)), z2]) (st' := []) (hp' := hp) rfl ?_
        obtain ⟨kk, hkk⟩ : ∃ z, z = jwr N (a + t) := ⟨_, rfl⟩
        have hkr := jwr_r ha.1 ha.2 (show 0 ≤ t by omega) (show t < N by omega)
        rw [← hkk] at hkr
        have hss := jss_s (N := N) (X := X) (Y := Y) (i := a) (j := b) ht0
        rw [← hkk] at hss
        rw [show (s + ((a + t) - N)) = s + kk by rw [hkk]; unfold jwr; split <;> omega]
        refine jm_Ev.bl 4 (pc' := 133) (A' := [jR 43, jI i, jI a, jI b, jI s, jI N, jI (s + a), jI (s + b), jI (X b - X a), jI (Y b - Y a), jI (jsqd X Y a b), jI (jstp2 N a b), jI (jss N X Y a b (t - 1).toNat), jI t, jI (s + kk), z2]) (st' := [jI (s + b), jI (s + kk), jI (s + a), jR 43]) (hp' := hp) rfl ?_
        refine jE_callI (vs := [jR 43, jI (s + a), jI (s + kk), jI (s + b)]) (r := []) (nx := 136) (v := jI (jfar X Y a kk b)) (hp1 := hp) rfl (c_o_beside_43 hp i s N X Y L M hV hW a b ha hb kk hkr) ?_
        refine jm_Ev.bl 7 (pc' := 148) (A' := [jR 43, jI i, jI a, jI b, jI s, jI N, jI (s + a), jI (s + b), jI (X b - X a), jI (Y b - Y a), jI (jsqd X Y a b), jI (jstp2 N a b), jI ((jss N X Y a b (t - 1).toNat) + ((jfar X Y a kk b) * (jfar X Y a kk b))), jI t, jI (s + kk), jI (jfar X Y a kk b)]) (st' := []) (hp' := hp) rfl ?_
        rw [← hss]
        refine jm_Ev.bl 2 (pc' := 91) (A' := [jR 43, jI i, jI a, jI b, jI s, jI N, jI (s + a), jI (s + b), jI (X b - X a), jI (Y b - Y a), jI (jsqd X Y a b), jI (jstp2 N a b), jI (jss N X Y a b t.toNat), jI (t + 1), jI (s + kk), jI (jfar X Y a kk b)]) (st' := []) (hp' := hp) rfl ?_
        have u := ih (t + 1) (jI (s + kk)) (jI (jfar X Y a kk b)) (by omega) (by omega) (by omega)
        rw [show t + 1 - 1 = t by omega] at u
        exact u
      · refine jm_Ev.bl 6 (pc' := 126) (A' := [jR 43, jI i, jI a, jI b, jI s, jI N, jI (s + a), jI (s + b), jI (X b - X a), jI (Y b - Y a), jI (jsqd X Y a b), jI (jstp2 N a b), jI (jss N X Y a b (t - 1).toNat), jI t, jI (s + (a + t)), z2]) (st' := []) (hp' := hp) rfl ?_
        obtain ⟨kk, hkk⟩ : ∃ z, z = jwr N (a + t) := ⟨_, rfl⟩
        have hkr := jwr_r ha.1 ha.2 (show 0 ≤ t by omega) (show t < N by omega)
        rw [← hkk] at hkr
        have hss := jss_s (N := N) (X := X) (Y := Y) (i := a) (j := b) ht0
        rw [← hkk] at hss
        rw [show (s + (a + t)) = s + kk by rw [hkk]; unfold jwr; split <;> omega]
        refine jm_Ev.bl 4 (pc' := 133) (A' := [jR 43, jI i, jI a, jI b, jI s, jI N, jI (s + a), jI (s + b), jI (X b - X a), jI (Y b - Y a), jI (jsqd X Y a b), jI (jstp2 N a b), jI (jss N X Y a b (t - 1).toNat), jI t, jI (s + kk), z2]) (st' := [jI (s + b), jI (s + kk), jI (s + a), jR 43]) (hp' := hp) rfl ?_
        refine jE_callI (vs := [jR 43, jI (s + a), jI (s + kk), jI (s + b)]) (r := []) (nx := 136) (v := jI (jfar X Y a kk b)) (hp1 := hp) rfl (c_o_beside_43 hp i s N X Y L M hV hW a b ha hb kk hkr) ?_
        refine jm_Ev.bl 7 (pc' := 148) (A' := [jR 43, jI i, jI a, jI b, jI s, jI N, jI (s + a), jI (s + b), jI (X b - X a), jI (Y b - Y a), jI (jsqd X Y a b), jI (jstp2 N a b), jI ((jss N X Y a b (t - 1).toNat) + ((jfar X Y a kk b) * (jfar X Y a kk b))), jI t, jI (s + kk), jI (jfar X Y a kk b)]) (st' := []) (hp' := hp) rfl ?_
        rw [← hss]
        refine jm_Ev.bl 2 (pc' := 91) (A' := [jR 43, jI i, jI a, jI b, jI s, jI N, jI (s + a), jI (s + b), jI (X b - X a), jI (Y b - Y a), jI (jsqd X Y a b), jI (jstp2 N a b), jI (jss N X Y a b t.toNat), jI (t + 1), jI (s + kk), jI (jfar X Y a kk b)]) (st' := []) (hp' := hp) rfl ?_
        have u := ih (t + 1) (jI (s + kk)) (jI (jfar X Y a kk b)) (by omega) (by omega) (by omega)
        rw [show t + 1 - 1 = t by omega] at u
        exact u
theorem c_o_penaltyOf_43 (hp : jm_H) (i s N : Int) (X Y L M : Int → Int) (hV : jVo_43 hp i s N X Y L M) (hW : jWy N X Y L M) (a b : Int) (ha : 0 ≤ a ∧ a < N) (hb : 0 ≤ b ∧ b < N) (hab : a ≠ b) (hc : jcan N X Y L M a b = true) : jm_Ev 74 0 [jR 43, jI i, jI a, jI b, jU, jU, jU, jU, jU, jU, jU, jU, jU, jU, jU, jU] [] hp (jK (some (jF (jfrac (jss N X Y a b (jstp2 N a b - 1).toNat) (jsqd X Y a b)).toNat)) hp) := by
  obtain ⟨es, eN, s0, s60, hi, hpt⟩ := id hV
  have hN := hW.1
  have hN6 := hW.2.1
  have sp := jspan_r hW ha.1 ha.2 hb.1 hb.2
  have sq := jsqd_r hW ha.1 ha.2 hb.1 hb.2
  have pa := hpt a ha.1 ha.2
  have pb := hpt b hb.1 hb.2
  have ra := hW.2.2 a ha.1 ha.2
  have rb := hW.2.2 b hb.1 hb.2
  have hst2 : 1 ≤ jstp2 N a b ∧ jstp2 N a b ≤ N := by unfold jstp2; split <;> omega
  have hcn := hc
  unfold jcan at hcn
  rw [Bool.and_eq_true, decide_eq_true_eq] at hcn
  obtain ⟨hsp, hcs⟩ := hcn
  have sq1 := sq.2.2.1 hsp
  have hsl : jstp2 N a b < N := by unfold jstp2; split <;> omega
  have sl := jss_le hW ha.1 ha.2 hb.1 hb.2 (jstp2 N a b - 1).toNat (by omega) hcs
  refine jm_Ev.bl 2 (pc' := 2) (A' := [jR 43, jI i, jI a, jI b, jU, jU, jU, jU, jU, jU, jU, jU, jU, jU, jU, jU]) (st' := [jI i, jR 43]) (hp' := hp) rfl ?_
  refine jE_callI (vs := [jR 43, jI i]) (r := []) (nx := 5) (v := jI s) (hp1 := hp) rfl (es ▸ c_o_startOf_43 hp i (by omega) (by omega)) ?_
  refine jm_Ev.bl 3 (pc' := 9) (A' := [jR 43, jI i, jI a, jI b, jI s, jU, jU, jU, jU, jU, jU, jU, jU, jU, jU, jU]) (st' := [jI i, jR 43]) (hp' := hp) rfl ?_
  refine jE_callI (vs := [jR 43, jI i]) (r := []) (nx := 12) (v := jI N) (hp1 := hp) rfl (eN ▸ c_o_len_43 hp (by omega) i (by omega) (by omega)) ?_
  refine jm_Ev.bl 11 (pc' := 29) (A' := [jR 43, jI i, jI a, jI b, jI s, jI N, jI (s + a), jI (s + b), jU, jU, jU, jU, jU, jU, jU, jU]) (st' := [jI (s + b), jR 43]) (hp' := hp) rfl ?_
  refine jE_callI (vs := [jR 43, jI (s + b)]) (r := []) (nx := 32) (v := jI (X b)) (hp1 := hp) rfl (pb.1 ▸ c_o_xAt_43 hp (s + b) (by omega) (by omega)) ?_
  refine jm_Ev.bl 2 (pc' := 35) (A' := [jR 43, jI i, jI a, jI b, jI s, jI N, jI (s + a), jI (s + b), jU, jU, jU, jU, jU, jU, jU, jU]) (st' := [jI (s + a), jR 43, jI (X b)]) (hp' := hp) rfl ?_
  refine jE_callI (vs := [jR 43, jI (s + a)]) (r := [jI (X b)]) (nx := 38) (v := jI (X a)) (hp1 := hp) rfl (pa.1 ▸ c_o_xAt_43 hp (s + a) (by omega) (by omega)) ?_
  refine jm_Ev.bl 4 (pc' := 44) (A' := [jR 43, jI i, jI a, jI b, jI s, jI N, jI (s + a), jI (s + b), jI ((X b) - (X a)), jU, jU, jU, jU, jU, jU, jU]) (st' := [jI (s + b), jR 43]) (hp' := hp) rfl ?_
  refine jE_callI (vs := [jR 43, jI (s + b)]) (r := []) (nx := 47) (v := jI (Y b)) (hp1 := hp) rfl (pb.2.1 ▸ c_o_yAt_43 hp (s + b) (by omega) (by omega)) ?_
  refine jm_Ev.bl 2 (pc' := 50) (A' := [jR 43, jI i, jI a, jI b, jI s, jI N, jI (s + a), jI (s + b), jI ((X b) - (X a)), jU, jU, jU, jU, jU, jU, jU]) (st' := [jI (s + a), jR 43, jI (Y b)]) (hp' := hp) rfl ?_
  refine jE_callI (vs := [jR 43, jI (s + a)]) (r := [jI (Y b)]) (nx := 53) (v := jI (Y a)) (hp1 := hp) rfl (pa.2.1 ▸ c_o_yAt_43 hp (s + a) (by omega) (by omega)) ?_
  refine jm_Ev.bl 10 (pc' := 69) (A' := [jR 43, jI i, jI a, jI b, jI s, jI N, jI (s + a), jI (s + b), jI ((X b) - (X a)), jI ((Y b) - (Y a)), jI ((((X b) - (X a)) * ((X b) - (X a))) + (((Y b) - (Y a)) * ((Y b) - (Y a)))), jU, jU, jU, jU, jU]) (st' := []) (hp' := hp) rfl ?_
  rw [show ((((X b) - (X a)) * ((X b) - (X a))) + (((Y b) - (Y a)) * ((Y b) - (Y a)))) = jsqd X Y a b from rfl]
  refine jm_Ev.bl 1 (pc' := 71) (A' := [jR 43, jI i, jI a, jI b, jI s, jI N, jI (s + a), jI (s + b), jI ((X b) - (X a)), jI ((Y b) - (Y a)), jI (jsqd X Y a b), jU, jU, jU, jU, jU]) (st' := [jI (jsqd X Y a b)]) (hp' := hp) rfl ?_
  refine jE_if_ne rfl (by omega) (fun c71 => ?_) (fun c71 => ?_)
  · refine jm_Ev.bl 3 (pc' := 80) (A' := [jR 43, jI i, jI a, jI b, jI s, jI N, jI (s + a), jI (s + b), jI ((X b) - (X a)), jI ((Y b) - (Y a)), jI (jsqd X Y a b), jU, jU, jU, jU, jU]) (st' := [jI N, jI b, jI a]) (hp' := hp) rfl ?_
    refine jE_callI (vs := [jI a, jI b, jI N]) (r := []) (nx := 83) (v := jI (jstp2 N a b)) (hp1 := hp) rfl (c_o_steps hp a b N (by omega) (by omega)) ?_
    refine jm_Ev.bl 5 (pc' := 91) (A' := [jR 43, jI i, jI a, jI b, jI s, jI N, jI (s + a), jI (s + b), jI ((X b) - (X a)), jI ((Y b) - (Y a)), jI (jsqd X Y a b), jI (jstp2 N a b), jI 0, jI 1, jU, jU]) (st' := []) (hp' := hp) rfl ?_
    have u := c_o_pen_L_43 hp i s N X Y L M hV hW a b ha hb hab hc 61 1 jU jU (by omega) (by omega) (by omega)
    exact u
  · refine jm_Ev.bl 1 (pc' := 75) (A' := [jR 43, jI i, jI a, jI b, jI s, jI N, jI (s + a), jI (s + b), jI ((X b) - (X a)), jI ((Y b) - (Y a)), jI (jsqd X Y a b), jU, jU, jU, jU, jU]) (st' := [jF 0]) (hp' := hp) rfl ?_
    exact absurd c71 (by omega)
