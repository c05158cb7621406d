/-! the model's bitsBetween -/
def jsqd (X Y : Int → Int) (i j : Int) : Int := (X j - X i) * (X j - X i) + (Y j - Y i) * (Y j - Y i)
/-- the bits of the penalty of two points, or -1 -/
def jpb (N : Int) (X Y L M : Int → Int) (i j : Int) : Int := if jcan N X Y L M i j = true then jfrac (jss N X Y i j (jstp2 N i j - 1).toNat) (jsqd X Y i j) else -1
theorem jsq5 {f : Int} (h0 : -5 ≤ f) (h1 : f ≤ 5) : 0 ≤ f * f ∧ f * f ≤ 25 := by
  have h : f.natAbs * f.natAbs ≤ 5 * 5 := Nat.mul_le_mul (by omega) (by omega)
  have e := Int.natAbs_mul_self' f
  have e2 : ((f.natAbs * f.natAbs : Nat) : Int) = (f.natAbs : Int) * (f.natAbs : Int) := Int.natCast_mul _ _
  omega
theorem jsqd_r {N : Int} {X Y L M : Int → Int} (h : jWy N X Y L M) {i j : Int} (i0 : 0 ≤ i) (i1 : i < N) (j0 : 0 ≤ j) (j1 : j < N) : 0 ≤ jsqd X Y i j ∧ jsqd X Y i j ≤ 50 ∧ (jspan X Y i j ≠ 0 → 1 ≤ jsqd X Y i j) ∧ (jsqd X Y i j = 0 → jspan X Y i j = 0) := by
  have a := h.2.2 i i0 i1
  have b := h.2.2 j j0 j1
  have m1 := jsq5 (f := X j - X i) (by omega) (by omega)
  have m2 := jsq5 (f := Y j - Y i) (by omega) (by omega)
  have n1 : X j - X i ≠ 0 → (X j - X i) * (X j - X i) ≠ 0 := fun z => Int.mul_ne_zero z z
  have n2 : Y j - Y i ≠ 0 → (Y j - Y i) * (Y j - Y i) ≠ 0 := fun z => Int.mul_ne_zero z z
  unfold jsqd jspan
  generalize (X j - X i) * (X j - X i) = p at *
  generalize (Y j - Y i) * (Y j - Y i) = q at *
  omega
theorem jok_far {N : Int} {X Y L M : Int → Int} (h : jWy N X Y L M) {i j k : Int} (i0 : 0 ≤ i) (i1 : i < N) (j0 : 0 ≤ j) (j1 : j < N) (k0 : 0 ≤ k) (k1 : k < N) (o : 2 * ((jfar X Y i k j).natAbs : Int) ≤ L k * jspan X Y i j) : 0 ≤ jfar X Y i k j * jfar X Y i k j ∧ jfar X Y i k j * jfar X Y i k j ≤ 25 := by
  have c := h.2.2 k k0 k1
  have sp := jspan_r h i0 i1 j0 j1
  have m : L k * jspan X Y i j ≤ 10 := by
    rcases (show L k = 0 ∨ L k = 1 ∨ L k = 2 by omega) with e | e | e <;> rw [e] <;> omega
  exact jsq5 (by omega) (by omega)
theorem jss_le {N : Int} {X Y L M : Int → Int} (h : jWy N X Y L M) {i j : Int} (i0 : 0 ≤ i) (i1 : i < N) (j0 : 0 ≤ j) (j1 : j < N) : ∀ n : Nat, (n : Int) < N → jcs N X Y L M i j n = true → 0 ≤ jss N X Y i j n ∧ jss N X Y i j n ≤ 25 * (n : Int) := by
  intro n
  induction n with
  | zero => intro _ _; unfold jss; omega
  | succ n ih =>
    intro hn hc
    unfold jcs at hc
    rw [Bool.and_eq_true, decide_eq_true_eq] at hc
    have a := ih (by omega) hc.1
    have r := jwr_r (N := N) i0 i1 (show (0 : Int) ≤ (n : Int) + 1 by omega) (by omega)
    have b := jok_far h i0 i1 j0 j1 r.1 r.2 hc.2.2
    unfold jss
    omega
theorem c_m_fraction2 (hp : jm_H) (a b : Int) (ha : 0 ≤ a) (ha2 : a ≤ 100000) (hb : 0 < b) (hb2 : b ≤ 100) : jm_Ev 158 0 [jL a, jU, jL b, jU, jU, jU, jU] [] hp (jK (some (jI (jfrac a b))) hp) := by
  obtain ⟨a, rfl⟩ := Int.eq_ofNat_of_zero_le ha
  obtain ⟨b, rfl⟩ := Int.eq_ofNat_of_zero_le (show 0 ≤ b by omega)
  exact c_m_fraction hp a b (by omega) (by omega) (by omega)
theorem jwr_mod {N a : Int} (h0 : 0 ≤ a) (h1 : a < N) : (a + 1) % N = jwr N (a + 1) := by
  unfold jwr
  split
  · exact Int.emod_eq_of_lt (by omega) (by omega)
  · rw [show a + 1 = N by omega, Int.emod_self]; omega
theorem jwr_s {N a t : Int} (h0 : 0 ≤ a) (h1 : a < N) (t0 : 0 ≤ t) (t1 : t < N) : (jwr N (a + t) + 1) % N = jwr N (a + (t + 1)) := by
  have r := jwr_r h0 h1 t0 t1
  rw [jwr_mod r.1 r.2]
  unfold jwr
  split <;> split <;> split <;> omega
theorem c_m_bits_L (hp : jm_H) (i s N : Int) (X Y L M : Int → Int) (hV : jVm hp i s N X Y L M) (hW : jWy N X Y L M) (a b : Int) (ha : 0 ≤ a ∧ a < N) (hb : 0 ≤ b ∧ b < N) (hab : a ≠ b) (hsp : jspan X Y a b ≠ 0) : ∀ (m : Nat) (t : Int) (z1 z2 : jm_V), 1 ≤ t → t ≤ jstp2 N a b → jcs N X Y L M a b (t - 1).toNat = true → jstp2 N a b - t < m → jm_Ev 157 89 [jR 56, jI i, jI a, jI b, jI s, jI N, jI (s + a), jI (s + b), jI ((X b - X a).natAbs : Int), jI ((Y b - Y a).natAbs : Int), jL (jss N X Y a b (t - 1).toNat), jU, jI (jwr N (a + t)), z1, z2] [] hp (jK (some (jI (jpb N X Y L M a b))) hp) := by
  obtain ⟨es, eN, s0, s60, hi, hpt⟩ := id hV
  have hN := hW.1
  have hN6 := hW.2.1
  have sp := jspan_r hW ha.1 ha.2 hb.1 hb.2
  have sq := jsqd_r hW ha.1 ha.2 hb.1 hb.2
  have pa := hpt a ha.1 ha.2
  have pb := hpt b hb.1 hb.2
  have ra := hW.2.2 a ha.1 ha.2
  have rb := hW.2.2 b hb.1 hb.2
  have hst2 : 1 ≤ jstp2 N a b ∧ jstp2 N a b < N := by unfold jstp2; split <;> omega
  intro n
  induction n with
  | zero => intro t z1 z2 ht0 ht1 hs hm; omega
  | succ n ih =>
    intro t z1 z2 ht0 ht1 hs hm
    have wrr := jwr_r ha.1 ha.2 (show 0 ≤ t by omega) (show t < N by omega)
    refine jm_Ev.bl 2 (pc' := 92) (A' := [jR 56, jI i, jI a, jI b, jI s, jI N, jI (s + a), jI (s + b), jI ((X b - X a).natAbs : Int), jI ((Y b - Y a).natAbs : Int), jL (jss N X Y a b (t - 1).toNat), jU, jI (jwr N (a + t)), z1, z2]) (st' := [jI b, jI (jwr N (a + t))]) (hp' := hp) rfl ?_
    refine jE_icmp_eq rfl (by omega) (by omega) (fun c92 => ?_) (fun c92 => ?_)
    · have hte : t = jstp2 N a b := by
        unfold jwr at c92
        unfold jstp2 at ht1 ⊢
        split at c92 <;> split at ht1 <;> omega
      have sl := jss_le hW ha.1 ha.2 hb.1 hb.2 (t - 1).toNat (by omega) hs
      have esq : ((X b - X a).natAbs : Int) * ((X b - X a).natAbs : Int) + ((Y b - Y a).natAbs : Int) * ((Y b - Y a).natAbs : Int) = jsqd X Y a b := by rw [Int.natAbs_mul_self', Int.natAbs_mul_self']; rfl
      have sq1 := sq.2.2.1 hsp
      refine jm_Ev.bl 8 (pc' := 195) (A' := [jR 56, jI i, jI a, jI b, jI s, jI N, jI (s + a), jI (s + b), jI ((X b - X a).natAbs : Int), jI ((Y b - Y a).natAbs : Int), jL (jss N X Y a b (t - 1).toNat), jU, jI (jwr N (a + t)), z1, z2]) (st' := [jI ((((X b - X a).natAbs : Int) * ((X b - X a).natAbs : Int)) + (((Y b - Y a).natAbs : Int) * ((Y b - Y a).natAbs : Int))), jL (jss N X Y a b (t - 1).toNat)]) (hp' := hp) rfl ?_
      rw [esq]
      refine jE_i2l rfl (by omega) ?_
      refine jE_callI (vs := [jL (jss N X Y a b (t - 1).toNat), jL (jsqd X Y a b)]) (r := []) (nx := 199) (v := jI (jfrac (jss N X Y a b (t - 1).toNat) (jsqd X Y a b))) (hp1 := hp) rfl (esq ▸ c_m_fraction2 hp (jss N X Y a b (t - 1).toNat) (jsqd X Y a b) (by omega) (by omega) (by omega) (by omega)) ?_
      exact jE_ret rfl ⟨jrI (by unfold jpb jcan; rw [decide_eq_true hsp, ← hte, hs, Bool.true_and, if_pos rfl]), rfl⟩
    · obtain ⟨kk, hkk⟩ : ∃ z, z = jwr N (a + t) := ⟨_, rfl⟩
      have ht2 : t < jstp2 N a b := by
        by_cases q : t = jstp2 N a b
        · exact absurd (show jwr N (a + t) = b by rw [q]; unfold jwr jstp2; split <;> split <;> omega) c92
        · omega
      have hkr := jwr_r ha.1 ha.2 (show 0 ≤ t by omega) (show t < N by omega)
      rw [← hkk] at hkr c92
      have pk := hpt kk hkr.1 hkr.2
      have rk := hW.2.2 kk hkr.1 hkr.2
      have fk := jfar_r hW ha.1 ha.2 hb.1 hb.2 hkr.1 hkr.2
      have lk := jm_mulb rk.2.2.1.1 rk.2.2.1.2 sp.1 sp.2
      have hst := jcs_s (N := N) (X := X) (Y := Y) (L := L) (M := M) (i := a) (j := b) ht0
      rw [hs, ← hkk] at hst
      have hss := jss_s (N := N) (X := X) (Y := Y) (i := a) (j := b) ht0
      rw [← hkk] at hss
      rw [← hkk]
      refine jm_Ev.bl 8 (pc' := 109) (A' := [jR 56, jI i, jI a, jI b, jI s, jI N, jI (s + a), jI (s + b), jI ((X b - X a).natAbs : Int), jI ((Y b - Y a).natAbs : Int), jL (jss N X Y a b (t - 1).toNat), jU, jI kk, jI (s + kk), z2]) (st' := [jI (s + kk), jI (s + b), jI (s + a), jR 56]) (hp' := hp) rfl ?_
      refine jE_callI (vs := [jR 56, jI (s + a), jI (s + b), jI (s + kk)]) (r := []) (nx := 112) (v := jI (jfar X Y a kk b)) (hp1 := hp) rfl (c_m_cross hp i s N X Y L M hV a b kk ha hb hkr) ?_
      refine jm_Ev.bl 4 (pc' := 120) (A' := [jR 56, jI i, jI a, jI b, jI s, jI N, jI (s + a), jI (s + b), jI ((X b - X a).natAbs : Int), jI ((Y b - Y a).natAbs : Int), jL (jss N X Y a b (t - 1).toNat), jU, jI kk, jI (s + kk), jI (jfar X Y a kk b)]) (st' := [jI (s + kk), jR 64]) (hp' := hp) rfl ?_
      refine jE_iald (n := 160) (f := hp 64) rfl rfl (by omega) ?_
      refine jE_top (w := (M kk)) (pk.2.2.2) ?_
      refine jm_Ev.bl 1 (pc' := 122) (A' := [jR 56, jI i, jI a, jI b, jI s, jI N, jI (s + a), jI (s + b), jI ((X b - X a).natAbs : Int), jI ((Y b - Y a).natAbs : Int), jL (jss N X Y a b (t - 1).toNat), jU, jI kk, jI (s + kk), jI (jfar X Y a kk b)]) (st' := [jI 1, jI (M kk)]) (hp' := hp) rfl ?_
      refine jE_icmp_eq rfl (by omega) (by omega) (fun c122 => ?_) (fun c122 => ?_)
      · refine jm_Ev.bl 1 (pc' := 158) (A' := [jR 56, jI i, jI a, jI b, jI s, jI N, jI (s + a), jI (s + b), jI ((X b - X a).natAbs : Int), jI ((Y b - Y a).natAbs : Int), jL (jss N X Y a b (t - 1).toNat), jU, jI kk, jI (s + kk), jI (jfar X Y a kk b)]) (st' := [jI (-1)]) (hp' := hp) rfl ?_
        have hf := hst.trans (show _ = false by rw [Bool.true_and]; exact decide_eq_false (fun z => by have z1 := z.1; have z2 := z.2; omega))
        exact jE_ret rfl ⟨jrI (by unfold jpb jcan; rw [jcs_mono (m := t.toNat) (by omega) hf, Bool.and_false, if_neg (by decide)]), rfl⟩
      · refine jm_Ev.bl 2 (pc' := 128) (A' := [jR 56, jI i, jI a, jI b, jI s, jI N, jI (s + a), jI (s + b), jI ((X b - X a).natAbs : Int), jI ((Y b - Y a).natAbs : Int), jL (jss N X Y a b (t - 1).toNat), jU, jI kk, jI (s + kk), jI (jfar X Y a kk b)]) (st' := [jI (jfar X Y a kk b), jI 2]) (hp' := hp) rfl ?_
        refine jE_callI (vs := [jI (jfar X Y a kk b)]) (r := [jI 2]) (nx := 131) (v := jI (((jfar X Y a kk b)).natAbs : Int)) (hp1 := hp) rfl (c_m_far hp (jfar X Y a kk b) (by omega)) ?_
        refine jm_Ev.bl 4 (pc' := 138) (A' := [jR 56, jI i, jI a, jI b, jI s, jI N, jI (s + a), jI (s + b), jI ((X b - X a).natAbs : Int), jI ((Y b - Y a).natAbs : Int), jL (jss N X Y a b (t - 1).toNat), jU, jI kk, jI (s + kk), jI (jfar X Y a kk b)]) (st' := [jI (s + kk), jR 63, jI (2 * (((jfar X Y a kk b)).natAbs : Int))]) (hp' := hp) rfl ?_
        refine jE_iald (n := 160) (f := hp 63) rfl rfl (by omega) ?_
        refine jE_top (w := (L kk)) (pk.2.2.1) ?_
        refine jm_Ev.bl 2 (pc' := 143) (A' := [jR 56, jI i, jI a, jI b, jI s, jI N, jI (s + a), jI (s + b), jI ((X b - X a).natAbs : Int), jI ((Y b - Y a).natAbs : Int), jL (jss N X Y a b (t - 1).toNat), jU, jI kk, jI (s + kk), jI (jfar X Y a kk b)]) (st' := [jI ((Y b - Y a).natAbs : Int), jI ((X b - X a).natAbs : Int), jI (L kk), jI (2 * (((jfar X Y a kk b)).natAbs : Int))]) (hp' := hp) rfl ?_
        refine jE_icmp_le rfl (by omega) (by omega) (fun c143 => ?_) (fun c143 => ?_)
        · refine jm_Ev.bl 1 (pc' := 153) (A' := [jR 56, jI i, jI a, jI b, jI s, jI N, jI (s + a), jI (s + b), jI ((X b - X a).natAbs : Int), jI ((Y b - Y a).natAbs : Int), jL (jss N X Y a b (t - 1).toNat), jU, jI kk, jI (s + kk), jI (jfar X Y a kk b)]) (st' := [jI ((Y b - Y a).natAbs : Int), jI (L kk), jI (2 * (((jfar X Y a kk b)).natAbs : Int))]) (hp' := hp) rfl ?_
          refine jE_top (w := (jspan X Y a b)) (by unfold jspan; omega) ?_
          refine jm_Ev.bl 1 (pc' := 154) (A' := [jR 56, jI i, jI a, jI b, jI s, jI N, jI (s + a), jI (s + b), jI ((X b - X a).natAbs : Int), jI ((Y b - Y a).natAbs : Int), jL (jss N X Y a b (t - 1).toNat), jU, jI kk, jI (s + kk), jI (jfar X Y a kk b)]) (st' := [jI ((L kk) * (jspan X Y a b)), jI (2 * (((jfar X Y a kk b)).natAbs : Int))]) (hp' := hp) rfl ?_
          refine jE_icmp_le rfl (by omega) (by omega) (fun c154 => ?_) (fun c154 => ?_)
          · have fq := jok_far hW ha.1 ha.2 hb.1 hb.2 hkr.1 hkr.2 (by omega)
            refine jm_Ev.bl 4 (pc' := 166) (A' := [jR 56, jI i, jI a, jI b, jI s, jI N, jI (s + a), jI (s + b), jI ((X b - X a).natAbs : Int), jI ((Y b - Y a).natAbs : Int), jL (jss N X Y a b (t - 1).toNat), jU, jI kk, jI (s + kk), jI (jfar X Y a kk b)]) (st' := [jI ((jfar X Y a kk b) * (jfar X Y a kk b)), jL (jss N X Y a b (t - 1).toNat)]) (hp' := hp) rfl ?_
            refine jE_i2l rfl (by omega) ?_
            refine jm_Ev.bl 2 (pc' := 170) (A' := [jR 56, jI i, jI a, jI b, jI s, jI N, jI (s + a), jI (s + b), jI ((X b - X a).natAbs : Int), jI ((Y b - Y a).natAbs : Int), jL ((jss N X Y a b (t - 1).toNat) + ((jfar X Y a kk b) * (jfar X Y a kk b))), jU, jI kk, jI (s + kk), jI (jfar X Y a kk b)]) (st' := []) (hp' := hp) rfl ?_
            rw [← hss]
            refine jm_Ev.bl 4 (pc' := 176) (A' := [jR 56, jI i, jI a, jI b, jI s, jI N, jI (s + a), jI (s + b), jI ((X b - X a).natAbs : Int), jI ((Y b - Y a).natAbs : Int), jL (jss N X Y a b t.toNat), jU, jI kk, jI (s + kk), jI (jfar X Y a kk b)]) (st' := [jI N, jI (kk + 1)]) (hp' := hp) rfl ?_
            refine jE_irem rfl (by omega) (by omega) ?_
            refine jE_top (w := (jwr N (a + (t + 1)))) (by rw [hkk]; exact jwr_s ha.1 ha.2 (by omega) (by omega)) ?_
            refine jm_Ev.bl 2 (pc' := 89) (A' := [jR 56, jI i, jI a, jI b, jI s, jI N, jI (s + a), jI (s + b), jI ((X b - X a).natAbs : Int), jI ((Y b - Y a).natAbs : Int), jL (jss N X Y a b t.toNat), jU, jI (jwr N (a + (t + 1))), jI (s + kk), jI (jfar X Y a kk b)]) (st' := []) (hp' := hp) rfl ?_
            have ht := hst.trans (show _ = true by rw [Bool.true_and]; exact decide_eq_true ⟨by omega, by omega⟩)
            have u := ih (t + 1) (jI (s + kk)) (jI (jfar X Y a kk b)) (by omega) (by omega) (by rw [show t + 1 - 1 = t by omega]; exact ht) (by omega)
            rw [show t + 1 - 1 = t by omega] at u
            exact u
          · refine jm_Ev.bl 1 (pc' := 158) (A' := [jR 56, jI i, jI a, jI b, jI s, jI N, jI (s + a), jI (s + b), jI ((X b - X a).natAbs : Int), jI ((Y b - Y a).natAbs : Int), jL (jss N X Y a b (t - 1).toNat), jU, jI kk, jI (s + kk), jI (jfar X Y a kk b)]) (st' := [jI (-1)]) (hp' := hp) rfl ?_
            have hf := hst.trans (show _ = false by rw [Bool.true_and]; exact decide_eq_false (fun z => by have z1 := z.1; have z2 := z.2; omega))
            exact jE_ret rfl ⟨jrI (by unfold jpb jcan; rw [jcs_mono (m := t.toNat) (by omega) hf, Bool.and_false, if_neg (by decide)]), rfl⟩
        · refine jm_Ev.bl 2 (pc' := 153) (A' := [jR 56, jI i, jI a, jI b, jI s, jI N, jI (s + a), jI (s + b), jI ((X b - X a).natAbs : Int), jI ((Y b - Y a).natAbs : Int), jL (jss N X Y a b (t - 1).toNat), jU, jI kk, jI (s + kk), jI (jfar X Y a kk b)]) (st' := [jI ((X b - X a).natAbs : Int), jI (L kk), jI (2 * (((jfar X Y a kk b)).natAbs : Int))]) (hp' := hp) rfl ?_
          refine jE_top (w := (jspan X Y a b)) (by unfold jspan; omega) ?_
          refine jm_Ev.bl 1 (pc' := 154) (A' := [jR 56, jI i, jI a, jI b, jI s, jI N, jI (s + a), jI (s + b), jI ((X b - X a).natAbs : Int), jI ((Y b - Y a).natAbs : Int), jL (jss N X Y a b (t - 1).toNat), jU, jI kk, jI (s + kk), jI (jfar X Y a kk b)]) (st' := [jI ((L kk) * (jspan X Y a b)), jI (2 * (((jfar X Y a kk b)).natAbs : Int))]) (hp' := hp) rfl ?_
          refine jE_icmp_le rfl (by omega) (by omega) (fun c154 => ?_) (fun c154 => ?_)
          · have fq := jok_far hW ha.1 ha.2 hb.1 hb.2 hkr.1 hkr.2 (by omega)
            refine jm_Ev.bl 4 (pc' := 166) (A' := [jR 56, jI i, jI a, jI b, jI s, jI N, jI (s + a), jI (s + b), jI ((X b - X a).natAbs : Int), jI ((Y b - Y a).natAbs : Int), jL (jss N X Y a b (t - 1).toNat), jU, jI kk, jI (s + kk), jI (jfar X Y a kk b)]) (st' := [jI ((jfar X Y a kk b) * (jfar X Y a kk b)), jL (jss N X Y a b (t - 1).toNat)]) (hp' := hp) rfl ?_
            refine jE_i2l rfl (by omega) ?_
            refine jm_Ev.bl 2 (pc' := 170) (A' := [jR 56, jI i, jI a, jI b, jI s, jI N, jI (s + a), jI (s + b), jI ((X b - X a).natAbs : Int), jI ((Y b - Y a).natAbs : Int), jL ((jss N X Y a b (t - 1).toNat) + ((jfar X Y a kk b) * (jfar X Y a kk b))), jU, jI kk, jI (s + kk), jI (jfar X Y a kk b)]) (st' := []) (hp' := hp) rfl ?_
            rw [← hss]
            refine jm_Ev.bl 4 (pc' := 176) (A' := [jR 56, jI i, jI a, jI b, jI s, jI N, jI (s + a), jI (s + b), jI ((X b - X a).natAbs : Int), jI ((Y b - Y a).natAbs : Int), jL (jss N X Y a b t.toNat), jU, jI kk, jI (s + kk), jI (jfar X Y a kk b)]) (st' := [jI N, jI (kk + 1)]) (hp' := hp) rfl ?_
            refine jE_irem rfl (by omega) (by omega) ?_
            refine jE_top (w := (jwr N (a + (t + 1)))) (by rw [hkk]; exact jwr_s ha.1 ha.2 (by omega) (by omega)) ?_
            refine jm_Ev.bl 2 (pc' := 89) (A' := [jR 56, jI i, jI a, jI b, jI s, jI N, jI (s + a), jI (s + b), jI ((X b - X a).natAbs : Int), jI ((Y b - Y a).natAbs : Int), jL (jss N X Y a b t.toNat), jU, jI (jwr N (a + (t + 1))), jI (s + kk), jI (jfar X Y a kk b)]) (st' := []) (hp' := hp) rfl ?_
            have ht := hst.trans (show _ = true by rw [Bool.true_and]; exact decide_eq_true ⟨by omega, by omega⟩)
            have u := ih (t + 1) (jI (s + kk)) (jI (jfar X Y a kk b)) (by omega) (by omega) (by rw [show t + 1 - 1 = t by omega]; exact ht) (by omega)
            rw [show t + 1 - 1 = t by omega] at u
            exact u
          · refine jm_Ev.bl 1 (pc' := 158) (A' := [jR 56, jI i, jI a, jI b, jI s, jI N, jI (s + a), jI (s + b), jI ((X b - X a).natAbs : Int), jI ((Y b - Y a).natAbs : Int), jL (jss N X Y a b (t - 1).toNat), jU, jI kk, jI (s + kk), jI (jfar X Y a kk b)]) (st' := [jI (-1)]) (hp' := hp) rfl ?_
            have hf := hst.trans (show _ = false by rw [Bool.true_and]; exact decide_eq_false (fun z => by have z1 := z.1; have z2 := z.2; omega))
            exact jE_ret rfl ⟨jrI (by unfold jpb jcan; rw [jcs_mono (m := t.toNat) (by omega) hf, Bool.and_false, if_neg (by decide)]), rfl⟩
theorem c_m_bits (hp : jm_H) (i s N : Int) (X Y L M : Int → Int) (hV : jVm hp i s N X Y L M) (hW : jWy N X Y L M) (a b : Int) (ha : 0 ≤ a ∧ a < N) (hb : 0 ≤ b ∧ b < N) (hab : a ≠ b) : jm_Ev 157 0 [jR 56, jI i, jI a, jI b, jU, jU, jU, jU, jU, jU, jU, jU, jU, jU, jU] [] hp (jK (some (jI (jpb N X Y L M a b))) hp) := by
  obtain ⟨es, eN, s0, s60, hi, hpt⟩ := id hV
  have hN := hW.1
  have hN6 := hW.2.1
  have sp := jspan_r hW ha.1 ha.2 hb.1 hb.2
  have sq := jsqd_r hW ha.1 ha.2 hb.1 hb.2
  have pa := hpt a ha.1 ha.2
  have pb := hpt b hb.1 hb.2
  have ra := hW.2.2 a ha.1 ha.2
  have rb := hW.2.2 b hb.1 hb.2
  have hst2 : 1 ≤ jstp2 N a b ∧ jstp2 N a b < N := by unfold jstp2; split <;> omega
  refine jm_Ev.bl 3 (pc' := 5) (A' := [jR 56, jI i, jI a, jI b, jU, jU, jU, jU, jU, jU, jU, jU, jU, jU, jU]) (st' := [jI i, jR 59]) (hp' := hp) rfl ?_
  refine jE_iald (n := 32) (f := hp 59) rfl rfl (by omega) ?_
  refine jE_top (w := s) (es) ?_
  refine jm_Ev.bl 4 (pc' := 13) (A' := [jR 56, jI i, jI a, jI b, jI s, jU, jU, jU, jU, jU, jU, jU, jU, jU, jU]) (st' := [jI i, jR 60]) (hp' := hp) rfl ?_
  refine jE_iald (n := 32) (f := hp 60) rfl rfl (by omega) ?_
  refine jE_top (w := N) (eN) ?_
  refine jm_Ev.bl 12 (pc' := 34) (A' := [jR 56, jI i, jI a, jI b, jI s, jI N, jI (s + a), jI (s + b), jU, jU, jU, jU, jU, jU, jU]) (st' := [jI (s + b), jR 61]) (hp' := hp) rfl ?_
  refine jE_iald (n := 160) (f := hp 61) rfl rfl (by omega) ?_
  refine jE_top (w := (X b)) (pb.1) ?_
  refine jm_Ev.bl 3 (pc' := 41) (A' := [jR 56, jI i, jI a, jI b, jI s, jI N, jI (s + a), jI (s + b), jU, jU, jU, jU, jU, jU, jU]) (st' := [jI (s + a), jR 61, jI (X b)]) (hp' := hp) rfl ?_
  refine jE_iald (n := 160) (f := hp 61) rfl rfl (by omega) ?_
  refine jE_top (w := (X a)) (pa.1) ?_
  refine jm_Ev.bl 1 (pc' := 43) (A' := [jR 56, jI i, jI a, jI b, jI s, jI N, jI (s + a), jI (s + b), jU, jU, jU, jU, jU, jU, jU]) (st' := [jI ((X b) - (X a))]) (hp' := hp) rfl ?_
  refine jE_callI (vs := [jI ((X b) - (X a))]) (r := []) (nx := 46) (v := jI ((((X b) - (X a))).natAbs : Int)) (hp1 := hp) rfl (c_m_far hp ((X b) - (X a)) (by omega)) ?_
  refine jm_Ev.bl 4 (pc' := 54) (A' := [jR 56, jI i, jI a, jI b, jI s, jI N, jI (s + a), jI (s + b), jI ((((X b) - (X a))).natAbs : Int), jU, jU, jU, jU, jU, jU]) (st' := [jI (s + b), jR 62]) (hp' := hp) rfl ?_
  refine jE_iald (n := 160) (f := hp 62) rfl rfl (by omega) ?_
  refine jE_top (w := (Y b)) (pb.2.1) ?_
  refine jm_Ev.bl 3 (pc' := 61) (A' := [jR 56, jI i, jI a, jI b, jI s, jI N, jI (s + a), jI (s + b), jI ((((X b) - (X a))).natAbs : Int), jU, jU, jU, jU, jU, jU]) (st' := [jI (s + a), jR 62, jI (Y b)]) (hp' := hp) rfl ?_
  refine jE_iald (n := 160) (f := hp 62) rfl rfl (by omega) ?_
  refine jE_top (w := (Y a)) (pa.2.1) ?_
  refine jm_Ev.bl 1 (pc' := 63) (A' := [jR 56, jI i, jI a, jI b, jI s, jI N, jI (s + a), jI (s + b), jI ((((X b) - (X a))).natAbs : Int), jU, jU, jU, jU, jU, jU]) (st' := [jI ((Y b) - (Y a))]) (hp' := hp) rfl ?_
  refine jE_callI (vs := [jI ((Y b) - (Y a))]) (r := []) (nx := 66) (v := jI ((((Y b) - (Y a))).natAbs : Int)) (hp1 := hp) rfl (c_m_far hp ((Y b) - (Y a)) (by omega)) ?_
  refine jm_Ev.bl 4 (pc' := 73) (A' := [jR 56, jI i, jI a, jI b, jI s, jI N, jI (s + a), jI (s + b), jI ((((X b) - (X a))).natAbs : Int), jI ((((Y b) - (Y a))).natAbs : Int), jU, jU, jU, jU, jU]) (st' := [jI (((((X b) - (X a))).natAbs : Int) + ((((Y b) - (Y a))).natAbs : Int))]) (hp' := hp) rfl ?_
  refine jE_if_ne rfl (by omega) (fun c73 => ?_) (fun c73 => ?_)
  · refine jm_Ev.bl 6 (pc' := 86) (A' := [jR 56, jI i, jI a, jI b, jI s, jI N, jI (s + a), jI (s + b), jI ((((X b) - (X a))).natAbs : Int), jI ((((Y b) - (Y a))).natAbs : Int), jL 0, jU, jU, jU, jU]) (st' := [jI N, jI (a + 1)]) (hp' := hp) rfl ?_
    refine jE_irem rfl (by omega) (by omega) ?_
    refine jE_top (w := (jwr N (a + 1))) (jwr_mod ha.1 ha.2) ?_
    refine jm_Ev.bl 1 (pc' := 89) (A' := [jR 56, jI i, jI a, jI b, jI s, jI N, jI (s + a), jI (s + b), jI ((((X b) - (X a))).natAbs : Int), jI ((((Y b) - (Y a))).natAbs : Int), jL 0, jU, jI (jwr N (a + 1)), jU, jU]) (st' := []) (hp' := hp) rfl ?_
    exact c_m_bits_L hp i s N X Y L M hV hW a b ha hb hab (by unfold jspan; omega) 61 1 _ _ (by omega) (by omega) rfl (by omega)
  · refine jm_Ev.bl 1 (pc' := 77) (A' := [jR 56, jI i, jI a, jI b, jI s, jI N, jI (s + a), jI (s + b), jI ((((X b) - (X a))).natAbs : Int), jI ((((Y b) - (Y a))).natAbs : Int), jU, jU, jU, jU, jU]) (st' := [jI (-1)]) (hp' := hp) rfl ?_
    exact jE_ret rfl ⟨jrI (by unfold jpb jcan; rw [decide_eq_false (fun z => z (by unfold jspan; omega)), Bool.false_and, if_neg (by decide)]), rfl⟩
