/-! the model's near, walked -/
theorem c_m_near_L {Q : Option jm_V → jm_H → Prop} (hp : jm_H) (V k : Nat) (p : Int) (mo : Bool) (h1 : 2 ^ (23 + k) ≤ V) (h2 : V < 2 ^ (24 + k)) (hk36 : k ≤ 36) (hq : -149 ≤ p + k) (hq2 : p + k ≤ 103) (k_ : jm_Ev 159 35 [jL (V : Int), jU, jI p, jI (jb mo), jL (V : Int), jU, jI (p + (k : Int)), jL ((2 ^ k : Nat) : Int), jU, jU, jU, jU, jU, jU, jU, jU] [] hp Q) : ∀ (n : Nat) (j : Nat), j ≤ k → k - j < n → jm_Ev 159 9 [jL (V : Int), jU, jI p, jI (jb mo), jL (V : Int), jU, jI (p + (j : Int)), jL ((2 ^ j : Nat) : Int), jU, jU, jU, jU, jU, jU, jU, jU] [] hp Q := by
  have hV : V < 2 ^ 60 := Nat.lt_of_lt_of_le h2 (Nat.pow_le_pow_right (by decide) (by omega))
  have e60 : (2 : Nat) ^ 60 = 1152921504606846976 := by decide
  rw [e60] at hV
  intro n
  induction n with
  | zero => intro j hj hn; omega
  | succ n ih =>
    intro j hj hn
    have hpj := jpow_le (j := j) (by omega)
    have hpd := jpow_div h1 h2 hj
    refine jm_Ev.bl 2 (pc' := 13) (A' := [jL (V : Int), jU, jI p, jI (jb mo), jL (V : Int), jU, jI (p + (j : Int)), jL ((2 ^ j : Nat) : Int), jU, jU, jU, jU, jU, jU, jU, jU]) (st' := [jL ((2 ^ j : Nat) : Int), jL (V : Int)]) (hp' := hp) rfl ?_
    refine jE_ldiv rfl (by omega) (by omega) ?_
    obtain ⟨D, hD⟩ : ∃ D : Int, D = (V : Int) / ((2 ^ j : Nat) : Int) := ⟨_, rfl⟩
    rw [← hD]
    rw [← Int.natCast_ediv] at hD
    have hD2 : 0 ≤ D ∧ D < 1152921504606846976 := by have := Nat.div_le_self V (2 ^ j); omega
    refine jm_Ev.bl 1 (pc' := 17) (A' := [jL (V : Int), jU, jI p, jI (jb mo), jL (V : Int), jU, jI (p + (j : Int)), jL ((2 ^ j : Nat) : Int), jU, jU, jU, jU, jU, jU, jU, jU]) (st' := [jL 16777216, jL D]) (hp' := hp) rfl ?_
    refine jE_lcmp rfl (by omega) (by omega) ?_
    refine jE_lc_lt rfl (fun c18 => ?_) (fun c18 => ?_)
    · have ej : j = k := by
        by_cases e : j = k
        · exact e
        · have := hpd.1 (by omega); omega
      subst ej
      exact k_
    · refine jm_Ev.bl 6 (pc' := 9) (A' := [jL (V : Int), jU, jI p, jI (jb mo), jL (V : Int), jU, jI ((p + (j : Int)) + 1), jL (((2 ^ j : Nat) : Int) * 2), jU, jU, jU, jU, jU, jU, jU, jU]) (st' := []) (hp' := hp) rfl ?_
      have ej : j < k := by
        by_cases e : j = k
        · have := hpd.2 e; omega
        · omega
      rw [show ((2 ^ j : Nat) : Int) * 2 = ((2 ^ (j + 1) : Nat) : Int) by rw [Nat.pow_succ]; push_cast; rfl, show p + (j : Int) + 1 = p + ((j + 1 : Nat) : Int) by push_cast; omega]
      exact ih (j + 1) (by omega) (by omega)
theorem c_m_near_T (hp : jm_H) (V k : Nat) (p H R W : Int) (mo : Bool) (hV : V < 1152921504606846976) (hH : 1 ≤ H ∧ H ≤ 1099511627776) (hR : R = (V : Int) % H) (hW : W = (V : Int) / H) (hR2 : 0 ≤ R ∧ R < H) (hW2 : 8388608 ≤ W ∧ W < 16777216) (hq : -149 ≤ p + k) (hq2 : p + k ≤ 103) (hk36 : k ≤ 36) : jm_Ev 159 35 [jL (V : Int), jU, jI p, jI (jb mo), jL (V : Int), jU, jI (p + (k : Int)), jL H, jU, jU, jU, jU, jU, jU, jU, jU] [] hp (jK (some (jI ((p + k + 150) * 8388608 + W + (if 1 < H ∧ (2 * R > H ∨ (2 * R = H ∧ (mo = true ∨ W % 2 = 1))) then 1 else 0) - 8388608))) hp) := by
  refine jm_Ev.bl 2 (pc' := 39) (A' := [jL (V : Int), jU, jI p, jI (jb mo), jL (V : Int), jU, jI (p + (k : Int)), jL H, jU, jU, jU, jU, jU, jU, jU, jU]) (st' := [jL H, jL (V : Int)]) (hp' := hp) rfl ?_
  refine jE_lrem rfl (by omega) (by omega) ?_
  rw [show (V : Int) % H = R from hR.symm]
  refine jm_Ev.bl 3 (pc' := 46) (A' := [jL (V : Int), jU, jI p, jI (jb mo), jL (V : Int), jU, jI (p + (k : Int)), jL H, jU, jL R, jU, jU, jU, jU, jU, jU]) (st' := [jL H, jL (V : Int)]) (hp' := hp) rfl ?_
  refine jE_ldiv rfl (by omega) (by omega) ?_
  rw [show (V : Int) / H = W from hW.symm]
  refine jm_Ev.bl 7 (pc' := 60) (A' := [jL (V : Int), jU, jI p, jI (jb mo), jL (V : Int), jU, jI (p + (k : Int)), jL H, jU, jL R, jU, jL W, jU, jL (2 * R), jU, jU]) (st' := [jL 1, jL H]) (hp' := hp) rfl ?_
  refine jE_lcmp rfl (by omega) (by omega) ?_
  refine jE_lc_le rfl (fun c61 => ?_) (fun c61 => ?_)
  · refine jm_Ev.bl 4 (pc' := 106) (A' := [jL (V : Int), jU, jI p, jI (jb mo), jL (V : Int), jU, jI (p + (k : Int)), jL H, jU, jL R, jU, jL W, jU, jL (2 * R), jU, jI 0]) (st' := [jI 0, jL W]) (hp' := hp) rfl ?_
    refine jE_if_eq rfl (by omega) (fun _ => ?_) (fun c106 => absurd c106 (by omega))
    refine jm_Ev.bl 5 (pc' := 122) (A' := [jL (V : Int), jU, jI p, jI (jb mo), jL (V : Int), jU, jI (p + (k : Int)), jL H, jU, jL R, jU, jL (W + 0), jU, jL (2 * R), jU, jI 0]) (st' := [jL 16777216, jL (W + 0)]) (hp' := hp) rfl ?_
    refine jE_lcmp rfl (by omega) (by omega) ?_
    refine jE_lc_ne rfl (fun c123 => ?_) (fun c123 => ?_)
    · refine jm_Ev.bl 1 (pc' := 136) (A' := [jL (V : Int), jU, jI p, jI (jb mo), jL (V : Int), jU, jI (p + (k : Int)), jL H, jU, jL R, jU, jL (W + 0), jU, jL (2 * R), jU, jI 0]) (st' := [jI (p + (k : Int))]) (hp' := hp) rfl ?_
      refine jE_i2l rfl (by omega) ?_
      refine jm_Ev.bl 9 (pc' := 153) (A' := [jL (V : Int), jU, jI p, jI (jb mo), jL (V : Int), jU, jI (p + (k : Int)), jL H, jU, jL R, jU, jL (W + 0), jU, jL (2 * R), jU, jI 0]) (st' := [jI (((((p + (k : Int)) + 150) * 8388608) + (W + 0)) - 8388608)]) (hp' := hp) rfl ?_
      have cn : ¬ (1 < H ∧ (2 * R > H ∨ (2 * R = H ∧ (mo = true ∨ W % 2 = 1)))) := fun z => by rcases z.2 with z2 | ⟨z2, z3 | z3⟩ <;> first | omega | (rw [c81] at z3; exact absurd z3 (by simp))
      exact jE_ret rfl ⟨jrI (by rw [if_neg cn]; omega), rfl⟩
    · refine jm_Ev.bl 4 (pc' := 136) (A' := [jL (V : Int), jU, jI p, jI (jb mo), jL (V : Int), jU, jI ((p + (k : Int)) + 1), jL H, jU, jL R, jU, jL 8388608, jU, jL (2 * R), jU, jI 0]) (st' := [jI ((p + (k : Int)) + 1)]) (hp' := hp) rfl ?_
      refine jE_i2l rfl (by omega) ?_
      refine jm_Ev.bl 9 (pc' := 153) (A' := [jL (V : Int), jU, jI p, jI (jb mo), jL (V : Int), jU, jI ((p + (k : Int)) + 1), jL H, jU, jL R, jU, jL 8388608, jU, jL (2 * R), jU, jI 0]) (st' := [jI ((((((p + (k : Int)) + 1) + 150) * 8388608) + 8388608) - 8388608)]) (hp' := hp) rfl ?_
      have cn : ¬ (1 < H ∧ (2 * R > H ∨ (2 * R = H ∧ (mo = true ∨ W % 2 = 1)))) := fun z => by rcases z.2 with z2 | ⟨z2, z3 | z3⟩ <;> first | omega | (rw [c81] at z3; exact absurd z3 (by simp))
      exact jE_ret rfl ⟨jrI (by rw [if_neg cn]; omega), rfl⟩
  · refine jm_Ev.bl 2 (pc' := 68) (A' := [jL (V : Int), jU, jI p, jI (jb mo), jL (V : Int), jU, jI (p + (k : Int)), jL H, jU, jL R, jU, jL W, jU, jL (2 * R), jU, jU]) (st' := [jL H, jL (2 * R)]) (hp' := hp) rfl ?_
    refine jE_lcmp rfl (by omega) (by omega) ?_
    refine jE_lc_gt rfl (fun c69 => ?_) (fun c69 => ?_)
    · refine jm_Ev.bl 5 (pc' := 106) (A' := [jL (V : Int), jU, jI p, jI (jb mo), jL (V : Int), jU, jI (p + (k : Int)), jL H, jU, jL R, jU, jL W, jU, jL (2 * R), jU, jI 1]) (st' := [jI 1, jL W]) (hp' := hp) rfl ?_
      refine jE_if_eq rfl (by omega) (fun c106 => absurd c106 (by omega)) (fun _ => ?_)
      refine jm_Ev.bl 6 (pc' := 122) (A' := [jL (V : Int), jU, jI p, jI (jb mo), jL (V : Int), jU, jI (p + (k : Int)), jL H, jU, jL R, jU, jL (W + 1), jU, jL (2 * R), jU, jI 1]) (st' := [jL 16777216, jL (W + 1)]) (hp' := hp) rfl ?_
      refine jE_lcmp rfl (by omega) (by omega) ?_
      refine jE_lc_ne rfl (fun c123 => ?_) (fun c123 => ?_)
      · refine jm_Ev.bl 1 (pc' := 136) (A' := [jL (V : Int), jU, jI p, jI (jb mo), jL (V : Int), jU, jI (p + (k : Int)), jL H, jU, jL R, jU, jL (W + 1), jU, jL (2 * R), jU, jI 1]) (st' := [jI (p + (k : Int))]) (hp' := hp) rfl ?_
        refine jE_i2l rfl (by omega) ?_
        refine jm_Ev.bl 9 (pc' := 153) (A' := [jL (V : Int), jU, jI p, jI (jb mo), jL (V : Int), jU, jI (p + (k : Int)), jL H, jU, jL R, jU, jL (W + 1), jU, jL (2 * R), jU, jI 1]) (st' := [jI (((((p + (k : Int)) + 150) * 8388608) + (W + 1)) - 8388608)]) (hp' := hp) rfl ?_
        have cn : 1 < H ∧ (2 * R > H ∨ (2 * R = H ∧ (mo = true ∨ W % 2 = 1))) := by first | exact ⟨by omega, Or.inl (by omega)⟩ | exact ⟨by omega, Or.inr ⟨by omega, Or.inl c81⟩⟩ | exact ⟨by omega, Or.inr ⟨by omega, Or.inr (by omega)⟩⟩
        exact jE_ret rfl ⟨jrI (by rw [if_pos cn]; omega), rfl⟩
      · refine jm_Ev.bl 4 (pc' := 136) (A' := [jL (V : Int), jU, jI p, jI (jb mo), jL (V : Int), jU, jI ((p + (k : Int)) + 1), jL H, jU, jL R, jU, jL 8388608, jU, jL (2 * R), jU, jI 1]) (st' := [jI ((p + (k : Int)) + 1)]) (hp' := hp) rfl ?_
        refine jE_i2l rfl (by omega) ?_
        refine jm_Ev.bl 9 (pc' := 153) (A' := [jL (V : Int), jU, jI p, jI (jb mo), jL (V : Int), jU, jI ((p + (k : Int)) + 1), jL H, jU, jL R, jU, jL 8388608, jU, jL (2 * R), jU, jI 1]) (st' := [jI ((((((p + (k : Int)) + 1) + 150) * 8388608) + 8388608) - 8388608)]) (hp' := hp) rfl ?_
        have cn : 1 < H ∧ (2 * R > H ∨ (2 * R = H ∧ (mo = true ∨ W % 2 = 1))) := by first | exact ⟨by omega, Or.inl (by omega)⟩ | exact ⟨by omega, Or.inr ⟨by omega, Or.inl c81⟩⟩ | exact ⟨by omega, Or.inr ⟨by omega, Or.inr (by omega)⟩⟩
        exact jE_ret rfl ⟨jrI (by rw [if_pos cn]; omega), rfl⟩
    · refine jm_Ev.bl 2 (pc' := 76) (A' := [jL (V : Int), jU, jI p, jI (jb mo), jL (V : Int), jU, jI (p + (k : Int)), jL H, jU, jL R, jU, jL W, jU, jL (2 * R), jU, jU]) (st' := [jL H, jL (2 * R)]) (hp' := hp) rfl ?_
      refine jE_lcmp rfl (by omega) (by omega) ?_
      refine jE_lc_ne rfl (fun c77 => ?_) (fun c77 => ?_)
      · refine jm_Ev.bl 4 (pc' := 106) (A' := [jL (V : Int), jU, jI p, jI (jb mo), jL (V : Int), jU, jI (p + (k : Int)), jL H, jU, jL R, jU, jL W, jU, jL (2 * R), jU, jI 0]) (st' := [jI 0, jL W]) (hp' := hp) rfl ?_
        refine jE_if_eq rfl (by omega) (fun _ => ?_) (fun c106 => absurd c106 (by omega))
        refine jm_Ev.bl 5 (pc' := 122) (A' := [jL (V : Int), jU, jI p, jI (jb mo), jL (V : Int), jU, jI (p + (k : Int)), jL H, jU, jL R, jU, jL (W + 0), jU, jL (2 * R), jU, jI 0]) (st' := [jL 16777216, jL (W + 0)]) (hp' := hp) rfl ?_
        refine jE_lcmp rfl (by omega) (by omega) ?_
        refine jE_lc_ne rfl (fun c123 => ?_) (fun c123 => ?_)
        · refine jm_Ev.bl 1 (pc' := 136) (A' := [jL (V : Int), jU, jI p, jI (jb mo), jL (V : Int), jU, jI (p + (k : Int)), jL H, jU, jL R, jU, jL (W + 0), jU, jL (2 * R), jU, jI 0]) (st' := [jI (p + (k : Int))]) (hp' := hp) rfl ?_
          refine jE_i2l rfl (by omega) ?_
          refine jm_Ev.bl 9 (pc' := 153) (A' := [jL (V : Int), jU, jI p, jI (jb mo), jL (V : Int), jU, jI (p + (k : Int)), jL H, jU, jL R, jU, jL (W + 0), jU, jL (2 * R), jU, jI 0]) (st' := [jI (((((p + (k : Int)) + 150) * 8388608) + (W + 0)) - 8388608)]) (hp' := hp) rfl ?_
          have cn : ¬ (1 < H ∧ (2 * R > H ∨ (2 * R = H ∧ (mo = true ∨ W % 2 = 1)))) := fun z => by rcases z.2 with z2 | ⟨z2, z3 | z3⟩ <;> first | omega | (rw [c81] at z3; exact absurd z3 (by simp))
          exact jE_ret rfl ⟨jrI (by rw [if_neg cn]; omega), rfl⟩
        · refine jm_Ev.bl 4 (pc' := 136) (A' := [jL (V : Int), jU, jI p, jI (jb mo), jL (V : Int), jU, jI ((p + (k : Int)) + 1), jL H, jU, jL R, jU, jL 8388608, jU, jL (2 * R), jU, jI 0]) (st' := [jI ((p + (k : Int)) + 1)]) (hp' := hp) rfl ?_
          refine jE_i2l rfl (by omega) ?_
          refine jm_Ev.bl 9 (pc' := 153) (A' := [jL (V : Int), jU, jI p, jI (jb mo), jL (V : Int), jU, jI ((p + (k : Int)) + 1), jL H, jU, jL R, jU, jL 8388608, jU, jL (2 * R), jU, jI 0]) (st' := [jI ((((((p + (k : Int)) + 1) + 150) * 8388608) + 8388608) - 8388608)]) (hp' := hp) rfl ?_
          have cn : ¬ (1 < H ∧ (2 * R > H ∨ (2 * R = H ∧ (mo = true ∨ W % 2 = 1)))) := fun z => by rcases z.2 with z2 | ⟨z2, z3 | z3⟩ <;> first | omega | (rw [c81] at z3; exact absurd z3 (by simp))
          exact jE_ret rfl ⟨jrI (by rw [if_neg cn]; omega), rfl⟩
      · refine jm_Ev.bl 1 (pc' := 81) (A' := [jL (V : Int), jU, jI p, jI (jb mo), jL (V : Int), jU, jI (p + (k : Int)), jL H, jU, jL R, jU, jL W, jU, jL (2 * R), jU, jU]) (st' := [jI (jb mo)]) (hp' := hp) rfl ?_
        refine jE_ifb_ne rfl (fun c81 => ?_) (fun c81 => ?_)
        · refine jm_Ev.bl 5 (pc' := 106) (A' := [jL (V : Int), jU, jI p, jI (jb mo), jL (V : Int), jU, jI (p + (k : Int)), jL H, jU, jL R, jU, jL W, jU, jL (2 * R), jU, jI 1]) (st' := [jI 1, jL W]) (hp' := hp) rfl ?_
          refine jE_if_eq rfl (by omega) (fun c106 => absurd c106 (by omega)) (fun _ => ?_)
          refine jm_Ev.bl 6 (pc' := 122) (A' := [jL (V : Int), jU, jI p, jI (jb mo), jL (V : Int), jU, jI (p + (k : Int)), jL H, jU, jL R, jU, jL (W + 1), jU, jL (2 * R), jU, jI 1]) (st' := [jL 16777216, jL (W + 1)]) (hp' := hp) rfl ?_
          refine jE_lcmp rfl (by omega) (by omega) ?_
          refine jE_lc_ne rfl (fun c123 => ?_) (fun c123 => ?_)
          · refine jm_Ev.bl 1 (pc' := 136) (A' := [jL (V : Int), jU, jI p, jI (jb mo), jL (V : Int), jU, jI (p + (k : Int)), jL H, jU, jL R, jU, jL (W + 1), jU, jL (2 * R), jU, jI 1]) (st' := [jI (p + (k : Int))]) (hp' := hp) rfl ?_
            refine jE_i2l rfl (by omega) ?_
            refine jm_Ev.bl 9 (pc' := 153) (A' := [jL (V : Int), jU, jI p, jI (jb mo), jL (V : Int), jU, jI (p + (k : Int)), jL H, jU, jL R, jU, jL (W + 1), jU, jL (2 * R), jU, jI 1]) (st' := [jI (((((p + (k : Int)) + 150) * 8388608) + (W + 1)) - 8388608)]) (hp' := hp) rfl ?_
            have cn : 1 < H ∧ (2 * R > H ∨ (2 * R = H ∧ (mo = true ∨ W % 2 = 1))) := by first | exact ⟨by omega, Or.inl (by omega)⟩ | exact ⟨by omega, Or.inr ⟨by omega, Or.inl c81⟩⟩ | exact ⟨by omega, Or.inr ⟨by omega, Or.inr (by omega)⟩⟩
            exact jE_ret rfl ⟨jrI (by rw [if_pos cn]; omega), rfl⟩
          · refine jm_Ev.bl 4 (pc' := 136) (A' := [jL (V : Int), jU, jI p, jI (jb mo), jL (V : Int), jU, jI ((p + (k : Int)) + 1), jL H, jU, jL R, jU, jL 8388608, jU, jL (2 * R), jU, jI 1]) (st' := [jI ((p + (k : Int)) + 1)]) (hp' := hp) rfl ?_
            refine jE_i2l rfl (by omega) ?_
            refine jm_Ev.bl 9 (pc' := 153) (A' := [jL (V : Int), jU, jI p, jI (jb mo), jL (V : Int), jU, jI ((p + (k : Int)) + 1), jL H, jU, jL R, jU, jL 8388608, jU, jL (2 * R), jU, jI 1]) (st' := [jI ((((((p + (k : Int)) + 1) + 150) * 8388608) + 8388608) - 8388608)]) (hp' := hp) rfl ?_
            have cn : 1 < H ∧ (2 * R > H ∨ (2 * R = H ∧ (mo = true ∨ W % 2 = 1))) := by first | exact ⟨by omega, Or.inl (by omega)⟩ | exact ⟨by omega, Or.inr ⟨by omega, Or.inl c81⟩⟩ | exact ⟨by omega, Or.inr ⟨by omega, Or.inr (by omega)⟩⟩
            exact jE_ret rfl ⟨jrI (by rw [if_pos cn]; omega), rfl⟩
        · refine jm_Ev.bl 2 (pc' := 89) (A' := [jL (V : Int), jU, jI p, jI (jb mo), jL (V : Int), jU, jI (p + (k : Int)), jL H, jU, jL R, jU, jL W, jU, jL (2 * R), jU, jU]) (st' := [jL 2, jL W]) (hp' := hp) rfl ?_
          refine jE_lrem rfl (by omega) (by omega) ?_
          refine jm_Ev.bl 1 (pc' := 91) (A' := [jL (V : Int), jU, jI p, jI (jb mo), jL (V : Int), jU, jI (p + (k : Int)), jL H, jU, jL R, jU, jL W, jU, jL (2 * R), jU, jU]) (st' := [jL 1, jL (W % 2)]) (hp' := hp) rfl ?_
          refine jE_lcmp rfl (by omega) (by omega) ?_
          refine jE_lc_ne rfl (fun c92 => ?_) (fun c92 => ?_)
          · refine jm_Ev.bl 4 (pc' := 106) (A' := [jL (V : Int), jU, jI p, jI (jb mo), jL (V : Int), jU, jI (p + (k : Int)), jL H, jU, jL R, jU, jL W, jU, jL (2 * R), jU, jI 0]) (st' := [jI 0, jL W]) (hp' := hp) rfl ?_
            refine jE_if_eq rfl (by omega) (fun _ => ?_) (fun c106 => absurd c106 (by omega))
            refine jm_Ev.bl 5 (pc' := 122) (A' := [jL (V : Int), jU, jI p, jI (jb mo), jL (V : Int), jU, jI (p + (k : Int)), jL H, jU, jL R, jU, jL (W + 0), jU, jL (2 * R), jU, jI 0]) (st' := [jL 16777216, jL (W + 0)]) (hp' := hp) rfl ?_
            refine jE_lcmp rfl (by omega) (by omega) ?_
            refine jE_lc_ne rfl (fun c123 => ?_) (fun c123 => ?_)
            · refine jm_Ev.bl 1 (pc' := 136) (A' := [jL (V : Int), jU, jI p, jI (jb mo), jL (V : Int), jU, jI (p + (k : Int)), jL H, jU, jL R, jU, jL (W + 0), jU, jL (2 * R), jU, jI 0]) (st' := [jI (p + (k : Int))]) (hp' := hp) rfl ?_
              refine jE_i2l rfl (by omega) ?_
              refine jm_Ev.bl 9 (pc' := 153) (A' := [jL (V : Int), jU, jI p, jI (jb mo), jL (V : Int), jU, jI (p + (k : Int)), jL H, jU, jL R, jU, jL (W + 0), jU, jL (2 * R), jU, jI 0]) (st' := [jI (((((p + (k : Int)) + 150) * 8388608) + (W + 0)) - 8388608)]) (hp' := hp) rfl ?_
              have cn : ¬ (1 < H ∧ (2 * R > H ∨ (2 * R = H ∧ (mo = true ∨ W % 2 = 1)))) := fun z => by rcases z.2 with z2 | ⟨z2, z3 | z3⟩ <;> first | omega | (rw [c81] at z3; exact absurd z3 (by simp))
              exact jE_ret rfl ⟨jrI (by rw [if_neg cn]; omega), rfl⟩
            · refine jm_Ev.bl 4 (pc' := 136) (A' := [jL (V : Int), jU, jI p, jI (jb mo), jL (V : Int), jU, jI ((p + (k : Int)) + 1), jL H, jU, jL R, jU, jL 8388608, jU, jL (2 * R), jU, jI 0]) (st' := [jI ((p + (k : Int)) + 1)]) (hp' := hp) rfl ?_
              refine jE_i2l rfl (by omega) ?_
              refine jm_Ev.bl 9 (pc' := 153) (A' := [jL (V : Int), jU, jI p, jI (jb mo), jL (V : Int), jU, jI ((p + (k : Int)) + 1), jL H, jU, jL R, jU, jL 8388608, jU, jL (2 * R), jU, jI 0]) (st' := [jI ((((((p + (k : Int)) + 1) + 150) * 8388608) + 8388608) - 8388608)]) (hp' := hp) rfl ?_
              have cn : ¬ (1 < H ∧ (2 * R > H ∨ (2 * R = H ∧ (mo = true ∨ W % 2 = 1)))) := fun z => by rcases z.2 with z2 | ⟨z2, z3 | z3⟩ <;> first | omega | (rw [c81] at z3; exact absurd z3 (by simp))
              exact jE_ret rfl ⟨jrI (by rw [if_neg cn]; omega), rfl⟩
          · refine jm_Ev.bl 5 (pc' := 106) (A' := [jL (V : Int), jU, jI p, jI (jb mo), jL (V : Int), jU, jI (p + (k : Int)), jL H, jU, jL R, jU, jL W, jU, jL (2 * R), jU, jI 1]) (st' := [jI 1, jL W]) (hp' := hp) rfl ?_
            refine jE_if_eq rfl (by omega) (fun c106 => absurd c106 (by omega)) (fun _ => ?_)
            refine jm_Ev.bl 6 (pc' := 122) (A' := [jL (V : Int), jU, jI p, jI (jb mo), jL (V : Int), jU, jI (p + (k : Int)), jL H, jU, jL R, jU, jL (W + 1), jU, jL (2 * R), jU, jI 1]) (st' := [jL 16777216, jL (W + 1)]) (hp' := hp) rfl ?_
            refine jE_lcmp rfl (by omega) (by omega) ?_
            refine jE_lc_ne rfl (fun c123 => ?_) (fun c123 => ?_)
            · refine jm_Ev.bl 1 (pc' := 136) (A' := [jL (V : Int), jU, jI p, jI (jb mo), jL (V : Int), jU, jI (p + (k : Int)), jL H, jU, jL R, jU, jL (W + 1), jU, jL (2 * R), jU, jI 1]) (st' := [jI (p + (k : Int))]) (hp' := hp) rfl ?_
              refine jE_i2l rfl (by omega) ?_
              refine jm_Ev.bl 9 (pc' := 153) (A' := [jL (V : Int), jU, jI p, jI (jb mo), jL (V : Int), jU, jI (p + (k : Int)), jL H, jU, jL R, jU, jL (W + 1), jU, jL (2 * R), jU, jI 1]) (st' := [jI (((((p + (k : Int)) + 150) * 8388608) + (W + 1)) - 8388608)]) (hp' := hp) rfl ?_
              have cn : 1 < H ∧ (2 * R > H ∨ (2 * R = H ∧ (mo = true ∨ W % 2 = 1))) := by first | exact ⟨by omega, Or.inl (by omega)⟩ | exact ⟨by omega, Or.inr ⟨by omega, Or.inl c81⟩⟩ | exact ⟨by omega, Or.inr ⟨by omega, Or.inr (by omega)⟩⟩
              exact jE_ret rfl ⟨jrI (by rw [if_pos cn]; omega), rfl⟩
            · refine jm_Ev.bl 4 (pc' := 136) (A' := [jL (V : Int), jU, jI p, jI (jb mo), jL (V : Int), jU, jI ((p + (k : Int)) + 1), jL H, jU, jL R, jU, jL 8388608, jU, jL (2 * R), jU, jI 1]) (st' := [jI ((p + (k : Int)) + 1)]) (hp' := hp) rfl ?_
              refine jE_i2l rfl (by omega) ?_
              refine jm_Ev.bl 9 (pc' := 153) (A' := [jL (V : Int), jU, jI p, jI (jb mo), jL (V : Int), jU, jI ((p + (k : Int)) + 1), jL H, jU, jL R, jU, jL 8388608, jU, jL (2 * R), jU, jI 1]) (st' := [jI ((((((p + (k : Int)) + 1) + 150) * 8388608) + 8388608) - 8388608)]) (hp' := hp) rfl ?_
              have cn : 1 < H ∧ (2 * R > H ∨ (2 * R = H ∧ (mo = true ∨ W % 2 = 1))) := by first | exact ⟨by omega, Or.inl (by omega)⟩ | exact ⟨by omega, Or.inr ⟨by omega, Or.inl c81⟩⟩ | exact ⟨by omega, Or.inr ⟨by omega, Or.inr (by omega)⟩⟩
              exact jE_ret rfl ⟨jrI (by rw [if_pos cn]; omega), rfl⟩
theorem c_m_near (hp : jm_H) (A B V k : Nat) (p : Int) (mo : Bool) (hB : 0 < B) (hVA : V = A / B) (hmo : mo = decide (A % B ≠ 0)) (h1 : 2 ^ (23 + k) ≤ V) (h2 : V < 2 ^ (24 + k)) (hk36 : k ≤ 36) (hq : -149 ≤ p + k) (hq2 : p + k ≤ 103) (hk0 : k = 0 → A % B = 0) : jm_Ev 159 0 [jL (V : Int), jU, jI p, jI (jb mo), jU, jU, jU, jU, jU, jU, jU, jU, jU, jU, jU, jU] [] hp (jK (some (jI (FP.Core.encode FP.Core.b32 (FP.Core.roundRatio FP.Core.b32 false A B p) : Int))) hp) := by
  refine jm_Ev.bl 6 (pc' := 9) (A' := [jL (V : Int), jU, jI p, jI (jb mo), jL (V : Int), jU, jI p, jL 1, jU, jU, jU, jU, jU, jU, jU, jU]) (st' := []) (hp' := hp) rfl ?_
  have hV : V < 2 ^ 60 := Nat.lt_of_lt_of_le h2 (Nat.pow_le_pow_right (by decide) (by omega))
  have e60 : (2 : Nat) ^ 60 = 1152921504606846976 := by decide
  rw [e60] at hV
  have hpk := jpow_le (j := k) (by omega)
  have hpd := (jpow_div h1 h2 (Nat.le_refl k)).2 rfl
  have hmr := Nat.mod_lt V hpk.1
  have en := jnear_eq (p := p) hB (hVA ▸ h1) (hVA ▸ h2) hq hq2 hk0
  rw [← hVA] at en
  have t := c_m_near_T hp V k p ((2 ^ k : Nat) : Int) ((V % 2 ^ k : Nat) : Int) ((V / 2 ^ k : Nat) : Int) mo hV (by omega) (Int.natCast_emod _ _) (Int.natCast_ediv _ _) (by omega) (by omega) hq hq2 hk36
  have ec : (if 1 < ((2 ^ k : Nat) : Int) ∧ (2 * ((V % 2 ^ k : Nat) : Int) > ((2 ^ k : Nat) : Int) ∨ (2 * ((V % 2 ^ k : Nat) : Int) = ((2 ^ k : Nat) : Int) ∧ (mo = true ∨ ((V / 2 ^ k : Nat) : Int) % 2 = 1))) then (1 : Int) else 0) = (if 1 < 2 ^ k ∧ (2 * (V % 2 ^ k) > 2 ^ k ∨ (2 * (V % 2 ^ k) = 2 ^ k ∧ (A % B ≠ 0 ∨ V / 2 ^ k % 2 = 1))) then (1 : Int) else 0) := by
    have hm : mo = true ↔ A % B ≠ 0 := by rw [hmo]; simp
    generalize 2 ^ k = H at *
    generalize V % H = R at *
    generalize V / H = W at *
    congr 1
    rw [hm]
    simp only [eq_iff_iff]
    constructor
    · rintro ⟨a, b⟩; exact ⟨by omega, by rcases b with b | ⟨b, c | c⟩; exact Or.inl (by omega); exact Or.inr ⟨by omega, Or.inl c⟩; exact Or.inr ⟨by omega, Or.inr (by omega)⟩⟩
    · rintro ⟨a, b⟩; exact ⟨by omega, by rcases b with b | ⟨b, c | c⟩; exact Or.inl (by omega); exact Or.inr ⟨by omega, Or.inl c⟩; exact Or.inr ⟨by omega, Or.inr (by omega)⟩⟩
  rw [ec] at t
  rw [en]
  have u := c_m_near_L hp V k p mo h1 h2 hk36 hq hq2 t 41 0 (by omega) (by omega)
  rw [show p + ((0 : Nat) : Int) = p by omega, show ((2 ^ 0 : Nat) : Int) = 1 by decide] at u
  exact u
