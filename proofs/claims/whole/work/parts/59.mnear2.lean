/-! the model's near, walked -/
theorem c_m_near_L {Q : Option jm_V → jm_H → Prop} (hp : jm_H) (V k : Nat) (p : Int) (mo : Bool) (h1 : 2 ^ (23 + k) ≤ V) (h2 : V < 2 ^ (24 + k)) (hk36 : k ≤ 36) (hq : -149 ≤ p + k) (hq2 : p + k ≤ 103) (k_ : jm_Ev 159 35 [jL (V : Int), jU, jI p, jI (jb mo), jL (V : Int), jU, jI (p + (k : Int)), jL ((2 ^ k : Nat) : Int), jU, jU, jU, jU, jU, jU, jU, jU] [] hp Q) : ∀ (n : Nat) (j : Nat), j ≤ k → k - j < n → jm_Ev 159 9 [jL (V : Int), jU, jI p, jI (jb mo), jL (V : Int), jU, jI (p + (j : Int)), jL ((2 ^ j : Nat) : Int), jU, jU, jU, jU, jU, jU, jU, jU] [] hp Q := by
  have hV : V < 2 ^ 60 := Nat.lt_of_lt_of_le h2 (Nat.pow_le_pow_right (by decide) (by omega))
  have e60 : (2 : Nat) ^ 60 = 1152921504606846976 := by decide
  rw [e60] at hV
  intro n
  induction n with
  | zero => intro j hj hn; omega
  | succ n ih =>
    intro j hj hn
    have hpj := jpow_le (j := j) (by omega)
    have hpd := jpow_div h1 h2 hj
    refine jm_Ev.bl 2 (pc' := 13) (A' := [jL (V : Int), jU, jI p, jI (jb mo), jL (V : Int), jU, jI (p + (j : Int)), jL ((2 ^ j : Nat) : Int), jU, jU, jU, jU, jU, jU, jU, jU]) (st' := [jL ((2 ^ j : Nat) : Int), jL (V : Int)]) (hp' := hp) rfl ?_
    refine jE_ldiv rfl (by omega) (by omega) ?_
    obtain ⟨D, hD⟩ : ∃ D : Int, D = (V : Int) / ((2 ^ j : Nat) : Int) := ⟨_, rfl⟩
    rw [← hD]
    rw [← Int.natCast_ediv] at hD
    have hD2 : 0 ≤ D ∧ D < 1152921504606846976 := by have := Nat.div_le_self V (2 ^ j); omega
    refine jm_Ev.bl 1 (pc' := 17) (A' := [jL (V : Int), jU, jI p, jI (jb mo), jL (V : Int), jU, jI (p + (j : Int)), jL ((2 ^ j : Nat) : Int), jU, jU, jU, jU, jU, jU, jU, jU]) (st' := [jL 16777216, jL D]) (hp' := hp) rfl ?_
    refine jE_lcmp rfl (by omega) (by omega) ?_
    refine jE_lc_lt rfl (fun c18 => ?_) (fun c18 => ?_)
    · have ej : j = k := by
        by_cases e : j = k
        · exact e
        · have := hpd.1 (by omega); omega
      subst ej
      exact k_
    · refine jm_Ev.bl 6 (pc' := 9) (A' := [jL (V : Int), jU, jI p, jI (jb mo), jL (V : Int), jU, jI ((p + (j : Int)) + 1), jL (((2 ^ j : Nat) : Int) * 2), jU, jU, jU, jU, jU, jU, jU, jU]) (st' := []) (hp' := hp) rfl ?_
      have ej : j < k := by
        by_cases e : j = k
        · have := hpd.2 e; omega
        · omega
      rw [show ((2 ^ j : Nat) : Int) * 2 = ((2 ^ (j + 1) : Nat) : Int) by rw [Nat.pow_succ]; push_cast; rfl, show p + (j : Int) + 1 = p + ((j + 1 : Nat) : Int) by push_cast; omega]
      exact ih (j + 1) (by omega) (by omega)
