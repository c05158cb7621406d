/-! the model: small things, the page -/
theorem jrD {P P' : Prop} {i : Decidable P} {i' : Decidable P'} (h : P ↔ P') : some (jI (jb (@decide P i))) = some (jI (jb (@decide P' i'))) := by
  by_cases q : P
  · rw [decide_eq_true q, decide_eq_true (h.mp q)]
  · rw [decide_eq_false q, decide_eq_false (fun z => q (h.mpr z))]
/-- all but some places, and some fields of the model, stay -/
def jFq (hp h : jm_H) (S : List Nat) (F : List Int) : Prop := ∀ q, q ∉ S → ∀ j, (q = 56 → j ∉ F) → h q j = hp q j
theorem jFq.rf {hp : jm_H} {S : List Nat} {F : List Int} : jFq hp hp S F := fun _ _ _ _ => rfl
theorem jFq.pl {hp h : jm_H} {S : List Nat} {F : List Int} (hf : jFq hp h S F) (q : Nat) (h1 : q ∉ S) (h2 : q ≠ 56) : h q = hp q := funext fun j => hf q h1 j (fun e => absurd e h2)
theorem jFq.fd {hp h : jm_H} {S : List Nat} {F : List Int} (hf : jFq hp h S F) (j : Int) (h1 : 56 ∉ S) (h2 : j ∉ F) : h 56 j = hp 56 j := hf 56 h1 j (fun _ => h2)
theorem jFq.set {hp h : jm_H} {S : List Nat} {F : List Int} {k : Nat} {j v : Int} (hf : jFq hp h S F) (hk : k ∈ S) : jFq hp (jm_hs h k j v) S F := fun q hq i hi => by
  rw [js_hs_ne (fun e => hq (by rw [e]; exact hk))]; exact hf q hq i hi
theorem jFq.sf {hp h : jm_H} {S : List Nat} {F : List Int} {j v : Int} (hf : jFq hp h S F) (hj : j ∈ F) : jFq hp (jm_hs h 56 j v) S F := fun q hq i hi => by
  by_cases e : q = 56
  · subst e
    rw [js_hs_eq, if_neg (fun w => hi rfl (by rw [w]; exact hj))]
    exact hf 56 hq i hi
  · rw [js_hs_ne e]; exact hf q hq i hi
theorem jFq.tr {hp h1 h2 : jm_H} {S T V : List Nat} {F G E : List Int} (a : jFq hp h1 S F) (b : jFq h1 h2 T G) (hS : ∀ q ∈ S, q ∈ V) (hT : ∀ q ∈ T, q ∈ V) (hF : ∀ q ∈ F, q ∈ E) (hG : ∀ q ∈ G, q ∈ E) : jFq hp h2 V E := fun q hq j hj => (b q (fun h => hq (hT q h)) j (fun e h => hj e (hG j h))).trans (a q (fun h => hq (hS q h)) j (fun e h => hj e (hF j h)))
theorem jFq.wk {hp h1 : jm_H} {S V : List Nat} {F E : List Int} (a : jFq hp h1 S F) (hS : ∀ q ∈ S, q ∈ V) (hF : ∀ q ∈ F, q ∈ E) : jFq hp h1 V E := fun q hq j hj => a q (fun h => hq (hS q h)) j (fun e h => hj e (hF j h))
def jMG (hp : jm_H) : Prop := 0 ≤ hp 56 6 ∧ hp 56 6 ≤ 5 ∧ 0 ≤ hp 56 7 ∧ hp 56 7 ≤ 5 ∧ ∀ j, 0 ≤ j → j < 25 → -1 ≤ hp 58 j ∧ hp 58 j ≤ 4
theorem c_m_in (hp : jm_H) (a b c : Int) (ha : jR64 a) (hb : jR64 b) (hc : jR64 c) : jm_Ev 131 0 [jL a, jU, jL b, jU, jL c, jU] [] hp (jK (some (jI (jb (decide (b ≤ a ∧ a ≤ c))))) hp) := by
  refine jm_Ev.bl 2 (pc' := 2) (A' := [jL a, jU, jL b, jU, jL c, jU]) (st' := [jL b, jL a]) (hp' := hp) rfl ?_
  refine jE_lcmp rfl (by omega) (by omega) ?_
  refine jE_lc_lt rfl (fun c3 => ?_) (fun c3 => ?_)
  · refine jm_Ev.bl 1 (pc' := 18) (A' := [jL a, jU, jL b, jU, jL c, jU]) (st' := [jI 0]) (hp' := hp) rfl ?_
    exact jE_ret rfl ⟨jr0 (by omega), rfl⟩
  · refine jm_Ev.bl 2 (pc' := 9) (A' := [jL a, jU, jL b, jU, jL c, jU]) (st' := [jL c, jL a]) (hp' := hp) rfl ?_
    refine jE_lcmp rfl (by omega) (by omega) ?_
    refine jE_lc_gt rfl (fun c10 => ?_) (fun c10 => ?_)
    · refine jm_Ev.bl 1 (pc' := 18) (A' := [jL a, jU, jL b, jU, jL c, jU]) (st' := [jI 0]) (hp' := hp) rfl ?_
      exact jE_ret rfl ⟨jr0 (by omega), rfl⟩
    · refine jm_Ev.bl 2 (pc' := 18) (A' := [jL a, jU, jL b, jU, jL c, jU]) (st' := [jI 1]) (hp' := hp) rfl ?_
      exact jE_ret rfl ⟨jr1 (by omega), rfl⟩
theorem c_m_far (hp : jm_H) (a : Int) (ha : jR32 a) : jm_Ev 132 0 [jI a] [] hp (jK (some (jI (a.natAbs : Int))) hp) := by
  refine jm_Ev.bl 1 (pc' := 1) (A' := [jI a]) (st' := [jI a]) (hp' := hp) rfl ?_
  refine jE_if_ge rfl (by omega) (fun c1 => ?_) (fun c1 => ?_)
  · refine jm_Ev.bl 1 (pc' := 11) (A' := [jI a]) (st' := [jI a]) (hp' := hp) rfl ?_
    exact jE_ret rfl ⟨jrI (by omega), rfl⟩
  · refine jm_Ev.bl 4 (pc' := 11) (A' := [jI a]) (st' := [jI (0 - a)]) (hp' := hp) rfl ?_
    exact jE_ret rfl ⟨jrI (by omega), rfl⟩
theorem c_m_kindBy (hp : jm_H) (c : Int) (hc : jR32 c) : jm_Ev 136 0 [jI c] [] hp (jK (some (jI (jkb c))) hp) := by
  refine jm_Ev.bl 1 (pc' := 1) (A' := [jI c]) (st' := [jI c]) (hp' := hp) rfl ?_
  rcases (show c = 100 ∨ c = 104 ∨ c = 108 ∨ c = 115 ∨ c = 116 ∨ (c ≠ 100 ∧ c ≠ 104 ∧ c ≠ 108 ∧ c ≠ 115 ∧ c ≠ 116) by omega) with c1 | c1 | c1 | c1 | c1 | c1
  · subst c1
    refine jm_Ev.bl 2 (pc' := 53) (A' := [jI 100]) (st' := [jI 0]) (hp' := hp) rfl ?_
    exact jE_ret rfl ⟨jrI (by unfold jkb; (repeat' split) <;> omega), rfl⟩
  · subst c1
    refine jm_Ev.bl 2 (pc' := 55) (A' := [jI 104]) (st' := [jI 1]) (hp' := hp) rfl ?_
    exact jE_ret rfl ⟨jrI (by unfold jkb; (repeat' split) <;> omega), rfl⟩
  · subst c1
    refine jm_Ev.bl 2 (pc' := 61) (A' := [jI 108]) (st' := [jI 4]) (hp' := hp) rfl ?_
    exact jE_ret rfl ⟨jrI (by unfold jkb; (repeat' split) <;> omega), rfl⟩
  · subst c1
    refine jm_Ev.bl 2 (pc' := 57) (A' := [jI 115]) (st' := [jI 2]) (hp' := hp) rfl ?_
    exact jE_ret rfl ⟨jrI (by unfold jkb; (repeat' split) <;> omega), rfl⟩
  · subst c1
    refine jm_Ev.bl 2 (pc' := 59) (A' := [jI 116]) (st' := [jI 3]) (hp' := hp) rfl ?_
    exact jE_ret rfl ⟨jrI (by unfold jkb; (repeat' split) <;> omega), rfl⟩
  · refine jE_lswd rfl (by omega) (by simp; omega) ?_
    refine jm_Ev.bl 1 (pc' := 63) (A' := [jI c]) (st' := [jI (-1)]) (hp' := hp) rfl ?_
    exact jE_ret rfl ⟨jrI (by unfold jkb; (repeat' split) <;> omega), rfl⟩
theorem c_m_lacks (hp : jm_H) (hM : jMG hp) : jm_Ev 143 0 [jR 56] [] hp (jK (some (jI (jb (decide (hp 56 6 = 0))))) hp) := by
  obtain ⟨hw0, hw5, hh0, hh5, hk⟩ := id hM
  have hm := jm_mulb hw0 hw5 hh0 hh5
  refine jm_Ev.bl 2 (pc' := 4) (A' := [jR 56]) (st' := [jI (hp 56 6)]) (hp' := hp) rfl ?_
  refine jE_if_ne rfl (by omega) (fun c4 => ?_) (fun c4 => ?_)
  · refine jm_Ev.bl 1 (pc' := 12) (A' := [jR 56]) (st' := [jI 0]) (hp' := hp) rfl ?_
    exact jE_ret rfl ⟨jr0 (by omega), rfl⟩
  · refine jm_Ev.bl 2 (pc' := 12) (A' := [jR 56]) (st' := [jI 1]) (hp' := hp) rfl ?_
    exact jE_ret rfl ⟨jr1 (by omega), rfl⟩
theorem c_m_isPlace (hp : jm_H) (hM : jMG hp) (a : Int) (ha : jR32 a) : jm_Ev 144 0 [jR 56, jI a] [] hp (jK (some (jI (jb (decide (0 ≤ a ∧ a < hp 56 6 * hp 56 7))))) hp) := by
  obtain ⟨hw0, hw5, hh0, hh5, hk⟩ := id hM
  have hm := jm_mulb hw0 hw5 hh0 hh5
  refine jm_Ev.bl 1 (pc' := 1) (A' := [jR 56, jI a]) (st' := [jI a]) (hp' := hp) rfl ?_
  refine jE_i2l rfl (by omega) ?_
  refine jm_Ev.bl 8 (pc' := 14) (A' := [jR 56, jI a]) (st' := [jI (((hp 56 6) * (hp 56 7)) - 1), jL 0, jL a]) (hp' := hp) rfl ?_
  refine jE_i2l rfl (by omega) ?_
  refine jE_callI (vs := [jL a, jL 0, jL (((hp 56 6) * (hp 56 7)) - 1)]) (r := []) (nx := 18) (v := jI (jb (decide (0 ≤ a ∧ a ≤ (((hp 56 6) * (hp 56 7)) - 1))))) (hp1 := hp) rfl (c_m_in hp _ _ _ (by omega) (by omega) (by omega)) ?_
  exact jE_retZ rfl rfl ⟨jrD (by omega), rfl⟩
theorem c_m_hasDot (hp : jm_H) (hM : jMG hp) (a : Int) (ha : jR32 a) : jm_Ev 145 0 [jR 56, jI a] [] hp (jK (some (jI (jb (decide ((0 ≤ a ∧ a < hp 56 6 * hp 56 7) ∧ hp 58 a ≠ -1))))) hp) := by
  obtain ⟨hw0, hw5, hh0, hh5, hk⟩ := id hM
  have hm := jm_mulb hw0 hw5 hh0 hh5
  refine jm_Ev.bl 2 (pc' := 2) (A' := [jR 56, jI a]) (st' := [jI a, jR 56]) (hp' := hp) rfl ?_
  refine jE_callI (vs := [jR 56, jI a]) (r := []) (nx := 5) (v := jI (jb (decide (0 ≤ a ∧ a < hp 56 6 * hp 56 7)))) (hp1 := hp) rfl (c_m_isPlace hp hM a (by omega)) ?_
  refine jE_ifd_eq rfl (fun c5 => ?_) (fun c5 => ?_)
  · refine jm_Ev.bl 1 (pc' := 23) (A' := [jR 56, jI a]) (st' := [jI 0]) (hp' := hp) rfl ?_
    exact jE_ret rfl ⟨jr0 (by omega), rfl⟩
  · refine jm_Ev.bl 3 (pc' := 13) (A' := [jR 56, jI a]) (st' := [jI a, jR 58]) (hp' := hp) rfl ?_
    refine jE_iald (n := 25) (f := hp 58) rfl rfl (by omega) ?_
    have hr := hk a (by omega) (by omega)
    refine jm_Ev.bl 1 (pc' := 15) (A' := [jR 56, jI a]) (st' := [jI (-1), jI (hp 58 a)]) (hp' := hp) rfl ?_
    refine jE_icmp_eq rfl (by omega) (by omega) (fun c15 => ?_) (fun c15 => ?_)
    · refine jm_Ev.bl 1 (pc' := 23) (A' := [jR 56, jI a]) (st' := [jI 0]) (hp' := hp) rfl ?_
      exact jE_ret rfl ⟨jr0 (by omega), rfl⟩
    · refine jm_Ev.bl 2 (pc' := 23) (A' := [jR 56, jI a]) (st' := [jI 1]) (hp' := hp) rfl ?_
      exact jE_ret rfl ⟨jr1 (by omega), rfl⟩
theorem c_m_kindAt (hp : jm_H) (hM : jMG hp) (x y : Int) (hx : -100 ≤ x ∧ x ≤ 100) (hy : -100 ≤ y ∧ y ≤ 100) : jm_Ev 146 0 [jR 56, jI x, jI y] [] hp (jK (some (jI (jgk (hp 56 6) (hp 56 7) (hp 58) x y))) hp) := by
  obtain ⟨hw0, hw5, hh0, hh5, hk⟩ := id hM
  have hm := jm_mulb hw0 hw5 hh0 hh5
  refine jm_Ev.bl 1 (pc' := 1) (A' := [jR 56, jI x, jI y]) (st' := [jI x]) (hp' := hp) rfl ?_
  refine jE_i2l rfl (by omega) ?_
  refine jm_Ev.bl 5 (pc' := 9) (A' := [jR 56, jI x, jI y]) (st' := [jI ((hp 56 6) - 1), jL 0, jL x]) (hp' := hp) rfl ?_
  refine jE_i2l rfl (by omega) ?_
  refine jE_callI (vs := [jL x, jL 0, jL ((hp 56 6) - 1)]) (r := []) (nx := 13) (v := jI (jb (decide (0 ≤ x ∧ x ≤ ((hp 56 6) - 1))))) (hp1 := hp) rfl (c_m_in hp _ _ _ (by omega) (by omega) (by omega)) ?_
  refine jE_ifd_eq rfl (fun c13 => ?_) (fun c13 => ?_)
  · refine jm_Ev.bl 1 (pc' := 49) (A' := [jR 56, jI x, jI y]) (st' := [jI (-1)]) (hp' := hp) rfl ?_
    exact jE_ret rfl ⟨jrI (by unfold jgk; first | rw [if_pos (by omega)] | rw [if_neg (by omega)]), rfl⟩
  · refine jm_Ev.bl 1 (pc' := 17) (A' := [jR 56, jI x, jI y]) (st' := [jI y]) (hp' := hp) rfl ?_
    refine jE_i2l rfl (by omega) ?_
    refine jm_Ev.bl 5 (pc' := 25) (A' := [jR 56, jI x, jI y]) (st' := [jI ((hp 56 7) - 1), jL 0, jL y]) (hp' := hp) rfl ?_
    refine jE_i2l rfl (by omega) ?_
    refine jE_callI (vs := [jL y, jL 0, jL ((hp 56 7) - 1)]) (r := []) (nx := 29) (v := jI (jb (decide (0 ≤ y ∧ y ≤ ((hp 56 7) - 1))))) (hp1 := hp) rfl (c_m_in hp _ _ _ (by omega) (by omega) (by omega)) ?_
    refine jE_ifd_eq rfl (fun c29 => ?_) (fun c29 => ?_)
    · refine jm_Ev.bl 1 (pc' := 49) (A' := [jR 56, jI x, jI y]) (st' := [jI (-1)]) (hp' := hp) rfl ?_
      exact jE_ret rfl ⟨jrI (by unfold jgk; first | rw [if_pos (by omega)] | rw [if_neg (by omega)]), rfl⟩
    · have hix := jm_ix c13.1 (show x < hp 56 6 by omega) c29.1 (show y < hp 56 7 by omega)
      refine jm_Ev.bl 8 (pc' := 44) (A' := [jR 56, jI x, jI y]) (st' := [jI ((y * (hp 56 6)) + x), jR 58]) (hp' := hp) rfl ?_
      refine jE_iald (n := 25) (f := hp 58) rfl rfl (by omega) ?_
      refine jm_Ev.bl 1 (pc' := 49) (A' := [jR 56, jI x, jI y]) (st' := [jI (hp 58 ((y * (hp 56 6)) + x))]) (hp' := hp) rfl ?_
      exact jE_ret rfl ⟨jrI (by unfold jgk; first | rw [if_pos (by omega)] | rw [if_neg (by omega)]), rfl⟩
theorem c_m_dotMany_L {Q : Option jm_V → jm_H → Prop} (hp : jm_H) (hM : jMG hp) (k : jm_Ev 147 41 [jR 56, jI (jcnt (hp 58) (hp 56 6 * hp 56 7).toNat), jI (hp 56 6 * hp 56 7)] [] hp Q) : ∀ (n : Nat) (i c : Int), 0 ≤ i → i ≤ hp 56 6 * hp 56 7 → c = jcnt (hp 58) i.toNat → hp 56 6 * hp 56 7 - i < n → jm_Ev 147 4 [jR 56, jI c, jI i] [] hp Q := by
  obtain ⟨hw0, hw5, hh0, hh5, hk⟩ := id hM
  have hm := jm_mulb hw0 hw5 hh0 hh5
  intro n
  induction n with
  | zero => intro i c hi0 hi1 hs hn; omega
  | succ n ih =>
    intro i c hi0 hi1 hs hn
    refine jm_Ev.bl 6 (pc' := 14) (A' := [jR 56, jI c, jI i]) (st' := [jI ((hp 56 6) * (hp 56 7)), jI i]) (hp' := hp) rfl ?_
    refine jE_icmp_ge rfl (by omega) (by omega) (fun c14 => ?_) (fun c14 => ?_)
    · have e : i = hp 56 6 * hp 56 7 := by omega
      subst e
      rw [hs]
      exact k
    · refine jm_Ev.bl 4 (pc' := 23) (A' := [jR 56, jI c, jI i]) (st' := [jI i, jR 58, jI c]) (hp' := hp) rfl ?_
      refine jE_iald (n := 25) (f := hp 58) rfl rfl (by omega) ?_
      have hr := hk i hi0 (by omega)
      refine jm_Ev.bl 1 (pc' := 25) (A' := [jR 56, jI c, jI i]) (st' := [jI (-1), jI (hp 58 i), jI c]) (hp' := hp) rfl ?_
      refine jE_icmp_ne rfl (by omega) (by omega) (fun c25 => ?_) (fun c25 => ?_)
      · refine jm_Ev.bl 5 (pc' := 4) (A' := [jR 56, jI (c + 1), jI (i + 1)]) (st' := []) (hp' := hp) rfl ?_
        exact ih (i + 1) (c + 1) (by omega) (by omega) (by rw [jcnt_s _ hi0, hs]; simp [c25]) (by omega)
      · refine jm_Ev.bl 6 (pc' := 4) (A' := [jR 56, jI (c + 0), jI (i + 1)]) (st' := []) (hp' := hp) rfl ?_
        exact ih (i + 1) (c + 0) (by omega) (by omega) (by rw [jcnt_s _ hi0, hs]; simp [c25]) (by omega)
theorem c_m_dotMany (hp : jm_H) (hM : jMG hp) : jm_Ev 147 0 [jR 56, jU, jU] [] hp (jK (some (jI (jcnt (hp 58) (hp 56 6 * hp 56 7).toNat))) hp) := by
  obtain ⟨hw0, hw5, hh0, hh5, hk⟩ := id hM
  have hm := jm_mulb hw0 hw5 hh0 hh5
  refine jm_Ev.bl 4 (pc' := 4) (A' := [jR 56, jI 0, jI 0]) (st' := []) (hp' := hp) rfl ?_
  exact c_m_dotMany_L hp hM (jE_b1 rfl (jE_ret rfl ⟨rfl, rfl⟩)) 26 0 0 (by omega) (by omega) rfl (by omega)
def jchg (hp : jm_H) : Option jm_V → jm_H → Prop := fun rv h => rv = none ∧ h 56 11 = hp 56 11 ∧ h 56 10 = 1 ∧ (∀ j, 0 ≤ j → j < 15 → h 74 j = -1) ∧ jFq hp h [74] [10]
theorem c_m_changed_L (hp : jm_H) : ∀ (n : Nat) (i : Int) (h : jm_H), 0 ≤ i → i ≤ 15 → h 56 10 = 1 → (∀ j, 0 ≤ j → j < i → h 74 j = -1) → jFq hp h [74] [10] → 15 - i < n → jm_Ev 142 7 [jR 56, jI i] [] h (jchg hp) := by
  intro n
  induction n with
  | zero => intro i h hi0 hi1 e1 hc hf hn; omega
  | succ n ih =>
    intro i h hi0 hi1 e1 hc hf hn
    refine jm_Ev.bl 2 (pc' := 10) (A' := [jR 56, jI i]) (st' := [jI 15, jI i]) (hp' := h) rfl ?_
    refine jE_icmp_ge rfl (by omega) (by omega) (fun c10 => ?_) (fun c10 => ?_)
    · exact jE_ret rfl ⟨rfl, hf.fd 11 (by decide) (by decide), e1, fun j a b => hc j a (by omega), hf⟩
    · refine jm_Ev.bl 4 (pc' := 19) (A' := [jR 56, jI i]) (st' := [jI (-1), jI i, jR 74]) (hp' := h) rfl ?_
      refine jE_iast (n := 15) rfl rfl (by omega) ?_
      refine jm_Ev.bl 2 (pc' := 7) (A' := [jR 56, jI (i + 1)]) (st' := []) (hp' := (jm_hs h 74 i (-1))) rfl ?_
      exact ih (i + 1) (jm_hs h 74 i (-1)) (by omega) (by omega) e1 (jhs_lt (F := fun _ => -1) hc rfl) (hf.set (by decide)) (by omega)
theorem c_m_changed (hp : jm_H) : jm_Ev 142 0 [jR 56, jU] [] hp (jchg hp) := by
  refine jm_Ev.bl 5 (pc' := 7) (A' := [jR 56, jI 0]) (st' := []) (hp' := (jm_hs hp 56 10 1)) rfl ?_
  exact c_m_changed_L hp 16 0 _ (by omega) (by omega) rfl (fun j a b => by omega) (jFq.rf.sf (by decide)) (by omega)
def jstp (c r h w : Int) : Option (Int × Int × Int) := if c = 47 then (if 0 < h ∧ (w = 0 ∨ h = w) ∧ r < 4 then some (r + 1, 0, if w = 0 then h else w) else none)
        else if (c = 46 ∨ jkb c ≠ -1) ∧ h < (if w = 0 then 5 else w) then some (r, h + 1, w) else none
/-- what isGood leaves -/
def jigp (hp : jm_H) (c : Int) : Option jm_V → jm_H → Prop := fun rv h' => jFq hp h' [] [2, 3, 4, 5] ∧ ((∀ r h w, jstp c (hp 56 3) (hp 56 4) (hp 56 2) = some (r, h, w) → rv = some (jI 1) ∧ h' 56 3 = r ∧ h' 56 4 = h ∧ h' 56 2 = w ∧ h' 56 5 = hp 56 5 + (if jkb c = -1 then 0 else 1)) ∧ (jstp c (hp 56 3) (hp 56 4) (hp 56 2) = none → rv = some (jI 0)))
theorem c_m_isRowEnd (hp : jm_H) (h3 : 0 ≤ hp 56 3 ∧ hp 56 3 ≤ 4) (h4 : 0 ≤ hp 56 4 ∧ hp 56 4 ≤ 5) (h2 : 0 ≤ hp 56 2 ∧ hp 56 2 ≤ 5) : jm_Ev 137 0 [jR 56, jU] [] hp (jigp hp 47) := by
  refine jm_Ev.bl 2 (pc' := 4) (A' := [jR 56, jU]) (st' := [jI (hp 56 4)]) (hp' := hp) rfl ?_
  refine jE_if_le rfl (by omega) (fun c4 => ?_) (fun c4 => ?_)
  · refine jm_Ev.bl 5 (pc' := 44) (A' := [jR 56, jI 0]) (st' := [jI (hp 56 2), jR 56]) (hp' := hp) rfl ?_
    refine jE_if_ne rfl (by omega) (fun c44 => ?_) (fun c44 => ?_)
    · refine jm_Ev.bl 13 (pc' := 77) (A' := [jR 56, jI 0]) (st' := [jI 0]) (hp' := (jm_hs (jm_hs (jm_hs hp 56 2 (hp 56 2)) 56 3 ((hp 56 3) + 1)) 56 4 0)) rfl ?_
      refine jE_ret rfl ⟨(((jFq.rf.sf (by decide)).sf (by decide)).sf (by decide)), fun r h w e => ?_, fun e => rfl⟩
      unfold jstp at e; rw [if_pos rfl, if_neg (by omega)] at e; exact absurd e (by simp)
    · refine jm_Ev.bl 14 (pc' := 77) (A' := [jR 56, jI 0]) (st' := [jI 0]) (hp' := (jm_hs (jm_hs (jm_hs hp 56 2 (hp 56 4)) 56 3 ((hp 56 3) + 1)) 56 4 0)) rfl ?_
      refine jE_ret rfl ⟨(((jFq.rf.sf (by decide)).sf (by decide)).sf (by decide)), fun r h w e => ?_, fun e => rfl⟩
      unfold jstp at e; rw [if_pos rfl, if_neg (by omega)] at e; exact absurd e (by simp)
  · refine jm_Ev.bl 2 (pc' := 11) (A' := [jR 56, jU]) (st' := [jI (hp 56 2)]) (hp' := hp) rfl ?_
    refine jE_if_eq rfl (by omega) (fun c11 => ?_) (fun c11 => ?_)
    · refine jm_Ev.bl 3 (pc' := 30) (A' := [jR 56, jU]) (st' := [jI 4, jI (hp 56 3)]) (hp' := hp) rfl ?_
      refine jE_icmp_ge rfl (by omega) (by omega) (fun c30 => ?_) (fun c30 => ?_)
      · refine jm_Ev.bl 5 (pc' := 44) (A' := [jR 56, jI 0]) (st' := [jI (hp 56 2), jR 56]) (hp' := hp) rfl ?_
        refine jE_if_ne rfl (by omega) (fun c44 => ?_) (fun c44 => ?_)
        · refine jm_Ev.bl 13 (pc' := 77) (A' := [jR 56, jI 0]) (st' := [jI 0]) (hp' := (jm_hs (jm_hs (jm_hs hp 56 2 (hp 56 2)) 56 3 ((hp 56 3) + 1)) 56 4 0)) rfl ?_
          refine jE_ret rfl ⟨(((jFq.rf.sf (by decide)).sf (by decide)).sf (by decide)), fun r h w e => ?_, fun e => rfl⟩
          unfold jstp at e; rw [if_pos rfl, if_neg (by omega)] at e; exact absurd e (by simp)
        · refine jm_Ev.bl 14 (pc' := 77) (A' := [jR 56, jI 0]) (st' := [jI 0]) (hp' := (jm_hs (jm_hs (jm_hs hp 56 2 (hp 56 4)) 56 3 ((hp 56 3) + 1)) 56 4 0)) rfl ?_
          refine jE_ret rfl ⟨(((jFq.rf.sf (by decide)).sf (by decide)).sf (by decide)), fun r h w e => ?_, fun e => rfl⟩
          unfold jstp at e; rw [if_pos rfl, if_neg (by omega)] at e; exact absurd e (by simp)
      · refine jm_Ev.bl 6 (pc' := 44) (A' := [jR 56, jI 1]) (st' := [jI (hp 56 2), jR 56]) (hp' := hp) rfl ?_
        refine jE_if_ne rfl (by omega) (fun c44 => ?_) (fun c44 => ?_)
        · refine jm_Ev.bl 13 (pc' := 77) (A' := [jR 56, jI 1]) (st' := [jI 1]) (hp' := (jm_hs (jm_hs (jm_hs hp 56 2 (hp 56 2)) 56 3 ((hp 56 3) + 1)) 56 4 0)) rfl ?_
          refine jE_ret rfl ⟨(((jFq.rf.sf (by decide)).sf (by decide)).sf (by decide)), fun r h w e => ?_, fun e => ?_⟩
          · unfold jstp at e; rw [if_pos rfl, if_pos (by omega)] at e; simp only [Option.some.injEq, Prod.mk.injEq] at e; obtain ⟨rfl, rfl, rfl⟩ := e; exact ⟨rfl, rfl, rfl, by first | rw [if_pos (by omega)]; rfl | rw [if_neg (by omega)]; rfl, by rw [if_pos jkb_47]; exact (Int.add_zero _).symm⟩
          · unfold jstp at e; rw [if_pos rfl, if_pos (by omega)] at e; exact absurd e (by simp)
        · refine jm_Ev.bl 14 (pc' := 77) (A' := [jR 56, jI 1]) (st' := [jI 1]) (hp' := (jm_hs (jm_hs (jm_hs hp 56 2 (hp 56 4)) 56 3 ((hp 56 3) + 1)) 56 4 0)) rfl ?_
          refine jE_ret rfl ⟨(((jFq.rf.sf (by decide)).sf (by decide)).sf (by decide)), fun r h w e => ?_, fun e => ?_⟩
          · unfold jstp at e; rw [if_pos rfl, if_pos (by omega)] at e; simp only [Option.some.injEq, Prod.mk.injEq] at e; obtain ⟨rfl, rfl, rfl⟩ := e; exact ⟨rfl, rfl, rfl, by first | rw [if_pos (by omega)]; rfl | rw [if_neg (by omega)]; rfl, by rw [if_pos jkb_47]; exact (Int.add_zero _).symm⟩
          · unfold jstp at e; rw [if_pos rfl, if_pos (by omega)] at e; exact absurd e (by simp)
    · refine jm_Ev.bl 4 (pc' := 22) (A' := [jR 56, jU]) (st' := [jI (hp 56 2), jI (hp 56 4)]) (hp' := hp) rfl ?_
      refine jE_icmp_ne rfl (by omega) (by omega) (fun c22 => ?_) (fun c22 => ?_)
      · refine jm_Ev.bl 5 (pc' := 44) (A' := [jR 56, jI 0]) (st' := [jI (hp 56 2), jR 56]) (hp' := hp) rfl ?_
        refine jE_if_ne rfl (by omega) (fun c44 => ?_) (fun c44 => ?_)
        · refine jm_Ev.bl 13 (pc' := 77) (A' := [jR 56, jI 0]) (st' := [jI 0]) (hp' := (jm_hs (jm_hs (jm_hs hp 56 2 (hp 56 2)) 56 3 ((hp 56 3) + 1)) 56 4 0)) rfl ?_
          refine jE_ret rfl ⟨(((jFq.rf.sf (by decide)).sf (by decide)).sf (by decide)), fun r h w e => ?_, fun e => rfl⟩
          unfold jstp at e; rw [if_pos rfl, if_neg (by omega)] at e; exact absurd e (by simp)
        · refine jm_Ev.bl 14 (pc' := 77) (A' := [jR 56, jI 0]) (st' := [jI 0]) (hp' := (jm_hs (jm_hs (jm_hs hp 56 2 (hp 56 4)) 56 3 ((hp 56 3) + 1)) 56 4 0)) rfl ?_
          refine jE_ret rfl ⟨(((jFq.rf.sf (by decide)).sf (by decide)).sf (by decide)), fun r h w e => ?_, fun e => rfl⟩
          unfold jstp at e; rw [if_pos rfl, if_neg (by omega)] at e; exact absurd e (by simp)
      · refine jm_Ev.bl 3 (pc' := 30) (A' := [jR 56, jU]) (st' := [jI 4, jI (hp 56 3)]) (hp' := hp) rfl ?_
        refine jE_icmp_ge rfl (by omega) (by omega) (fun c30 => ?_) (fun c30 => ?_)
        · refine jm_Ev.bl 5 (pc' := 44) (A' := [jR 56, jI 0]) (st' := [jI (hp 56 2), jR 56]) (hp' := hp) rfl ?_
          refine jE_if_ne rfl (by omega) (fun c44 => ?_) (fun c44 => ?_)
          · refine jm_Ev.bl 13 (pc' := 77) (A' := [jR 56, jI 0]) (st' := [jI 0]) (hp' := (jm_hs (jm_hs (jm_hs hp 56 2 (hp 56 2)) 56 3 ((hp 56 3) + 1)) 56 4 0)) rfl ?_
            refine jE_ret rfl ⟨(((jFq.rf.sf (by decide)).sf (by decide)).sf (by decide)), fun r h w e => ?_, fun e => rfl⟩
            unfold jstp at e; rw [if_pos rfl, if_neg (by omega)] at e; exact absurd e (by simp)
          · refine jm_Ev.bl 14 (pc' := 77) (A' := [jR 56, jI 0]) (st' := [jI 0]) (hp' := (jm_hs (jm_hs (jm_hs hp 56 2 (hp 56 4)) 56 3 ((hp 56 3) + 1)) 56 4 0)) rfl ?_
            refine jE_ret rfl ⟨(((jFq.rf.sf (by decide)).sf (by decide)).sf (by decide)), fun r h w e => ?_, fun e => rfl⟩
            unfold jstp at e; rw [if_pos rfl, if_neg (by omega)] at e; exact absurd e (by simp)
        · refine jm_Ev.bl 6 (pc' := 44) (A' := [jR 56, jI 1]) (st' := [jI (hp 56 2), jR 56]) (hp' := hp) rfl ?_
          refine jE_if_ne rfl (by omega) (fun c44 => ?_) (fun c44 => ?_)
          · refine jm_Ev.bl 13 (pc' := 77) (A' := [jR 56, jI 1]) (st' := [jI 1]) (hp' := (jm_hs (jm_hs (jm_hs hp 56 2 (hp 56 2)) 56 3 ((hp 56 3) + 1)) 56 4 0)) rfl ?_
            refine jE_ret rfl ⟨(((jFq.rf.sf (by decide)).sf (by decide)).sf (by decide)), fun r h w e => ?_, fun e => ?_⟩
            · unfold jstp at e; rw [if_pos rfl, if_pos (by omega)] at e; simp only [Option.some.injEq, Prod.mk.injEq] at e; obtain ⟨rfl, rfl, rfl⟩ := e; exact ⟨rfl, rfl, rfl, by first | rw [if_pos (by omega)]; rfl | rw [if_neg (by omega)]; rfl, by rw [if_pos jkb_47]; exact (Int.add_zero _).symm⟩
            · unfold jstp at e; rw [if_pos rfl, if_pos (by omega)] at e; exact absurd e (by simp)
          · refine jm_Ev.bl 14 (pc' := 77) (A' := [jR 56, jI 1]) (st' := [jI 1]) (hp' := (jm_hs (jm_hs (jm_hs hp 56 2 (hp 56 4)) 56 3 ((hp 56 3) + 1)) 56 4 0)) rfl ?_
            refine jE_ret rfl ⟨(((jFq.rf.sf (by decide)).sf (by decide)).sf (by decide)), fun r h w e => ?_, fun e => ?_⟩
            · unfold jstp at e; rw [if_pos rfl, if_pos (by omega)] at e; simp only [Option.some.injEq, Prod.mk.injEq] at e; obtain ⟨rfl, rfl, rfl⟩ := e; exact ⟨rfl, rfl, rfl, by first | rw [if_pos (by omega)]; rfl | rw [if_neg (by omega)]; rfl, by rw [if_pos jkb_47]; exact (Int.add_zero _).symm⟩
            · unfold jstp at e; rw [if_pos rfl, if_pos (by omega)] at e; exact absurd e (by simp)
theorem c_m_isGood (hp : jm_H) (c : Int) (hc : jR32 c) (h3 : 0 ≤ hp 56 3 ∧ hp 56 3 ≤ 4) (h4 : 0 ≤ hp 56 4 ∧ hp 56 4 ≤ 5) (h2 : 0 ≤ hp 56 2 ∧ hp 56 2 ≤ 5) : jm_Ev 138 0 [jR 56, jI c] [] hp (jigp hp c) := by
  refine jm_Ev.bl 2 (pc' := 3) (A' := [jR 56, jI c]) (st' := [jI 47, jI c]) (hp' := hp) rfl ?_
  refine jE_icmp_ne rfl (by omega) (by omega) (fun c3 => ?_) (fun c3 => ?_)
  · refine jm_Ev.bl 10 (pc' := 27) (A' := [jR 56, jI c]) (st' := [jI c, jI (hp 56 5), jR 56]) (hp' := (jm_hs hp 56 4 ((hp 56 4) + 1))) rfl ?_
    refine jE_callI (vs := [jI c]) (r := [jI (hp 56 5), jR 56]) (nx := 30) (v := jI (jkb c)) (hp1 := (jm_hs hp 56 4 ((hp 56 4) + 1))) rfl (c_m_kindBy (jm_hs hp 56 4 ((hp 56 4) + 1)) c (by omega)) ?_
    have hr := jkb_r c
    refine jm_Ev.bl 1 (pc' := 31) (A' := [jR 56, jI c]) (st' := [jI (-1), jI (jkb c), jI (hp 56 5), jR 56]) (hp' := (jm_hs hp 56 4 ((hp 56 4) + 1))) rfl ?_
    refine jE_icmp_ne rfl (by omega) (by omega) (fun c31 => ?_) (fun c31 => ?_)
    · refine jm_Ev.bl 5 (pc' := 46) (A' := [jR 56, jI c]) (st' := [jI 46, jI c]) (hp' := (jm_hs (jm_hs hp 56 4 ((hp 56 4) + 1)) 56 5 ((hp 56 5) + 1))) rfl ?_
      refine jE_icmp_eq rfl (by omega) (by omega) (fun c46 => ?_) (fun c46 => ?_)
      · refine jm_Ev.bl 4 (pc' := 65) (A' := [jR 56, jI c]) (st' := [jI (hp 56 2), jI ((hp 56 4) + 1)]) (hp' := (jm_hs (jm_hs hp 56 4 ((hp 56 4) + 1)) 56 5 ((hp 56 5) + 1))) rfl ?_
        refine jE_if_ne rfl (by omega) (fun c65 => ?_) (fun c65 => ?_)
        · refine jm_Ev.bl 2 (pc' := 76) (A' := [jR 56, jI c]) (st' := [jI (hp 56 2), jI ((hp 56 4) + 1)]) (hp' := (jm_hs (jm_hs hp 56 4 ((hp 56 4) + 1)) 56 5 ((hp 56 5) + 1))) rfl ?_
          refine jE_icmp_gt rfl (by omega) (by omega) (fun c76 => ?_) (fun c76 => ?_)
          · refine jm_Ev.bl 1 (pc' := 84) (A' := [jR 56, jI c]) (st' := [jI 0]) (hp' := (jm_hs (jm_hs hp 56 4 ((hp 56 4) + 1)) 56 5 ((hp 56 5) + 1))) rfl ?_
            refine jE_ret rfl ⟨((jFq.rf.sf (by decide)).sf (by decide)), fun r h w e => ?_, fun e => rfl⟩
            unfold jstp at e; rw [if_neg c3, if_neg (fun z => by first | omega | (have z2 := z.2; first | (rw [if_pos (by omega)] at z2; omega) | (rw [if_neg (by omega)] at z2; omega)))] at e; exact absurd e (by simp)
          · refine jm_Ev.bl 2 (pc' := 84) (A' := [jR 56, jI c]) (st' := [jI 1]) (hp' := (jm_hs (jm_hs hp 56 4 ((hp 56 4) + 1)) 56 5 ((hp 56 5) + 1))) rfl ?_
            refine jE_ret rfl ⟨((jFq.rf.sf (by decide)).sf (by decide)), fun r h w e => ?_, fun e => ?_⟩
            · unfold jstp at e; rw [if_neg c3, if_pos ⟨by omega, by first | (rw [if_pos (by omega)]; omega) | (rw [if_neg (by omega)]; omega)⟩] at e; simp only [Option.some.injEq, Prod.mk.injEq] at e; obtain ⟨rfl, rfl, rfl⟩ := e; exact ⟨rfl, rfl, rfl, rfl, by first | rw [if_pos c31]; rfl | rw [if_neg c31]; rfl⟩
            · unfold jstp at e; rw [if_neg c3, if_pos ⟨by omega, by first | (rw [if_pos (by omega)]; omega) | (rw [if_neg (by omega)]; omega)⟩] at e; exact absurd e (by simp)
        · refine jm_Ev.bl 2 (pc' := 76) (A' := [jR 56, jI c]) (st' := [jI 5, jI ((hp 56 4) + 1)]) (hp' := (jm_hs (jm_hs hp 56 4 ((hp 56 4) + 1)) 56 5 ((hp 56 5) + 1))) rfl ?_
          refine jE_icmp_gt rfl (by omega) (by omega) (fun c76 => ?_) (fun c76 => ?_)
          · refine jm_Ev.bl 1 (pc' := 84) (A' := [jR 56, jI c]) (st' := [jI 0]) (hp' := (jm_hs (jm_hs hp 56 4 ((hp 56 4) + 1)) 56 5 ((hp 56 5) + 1))) rfl ?_
            refine jE_ret rfl ⟨((jFq.rf.sf (by decide)).sf (by decide)), fun r h w e => ?_, fun e => rfl⟩
            unfold jstp at e; rw [if_neg c3, if_neg (fun z => by first | omega | (have z2 := z.2; first | (rw [if_pos (by omega)] at z2; omega) | (rw [if_neg (by omega)] at z2; omega)))] at e; exact absurd e (by simp)
          · refine jm_Ev.bl 2 (pc' := 84) (A' := [jR 56, jI c]) (st' := [jI 1]) (hp' := (jm_hs (jm_hs hp 56 4 ((hp 56 4) + 1)) 56 5 ((hp 56 5) + 1))) rfl ?_
            refine jE_ret rfl ⟨((jFq.rf.sf (by decide)).sf (by decide)), fun r h w e => ?_, fun e => ?_⟩
            · unfold jstp at e; rw [if_neg c3, if_pos ⟨by omega, by first | (rw [if_pos (by omega)]; omega) | (rw [if_neg (by omega)]; omega)⟩] at e; simp only [Option.some.injEq, Prod.mk.injEq] at e; obtain ⟨rfl, rfl, rfl⟩ := e; exact ⟨rfl, rfl, rfl, rfl, by first | rw [if_pos c31]; rfl | rw [if_neg c31]; rfl⟩
            · unfold jstp at e; rw [if_neg c3, if_pos ⟨by omega, by first | (rw [if_pos (by omega)]; omega) | (rw [if_neg (by omega)]; omega)⟩] at e; exact absurd e (by simp)
      · refine jm_Ev.bl 1 (pc' := 50) (A' := [jR 56, jI c]) (st' := [jI c]) (hp' := (jm_hs (jm_hs hp 56 4 ((hp 56 4) + 1)) 56 5 ((hp 56 5) + 1))) rfl ?_
        refine jE_callI (vs := [jI c]) (r := []) (nx := 53) (v := jI (jkb c)) (hp1 := (jm_hs (jm_hs hp 56 4 ((hp 56 4) + 1)) 56 5 ((hp 56 5) + 1))) rfl (c_m_kindBy (jm_hs (jm_hs hp 56 4 ((hp 56 4) + 1)) 56 5 ((hp 56 5) + 1)) c (by omega)) ?_
        refine jm_Ev.bl 1 (pc' := 54) (A' := [jR 56, jI c]) (st' := [jI (-1), jI (jkb c)]) (hp' := (jm_hs (jm_hs hp 56 4 ((hp 56 4) + 1)) 56 5 ((hp 56 5) + 1))) rfl ?_
        refine jE_icmp_eq rfl (by omega) (by omega) (fun c54 => ?_) (fun c54 => ?_)
        · refine jm_Ev.bl 1 (pc' := 84) (A' := [jR 56, jI c]) (st' := [jI 0]) (hp' := (jm_hs (jm_hs hp 56 4 ((hp 56 4) + 1)) 56 5 ((hp 56 5) + 1))) rfl ?_
          refine jE_ret rfl ⟨((jFq.rf.sf (by decide)).sf (by decide)), fun r h w e => ?_, fun e => rfl⟩
          unfold jstp at e; rw [if_neg c3, if_neg (fun z => by first | omega | (have z2 := z.2; first | (rw [if_pos (by omega)] at z2; omega) | (rw [if_neg (by omega)] at z2; omega)))] at e; exact absurd e (by simp)
        · refine jm_Ev.bl 4 (pc' := 65) (A' := [jR 56, jI c]) (st' := [jI (hp 56 2), jI ((hp 56 4) + 1)]) (hp' := (jm_hs (jm_hs hp 56 4 ((hp 56 4) + 1)) 56 5 ((hp 56 5) + 1))) rfl ?_
          refine jE_if_ne rfl (by omega) (fun c65 => ?_) (fun c65 => ?_)
          · refine jm_Ev.bl 2 (pc' := 76) (A' := [jR 56, jI c]) (st' := [jI (hp 56 2), jI ((hp 56 4) + 1)]) (hp' := (jm_hs (jm_hs hp 56 4 ((hp 56 4) + 1)) 56 5 ((hp 56 5) + 1))) rfl ?_
            refine jE_icmp_gt rfl (by omega) (by omega) (fun c76 => ?_) (fun c76 => ?_)
            · refine jm_Ev.bl 1 (pc' := 84) (A' := [jR 56, jI c]) (st' := [jI 0]) (hp' := (jm_hs (jm_hs hp 56 4 ((hp 56 4) + 1)) 56 5 ((hp 56 5) + 1))) rfl ?_
              refine jE_ret rfl ⟨((jFq.rf.sf (by decide)).sf (by decide)), fun r h w e => ?_, fun e => rfl⟩
              unfold jstp at e; rw [if_neg c3, if_neg (fun z => by first | omega | (have z2 := z.2; first | (rw [if_pos (by omega)] at z2; omega) | (rw [if_neg (by omega)] at z2; omega)))] at e; exact absurd e (by simp)
            · refine jm_Ev.bl 2 (pc' := 84) (A' := [jR 56, jI c]) (st' := [jI 1]) (hp' := (jm_hs (jm_hs hp 56 4 ((hp 56 4) + 1)) 56 5 ((hp 56 5) + 1))) rfl ?_
              refine jE_ret rfl ⟨((jFq.rf.sf (by decide)).sf (by decide)), fun r h w e => ?_, fun e => ?_⟩
              · unfold jstp at e; rw [if_neg c3, if_pos ⟨by omega, by first | (rw [if_pos (by omega)]; omega) | (rw [if_neg (by omega)]; omega)⟩] at e; simp only [Option.some.injEq, Prod.mk.injEq] at e; obtain ⟨rfl, rfl, rfl⟩ := e; exact ⟨rfl, rfl, rfl, rfl, by first | rw [if_pos c31]; rfl | rw [if_neg c31]; rfl⟩
              · unfold jstp at e; rw [if_neg c3, if_pos ⟨by omega, by first | (rw [if_pos (by omega)]; omega) | (rw [if_neg (by omega)]; omega)⟩] at e; exact absurd e (by simp)
          · refine jm_Ev.bl 2 (pc' := 76) (A' := [jR 56, jI c]) (st' := [jI 5, jI ((hp 56 4) + 1)]) (hp' := (jm_hs (jm_hs hp 56 4 ((hp 56 4) + 1)) 56 5 ((hp 56 5) + 1))) rfl ?_
            refine jE_icmp_gt rfl (by omega) (by omega) (fun c76 => ?_) (fun c76 => ?_)
            · refine jm_Ev.bl 1 (pc' := 84) (A' := [jR 56, jI c]) (st' := [jI 0]) (hp' := (jm_hs (jm_hs hp 56 4 ((hp 56 4) + 1)) 56 5 ((hp 56 5) + 1))) rfl ?_
              refine jE_ret rfl ⟨((jFq.rf.sf (by decide)).sf (by decide)), fun r h w e => ?_, fun e => rfl⟩
              unfold jstp at e; rw [if_neg c3, if_neg (fun z => by first | omega | (have z2 := z.2; first | (rw [if_pos (by omega)] at z2; omega) | (rw [if_neg (by omega)] at z2; omega)))] at e; exact absurd e (by simp)
            · refine jm_Ev.bl 2 (pc' := 84) (A' := [jR 56, jI c]) (st' := [jI 1]) (hp' := (jm_hs (jm_hs hp 56 4 ((hp 56 4) + 1)) 56 5 ((hp 56 5) + 1))) rfl ?_
              refine jE_ret rfl ⟨((jFq.rf.sf (by decide)).sf (by decide)), fun r h w e => ?_, fun e => ?_⟩
              · unfold jstp at e; rw [if_neg c3, if_pos ⟨by omega, by first | (rw [if_pos (by omega)]; omega) | (rw [if_neg (by omega)]; omega)⟩] at e; simp only [Option.some.injEq, Prod.mk.injEq] at e; obtain ⟨rfl, rfl, rfl⟩ := e; exact ⟨rfl, rfl, rfl, rfl, by first | rw [if_pos c31]; rfl | rw [if_neg c31]; rfl⟩
              · unfold jstp at e; rw [if_neg c3, if_pos ⟨by omega, by first | (rw [if_pos (by omega)]; omega) | (rw [if_neg (by omega)]; omega)⟩] at e; exact absurd e (by simp)
    · refine jm_Ev.bl 6 (pc' := 46) (A' := [jR 56, jI c]) (st' := [jI 46, jI c]) (hp' := (jm_hs (jm_hs hp 56 4 ((hp 56 4) + 1)) 56 5 ((hp 56 5) + 0))) rfl ?_
      refine jE_icmp_eq rfl (by omega) (by omega) (fun c46 => ?_) (fun c46 => ?_)
      · refine jm_Ev.bl 4 (pc' := 65) (A' := [jR 56, jI c]) (st' := [jI (hp 56 2), jI ((hp 56 4) + 1)]) (hp' := (jm_hs (jm_hs hp 56 4 ((hp 56 4) + 1)) 56 5 ((hp 56 5) + 0))) rfl ?_
        refine jE_if_ne rfl (by omega) (fun c65 => ?_) (fun c65 => ?_)
        · refine jm_Ev.bl 2 (pc' := 76) (A' := [jR 56, jI c]) (st' := [jI (hp 56 2), jI ((hp 56 4) + 1)]) (hp' := (jm_hs (jm_hs hp 56 4 ((hp 56 4) + 1)) 56 5 ((hp 56 5) + 0))) rfl ?_
          refine jE_icmp_gt rfl (by omega) (by omega) (fun c76 => ?_) (fun c76 => ?_)
          · refine jm_Ev.bl 1 (pc' := 84) (A' := [jR 56, jI c]) (st' := [jI 0]) (hp' := (jm_hs (jm_hs hp 56 4 ((hp 56 4) + 1)) 56 5 ((hp 56 5) + 0))) rfl ?_
            refine jE_ret rfl ⟨((jFq.rf.sf (by decide)).sf (by decide)), fun r h w e => ?_, fun e => rfl⟩
            unfold jstp at e; rw [if_neg c3, if_neg (fun z => by first | omega | (have z2 := z.2; first | (rw [if_pos (by omega)] at z2; omega) | (rw [if_neg (by omega)] at z2; omega)))] at e; exact absurd e (by simp)
          · refine jm_Ev.bl 2 (pc' := 84) (A' := [jR 56, jI c]) (st' := [jI 1]) (hp' := (jm_hs (jm_hs hp 56 4 ((hp 56 4) + 1)) 56 5 ((hp 56 5) + 0))) rfl ?_
            refine jE_ret rfl ⟨((jFq.rf.sf (by decide)).sf (by decide)), fun r h w e => ?_, fun e => ?_⟩
            · unfold jstp at e; rw [if_neg c3, if_pos ⟨by omega, by first | (rw [if_pos (by omega)]; omega) | (rw [if_neg (by omega)]; omega)⟩] at e; simp only [Option.some.injEq, Prod.mk.injEq] at e; obtain ⟨rfl, rfl, rfl⟩ := e; exact ⟨rfl, rfl, rfl, rfl, by first | rw [if_pos c31]; rfl | rw [if_neg c31]; rfl⟩
            · unfold jstp at e; rw [if_neg c3, if_pos ⟨by omega, by first | (rw [if_pos (by omega)]; omega) | (rw [if_neg (by omega)]; omega)⟩] at e; exact absurd e (by simp)
        · refine jm_Ev.bl 2 (pc' := 76) (A' := [jR 56, jI c]) (st' := [jI 5, jI ((hp 56 4) + 1)]) (hp' := (jm_hs (jm_hs hp 56 4 ((hp 56 4) + 1)) 56 5 ((hp 56 5) + 0))) rfl ?_
          refine jE_icmp_gt rfl (by omega) (by omega) (fun c76 => ?_) (fun c76 => ?_)
          · refine jm_Ev.bl 1 (pc' := 84) (A' := [jR 56, jI c]) (st' := [jI 0]) (hp' := (jm_hs (jm_hs hp 56 4 ((hp 56 4) + 1)) 56 5 ((hp 56 5) + 0))) rfl ?_
            refine jE_ret rfl ⟨((jFq.rf.sf (by decide)).sf (by decide)), fun r h w e => ?_, fun e => rfl⟩
            unfold jstp at e; rw [if_neg c3, if_neg (fun z => by first | omega | (have z2 := z.2; first | (rw [if_pos (by omega)] at z2; omega) | (rw [if_neg (by omega)] at z2; omega)))] at e; exact absurd e (by simp)
          · refine jm_Ev.bl 2 (pc' := 84) (A' := [jR 56, jI c]) (st' := [jI 1]) (hp' := (jm_hs (jm_hs hp 56 4 ((hp 56 4) + 1)) 56 5 ((hp 56 5) + 0))) rfl ?_
            refine jE_ret rfl ⟨((jFq.rf.sf (by decide)).sf (by decide)), fun r h w e => ?_, fun e => ?_⟩
            · unfold jstp at e; rw [if_neg c3, if_pos ⟨by omega, by first | (rw [if_pos (by omega)]; omega) | (rw [if_neg (by omega)]; omega)⟩] at e; simp only [Option.some.injEq, Prod.mk.injEq] at e; obtain ⟨rfl, rfl, rfl⟩ := e; exact ⟨rfl, rfl, rfl, rfl, by first | rw [if_pos c31]; rfl | rw [if_neg c31]; rfl⟩
            · unfold jstp at e; rw [if_neg c3, if_pos ⟨by omega, by first | (rw [if_pos (by omega)]; omega) | (rw [if_neg (by omega)]; omega)⟩] at e; exact absurd e (by simp)
      · refine jm_Ev.bl 1 (pc' := 50) (A' := [jR 56, jI c]) (st' := [jI c]) (hp' := (jm_hs (jm_hs hp 56 4 ((hp 56 4) + 1)) 56 5 ((hp 56 5) + 0))) rfl ?_
        refine jE_callI (vs := [jI c]) (r := []) (nx := 53) (v := jI (jkb c)) (hp1 := (jm_hs (jm_hs hp 56 4 ((hp 56 4) + 1)) 56 5 ((hp 56 5) + 0))) rfl (c_m_kindBy (jm_hs (jm_hs hp 56 4 ((hp 56 4) + 1)) 56 5 ((hp 56 5) + 0)) c (by omega)) ?_
        refine jm_Ev.bl 1 (pc' := 54) (A' := [jR 56, jI c]) (st' := [jI (-1), jI (jkb c)]) (hp' := (jm_hs (jm_hs hp 56 4 ((hp 56 4) + 1)) 56 5 ((hp 56 5) + 0))) rfl ?_
        refine jE_icmp_eq rfl (by omega) (by omega) (fun c54 => ?_) (fun c54 => ?_)
        · refine jm_Ev.bl 1 (pc' := 84) (A' := [jR 56, jI c]) (st' := [jI 0]) (hp' := (jm_hs (jm_hs hp 56 4 ((hp 56 4) + 1)) 56 5 ((hp 56 5) + 0))) rfl ?_
          refine jE_ret rfl ⟨((jFq.rf.sf (by decide)).sf (by decide)), fun r h w e => ?_, fun e => rfl⟩
          unfold jstp at e; rw [if_neg c3, if_neg (fun z => by first | omega | (have z2 := z.2; first | (rw [if_pos (by omega)] at z2; omega) | (rw [if_neg (by omega)] at z2; omega)))] at e; exact absurd e (by simp)
        · refine jm_Ev.bl 4 (pc' := 65) (A' := [jR 56, jI c]) (st' := [jI (hp 56 2), jI ((hp 56 4) + 1)]) (hp' := (jm_hs (jm_hs hp 56 4 ((hp 56 4) + 1)) 56 5 ((hp 56 5) + 0))) rfl ?_
          refine jE_if_ne rfl (by omega) (fun c65 => ?_) (fun c65 => ?_)
          · refine jm_Ev.bl 2 (pc' := 76) (A' := [jR 56, jI c]) (st' := [jI (hp 56 2), jI ((hp 56 4) + 1)]) (hp' := (jm_hs (jm_hs hp 56 4 ((hp 56 4) + 1)) 56 5 ((hp 56 5) + 0))) rfl ?_
            refine jE_icmp_gt rfl (by omega) (by omega) (fun c76 => ?_) (fun c76 => ?_)
            · refine jm_Ev.bl 1 (pc' := 84) (A' := [jR 56, jI c]) (st' := [jI 0]) (hp' := (jm_hs (jm_hs hp 56 4 ((hp 56 4) + 1)) 56 5 ((hp 56 5) + 0))) rfl ?_
              refine jE_ret rfl ⟨((jFq.rf.sf (by decide)).sf (by decide)), fun r h w e => ?_, fun e => rfl⟩
              unfold jstp at e; rw [if_neg c3, if_neg (fun z => by first | omega | (have z2 := z.2; first | (rw [if_pos (by omega)] at z2; omega) | (rw [if_neg (by omega)] at z2; omega)))] at e; exact absurd e (by simp)
            · refine jm_Ev.bl 2 (pc' := 84) (A' := [jR 56, jI c]) (st' := [jI 1]) (hp' := (jm_hs (jm_hs hp 56 4 ((hp 56 4) + 1)) 56 5 ((hp 56 5) + 0))) rfl ?_
              refine jE_ret rfl ⟨((jFq.rf.sf (by decide)).sf (by decide)), fun r h w e => ?_, fun e => ?_⟩
              · unfold jstp at e; rw [if_neg c3, if_pos ⟨by omega, by first | (rw [if_pos (by omega)]; omega) | (rw [if_neg (by omega)]; omega)⟩] at e; simp only [Option.some.injEq, Prod.mk.injEq] at e; obtain ⟨rfl, rfl, rfl⟩ := e; exact ⟨rfl, rfl, rfl, rfl, by first | rw [if_pos c31]; rfl | rw [if_neg c31]; rfl⟩
              · unfold jstp at e; rw [if_neg c3, if_pos ⟨by omega, by first | (rw [if_pos (by omega)]; omega) | (rw [if_neg (by omega)]; omega)⟩] at e; exact absurd e (by simp)
          · refine jm_Ev.bl 2 (pc' := 76) (A' := [jR 56, jI c]) (st' := [jI 5, jI ((hp 56 4) + 1)]) (hp' := (jm_hs (jm_hs hp 56 4 ((hp 56 4) + 1)) 56 5 ((hp 56 5) + 0))) rfl ?_
            refine jE_icmp_gt rfl (by omega) (by omega) (fun c76 => ?_) (fun c76 => ?_)
            · refine jm_Ev.bl 1 (pc' := 84) (A' := [jR 56, jI c]) (st' := [jI 0]) (hp' := (jm_hs (jm_hs hp 56 4 ((hp 56 4) + 1)) 56 5 ((hp 56 5) + 0))) rfl ?_
              refine jE_ret rfl ⟨((jFq.rf.sf (by decide)).sf (by decide)), fun r h w e => ?_, fun e => rfl⟩
              unfold jstp at e; rw [if_neg c3, if_neg (fun z => by first | omega | (have z2 := z.2; first | (rw [if_pos (by omega)] at z2; omega) | (rw [if_neg (by omega)] at z2; omega)))] at e; exact absurd e (by simp)
            · refine jm_Ev.bl 2 (pc' := 84) (A' := [jR 56, jI c]) (st' := [jI 1]) (hp' := (jm_hs (jm_hs hp 56 4 ((hp 56 4) + 1)) 56 5 ((hp 56 5) + 0))) rfl ?_
              refine jE_ret rfl ⟨((jFq.rf.sf (by decide)).sf (by decide)), fun r h w e => ?_, fun e => ?_⟩
              · unfold jstp at e; rw [if_neg c3, if_pos ⟨by omega, by first | (rw [if_pos (by omega)]; omega) | (rw [if_neg (by omega)]; omega)⟩] at e; simp only [Option.some.injEq, Prod.mk.injEq] at e; obtain ⟨rfl, rfl, rfl⟩ := e; exact ⟨rfl, rfl, rfl, rfl, by first | rw [if_pos c31]; rfl | rw [if_neg c31]; rfl⟩
              · unfold jstp at e; rw [if_neg c3, if_pos ⟨by omega, by first | (rw [if_pos (by omega)]; omega) | (rw [if_neg (by omega)]; omega)⟩] at e; exact absurd e (by simp)
  · refine jm_Ev.bl 1 (pc' := 7) (A' := [jR 56, jI c]) (st' := [jR 56]) (hp' := hp) rfl ?_
    refine jE_call (vs := [jR 56]) (r := []) (nx := 10) rfl (c_m_isRowEnd hp h3 h4 h2) (fun rv7 h hq => ?_)
    subst c3
    cases hst : jstp 47 (hp 56 3) (hp 56 4) (hp 56 2) with
    | none => have e0 := hq.2.2 hst; subst e0; exact jE_ret rfl hq
    | some t =>
      obtain ⟨r, h', w⟩ := t
      have e0 := (hq.2.1 r h' w hst).1
      subst e0
      exact jE_ret rfl hq
theorem jpst_t {c : Int → Int} {i r h w : Int} (hi : 0 ≤ i) (e : jpst c i.toNat = some (r, h, w)) : jpst c (i + 1).toNat = jstp (c i) r h w := jpst_s hi e
def jftp (hp : jm_H) : Option jm_V → jm_H → Prop := fun rv h' => rv = some (jI (jflt (hp 57) (hp 56 1).toNat)) ∧ jFq hp h' [] [2, 3, 4, 5] ∧ (∀ r h w, jpst (hp 57) (hp 56 1).toNat = some (r, h, w) → h' 56 3 = r ∧ h' 56 4 = h ∧ h' 56 2 = w ∧ h' 56 5 = jcnt (fun j => jkb (hp 57 j)) (hp 56 1).toNat)
theorem c_m_faultOf_L (hp : jm_H) (hP : jPg (hp 56 1) (hp 57)) : ∀ (n : Nat) (i r x w : Int) (h : jm_H), 0 ≤ i → i ≤ hp 56 1 → jpst (hp 57) i.toNat = some (r, x, w) → h 56 3 = r → h 56 4 = x → h 56 2 = w → h 56 5 = jcnt (fun j => jkb (hp 57 j)) i.toNat → jFq hp h [] [2, 3, 4, 5] → hp 56 1 - i < n → jm_Ev 139 22 [jR 56, jI i] [] h (jftp hp) := by
  obtain ⟨h1, h2, h3⟩ := id hP
  intro n
  induction n with
  | zero => intro i r x w h hi0 hi1 hs b3 b4 b2 b5 hf hn; omega
  | succ n ih =>
    intro i r x w h hi0 hi1 hs b3 b4 b2 b5 hf hn
    have q := jpst_i i.toNat hs
    have ep := hf.pl 57 (by decide) (by decide)
    have e1 := hf.fd 1 (by decide) (by decide)
    refine jm_Ev.bl 3 (pc' := 27) (A' := [jR 56, jI i]) (st' := [jI (h 56 1), jI i]) (hp' := h) rfl ?_
    refine jE_icmp_ge rfl (by omega) (by omega) (fun c27 => ?_) (fun c27 => ?_)
    · refine jm_Ev.bl 1 (pc' := 50) (A' := [jR 56, jI i]) (st' := [jI i]) (hp' := h) rfl ?_
      have e : i = hp 56 1 := by omega
      subst e
      refine jE_ret rfl ⟨jrI ?_, hf, fun r' x' w' e => ?_⟩
      · rw [jflt_b _ (by rw [hs]; simp)]; omega
      · rw [hs] at e; simp only [Option.some.injEq, Prod.mk.injEq] at e; obtain ⟨rfl, rfl, rfl⟩ := e; exact ⟨b3, b4, b2, b5⟩
    · refine jm_Ev.bl 4 (pc' := 36) (A' := [jR 56, jI i]) (st' := [jI i, jR 57, jR 56]) (hp' := h) rfl ?_
      refine jE_iald (n := 32) (f := h 57) rfl rfl (by omega) ?_
      have hcr : 1 ≤ h 57 i ∧ h 57 i ≤ 126 := by rw [ep]; exact h3 i hi0 (by omega)
      refine jE_call (vs := [jR 56, jI (h 57 i)]) (r := []) (nx := 40) rfl (c_m_isGood h _ (by omega) (by omega) (by omega) (by omega)) (fun rv37 h' hq => ?_)
      have ej := jpst_t hi0 hs
      cases hst : jstp (hp 57 i) r x w with
      | none =>
        have e0 := hq.2.2 (by rw [b3, b4, b2, ep]; exact hst)
        subst e0
        refine jE_if_eq rfl (by omega) (fun _ => ?_) (fun z => absurd rfl z)
        refine jE_b1 rfl (jE_ret rfl ⟨jrI (jflt_none hi0 (by omega) hs (by rw [ej]; exact hst)).symm, hf.tr hq.1 (by simp) (by simp) (by simp) (by simp), fun r' x' w' e => ?_⟩)
        have := jpst_n (k := (i + 1).toNat) (m := (hp 56 1).toNat) (by omega) (by rw [ej]; exact hst)
        rw [this] at e
        exact absurd e (by simp)
      | some t =>
        obtain ⟨r', x', w'⟩ := t
        have e0 := hq.2.1 r' x' w' (by rw [b3, b4, b2, ep]; exact hst)
        obtain ⟨rfl, f3, f4, f2, f5⟩ := e0
        refine jE_if_eq rfl (by omega) (fun z => absurd z (by omega)) (fun _ => ?_)
        refine jm_Ev.bl 2 (pc' := 22) (A' := [jR 56, jI (i + 1)]) (st' := []) (hp' := h') rfl ?_
        exact ih (i + 1) r' x' w' h' (by omega) (by omega) (by rw [ej]; exact hst) f3 f4 f2 (by rw [f5, b5, jcnt_s _ hi0, ep]) (hf.tr hq.1 (by simp) (by simp) (by simp) (by simp)) (by omega)
theorem c_m_faultOf (hp : jm_H) (hP : jPg (hp 56 1) (hp 57)) : jm_Ev 139 0 [jR 56, jU] [] hp (jftp hp) := by
  obtain ⟨h1, h2, h3⟩ := id hP
  refine jm_Ev.bl 14 (pc' := 22) (A' := [jR 56, jI 0]) (st' := []) (hp' := (jm_hs (jm_hs (jm_hs (jm_hs hp 56 2 0) 56 3 0) 56 4 0) 56 5 0)) rfl ?_
  exact c_m_faultOf_L hp hP 33 0 0 0 0 _ (by omega) (by omega) rfl rfl rfl rfl rfl ((((jFq.rf.sf (by decide)).sf (by decide)).sf (by decide)).sf (by decide)) (by omega)
