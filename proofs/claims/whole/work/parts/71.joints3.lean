/-! the class's Joints: fewest, fill -/
theorem jfind_spec {p : Nat → Bool} : ∀ (k s : Nat), s ≤ jfind p k s ∧ jfind p k s ≤ s + k ∧ (∀ m, s ≤ m → m < jfind p k s → p m = false) ∧ (jfind p k s = s + k ∨ p (jfind p k s) = true) := by
  intro k
  induction k with
  | zero => intro s; unfold jfind; exact ⟨by omega, by omega, fun m a b => by omega, Or.inl rfl⟩
  | succ k ih =>
    intro s
    unfold jfind
    by_cases c : p s = true
    · rw [if_pos c]; exact ⟨by omega, by omega, fun m a b => by omega, Or.inr c⟩
    · rw [if_neg c]
      obtain ⟨a1, a2, a3, a4⟩ := ih (s + 1)
      refine ⟨by omega, by omega, fun m a b => ?_, ?_⟩
      · by_cases q : m = s
        · subst q; exact Bool.eq_false_iff.mpr c
        · exact a3 m (by omega) b
      · rcases a4 with a4 | a4
        · exact Or.inl (by omega)
        · exact Or.inr a4
def jLs (N : Int) (P : Int → Int → Int) (f l : Int) : Prop := 3 ≤ l ∧ l ≤ N ∧ (l = N ∨ ∃ g, 0 ≤ g ∧ g < f ∧ (jdc N P g l.toNat).1 ≠ -1) ∧ ∀ m : Nat, 3 ≤ m → (m : Int) < l → ∀ g, 0 ≤ g → g < f → (jdc N P g m).1 = -1
theorem jLs_0 {N : Int} {P : Int → Int → Int} (h : jPw N P) : jLs N P 0 N := by
  have := h.1
  exact ⟨by omega, by omega, Or.inl rfl, fun m a b g c d => by omega⟩
theorem jLs_f {N : Int} {P : Int → Int → Int} {f l : Int} (f0 : 0 ≤ f) (h : jLs N P f l) : jLs N P (f + 1) (jff N P f l) := by
  obtain ⟨h1, h2, h3, h4⟩ := h
  have s := jfind_spec (p := fun n => decide ((jdc N P f n).1 ≠ -1)) (l - 3).toNat 3
  unfold jff
  generalize jfind (fun n => decide ((jdc N P f n).1 ≠ -1)) (l - 3).toNat 3 = r at *
  obtain ⟨s1, s2, s3, s4⟩ := s
  refine ⟨by omega, by omega, ?_, fun m a b g c d => ?_⟩
  · rw [Int.toNat_natCast]
    rcases s4 with s4 | s4
    · rcases h3 with h3 | ⟨g, a, b, c⟩
      · exact Or.inl (by omega)
      · exact Or.inr ⟨g, a, by omega, by rw [show r = l.toNat by omega]; exact c⟩
    · exact Or.inr ⟨f, f0, by omega, of_decide_eq_true s4⟩
  · by_cases q : g = f
    · subst q
      have z := of_decide_eq_false (s3 m a (by omega))
      by_cases w : (jdc N P g m).1 = -1
      · exact w
      · exact absurd w z
    · exact h4 m a (by omega) g c (by omega)
theorem jLs_k {N : Int} {P : Int → Int → Int} {f l : Int} (f0 : 0 ≤ f) (h : jLs N P f l) (hn : ∀ n : Nat, n ≤ 100 → (jdc N P f n).1 = -1) (hN : N ≤ 60) : jLs N P (f + 1) l := by
  obtain ⟨h1, h2, h3, h4⟩ := h
  refine ⟨h1, h2, ?_, fun m a b g c d => ?_⟩
  · rcases h3 with h3 | ⟨g, a, b, c⟩
    · exact Or.inl h3
    · exact Or.inr ⟨g, a, by omega, c⟩
  · by_cases q : g = f
    · subst q; exact hn m (by omega)
    · exact h4 m a b g c (by omega)
theorem jLs_N {N : Int} {P : Int → Int → Int} (h : jPw N P) {l : Int} (hl : jLs N P N l) : l = (jlst N P : Int) := by
  obtain ⟨h1, h2, h3, h4⟩ := hl
  have h4' := h.1
  have e := jlst_eq h (n := l.toNat) ⟨by omega, by omega, ?_, fun m a b g c d => h4 m a (by omega) g c d⟩
  · omega
  · rcases h3 with h3 | ⟨g, a, b, c⟩
    · exact ⟨0, by omega, by omega, by rw [h3]; exact jdc_all h⟩
    · exact ⟨g, a, b, c⟩
theorem c_j_fewest_L_31 (hp : jm_H) (N : Int) (P : Int → Int → Int) (hJ : jJr (hp 32) N P) (hP : jPw N P) (eL : hp 31 3 = N) : ∀ (m : Nat) (l f : Int) (z1 z2 : jm_V), 0 ≤ f → f ≤ N → jLs N P f l → N - f < m → jm_Ev 45 7 [jR 31, jI l, jI f, z1, z2] [] hp (jK (some (jI (jlst N P : Int))) hp) := by
  have hN4 := hP.1
  have hN6 := hP.2.1
  intro n
  induction n with
  | zero => intro l f z1 z2 h0 h1 hl hm; omega
  | succ n ih =>
    intro l f z1 z2 h0 h1 hl hm
    refine jm_Ev.bl 3 (pc' := 12) (A' := [jR 31, jI l, jI f, z1, z2]) (st' := [jI (hp 31 3), jI f]) (hp' := hp) rfl ?_
    rw [eL]
    refine jE_icmp_ge rfl (by omega) (by omega) (fun c12 => ?_) (fun c12 => ?_)
    · refine jm_Ev.bl 1 (pc' := 42) (A' := [jR 31, jI l, jI f, z1, z2]) (st' := [jI l]) (hp' := hp) rfl ?_
      exact jE_ret rfl ⟨jrI (jLs_N hP (show jLs N P N l from (show f = N by omega) ▸ hl)), rfl⟩
    · refine jm_Ev.bl 2 (pc' := 17) (A' := [jR 31, jI l, jI f, z1, z2]) (st' := [jI f, jR 31]) (hp' := hp) rfl ?_
      refine jE_callI (vs := [jR 31, jI f]) (r := []) (nx := 20) (v := jL (jlo P f (N - (f + 1)).toNat)) (hp1 := hp) rfl (c_j_lastOnes_31 hp N P hJ hP.2.1 eL f (by omega)) ?_
      refine jm_Ev.bl 3 (pc' := 23) (A' := [jR 31, jI l, jI f, jL (jlo P f (N - (f + 1)).toNat), jU]) (st' := [jL 0, jL (jlo P f (N - (f + 1)).toNat)]) (hp' := hp) rfl ?_
      have r64 := jlo_r (P := P) (f := f) (N - (f + 1)).toNat
      refine jE_lcmp rfl (by omega) (by omega) ?_
      refine jE_lc_eq rfl (fun c24 => ?_) (fun c24 => ?_)
      · refine jm_Ev.bl 2 (pc' := 7) (A' := [jR 31, jI l, jI (f + 1), jL (jlo P f (N - (f + 1)).toNat), jU]) (st' := []) (hp' := hp) rfl ?_
        exact ih l (f + 1) (jL (jlo P f (N - (f + 1)).toNat)) (jU) (by omega) (by omega) (jLs_k (by omega) hl (jlast0 hP (by omega) (by omega) c24) hP.2.1) (by omega)
      · refine jm_Ev.bl 4 (pc' := 31) (A' := [jR 31, jI l, jI f, jL (jlo P f (N - (f + 1)).toNat), jU]) (st' := [jI l, jL (jlo P f (N - (f + 1)).toNat), jI f, jR 31]) (hp' := hp) rfl ?_
        refine jE_callI (vs := [jR 31, jI f, jL (jlo P f (N - (f + 1)).toNat), jI l]) (r := []) (nx := 34) (v := jI (jff N P f l)) (hp1 := hp) rfl (c_j_fewestFrom_31 hp N P hJ hP.2.1 hP eL f (by omega) l ⟨hl.1, hl.2.1⟩) ?_
        refine jm_Ev.bl 3 (pc' := 7) (A' := [jR 31, jI (jff N P f l), jI (f + 1), jL (jlo P f (N - (f + 1)).toNat), jU]) (st' := []) (hp' := hp) rfl ?_
        exact ih (jff N P f l) (f + 1) (jL (jlo P f (N - (f + 1)).toNat)) (jU) (by omega) (by omega) (jLs_f (by omega) hl) (by omega)
theorem c_j_fewest_31 (hp : jm_H) (N : Int) (P : Int → Int → Int) (hJ : jJr (hp 32) N P) (hP : jPw N P) (eL : hp 31 3 = N) : jm_Ev 45 0 [jR 31, jU, jU, jU, jU] [] hp (jK (some (jI (jlst N P : Int))) hp) := by
  have hN4 := hP.1
  have hN6 := hP.2.1
  refine jm_Ev.bl 2 (pc' := 4) (A' := [jR 31, jU, jU, jU, jU]) (st' := [jI (hp 31 3)]) (hp' := hp) rfl ?_
  rw [eL]
  refine jm_Ev.bl 3 (pc' := 7) (A' := [jR 31, jI N, jI 0, jU, jU]) (st' := []) (hp' := hp) rfl ?_
  exact c_j_fewest_L_31 hp N P hJ hP eL 61 N 0 _ _ (by omega) (by omega) (jLs_0 hP) (by omega)
theorem jVo_fr_20 {hp h : jm_H} {i s N : Int} {X Y L M : Int → Int} (hV : jVo_20 hp i s N X Y L M) (e : ∀ q, 20 ≤ q → q ≤ 30 → h q = hp q) : jVo_20 h i s N X Y L M := by
  unfold jVo_20 at *
  rw [e 20 (by omega) (by omega), e 21 (by omega) (by omega), e 22 (by omega) (by omega), e 24 (by omega) (by omega), e 25 (by omega) (by omega), e 27 (by omega) (by omega), e 28 (by omega) (by omega)]
  exact hV
def jfill_31 (hp : jm_H) (i N : Int) (X Y L M : Int → Int) : Option jm_V → jm_H → Prop := fun rv h => rv = none ∧ h 31 2 = i ∧ h 31 3 = N ∧ (∀ a : Int, 0 ≤ a → a < N → h 32 a = jjf N X Y L M a (N - 1).toNat) ∧ jFr hp h [31, 32]
theorem c_j_fill_L_31 (hp : jm_H) (i s N : Int) (X Y L M : Int → Int) (hV : jVo_20 hp i s N X Y L M) (hW : jWy N X Y L M) : ∀ (m : Nat) (f : Int) (h : jm_H), 0 ≤ f → f ≤ N → h 31 2 = i → h 31 3 = N → (∀ a : Int, 0 ≤ a → a < f → h 32 a = jjf N X Y L M a (N - 1).toNat) → jFr hp h [31, 32] → N - f < m → jm_Ev 40 33 [jR 31, jI i, jI f] [] h (jfill_31 hp i N X Y L M) := by
  obtain ⟨es, eN, s0, s60, hi, hpt⟩ := id hV
  have hN := hW.1
  have hN6 := hW.2.1
  intro n
  induction n with
  | zero => intro f h h0 h1 e2 e3 hfl hfr hm; omega
  | succ n ih =>
    intro f h h0 h1 e2 e3 hfl hfr hm
    refine jm_Ev.bl 3 (pc' := 38) (A' := [jR 31, jI i, jI f]) (st' := [jI (h 31 3), jI f]) (hp' := h) rfl ?_
    rw [e3]
    refine jE_icmp_ge rfl (by omega) (by omega) (fun c38 => ?_) (fun c38 => ?_)
    · exact jE_ret rfl ⟨rfl, e2, e3, fun a a0 a1 => hfl a a0 (by omega), hfr⟩
    · refine jm_Ev.bl 6 (pc' := 49) (A' := [jR 31, jI i, jI f]) (st' := [jI f, jI i, jR 31, jI f, jR 32]) (hp' := h) rfl ?_
      refine jE_callI (vs := [jR 31, jI i, jI f]) (r := [jI f, jR 32]) (nx := 52) (v := jL (jjf N X Y L M f (N - 1).toNat)) (hp1 := h) rfl (c_j_jointsFrom_31 h i s N X Y L M (jVo_fr_20 hV (fun q a b => hfr q (by simp; omega))) hW e3 f (by omega)) ?_
      refine jE_last (n := 60) rfl rfl (by omega) ?_
      refine jm_Ev.bl 2 (pc' := 33) (A' := [jR 31, jI i, jI (f + 1)]) (st' := []) (hp' := (jm_hs h 32 f (jjf N X Y L M f (N - 1).toNat))) rfl ?_
      exact ih (f + 1) _ (by omega) (by omega) e2 e3 (jhs_lt hfl rfl) (hfr.set (by simp)) (by omega)
theorem c_j_fill_31 (hp : jm_H) (i s N : Int) (X Y L M : Int → Int) (hV : jVo_20 hp i s N X Y L M) (hW : jWy N X Y L M) (hF : hp 31 2 = i → hp 31 3 = N ∧ ∀ a : Int, 0 ≤ a → a < N → hp 32 a = jjf N X Y L M a (N - 1).toNat) (hr : jR32 (hp 31 2)) : jm_Ev 40 0 [jR 31, jI i, jU] [] hp (jfill_31 hp i N X Y L M) := by
  obtain ⟨es, eN, s0, s60, hi, hpt⟩ := id hV
  have hN := hW.1
  have hN6 := hW.2.1
  refine jm_Ev.bl 3 (pc' := 5) (A' := [jR 31, jI i, jU]) (st' := [jI i, jI (hp 31 2)]) (hp' := hp) rfl ?_
  refine jE_icmp_ne rfl (by omega) (by omega) (fun c5 => ?_) (fun c5 => ?_)
  · refine jm_Ev.bl 7 (pc' := 20) (A' := [jR 31, jI i, jU]) (st' := [jI i, jR 20, jR 31]) (hp' := (jm_hs hp 31 2 i)) rfl ?_
    refine jE_callI (vs := [jR 20, jI i]) (r := [jR 31]) (nx := 23) (v := jI N) (hp1 := (jm_hs hp 31 2 i)) rfl (eN ▸ c_o_len_20 (jm_hs hp 31 2 i) (by show 0 ≤ hp 20 0 ∧ hp 20 0 ≤ 15; omega) i (by omega) (by show i < hp 20 0; omega)) ?_
    refine jm_Ev.bl 1 (pc' := 25) (A' := [jR 31, jI i, jU]) (st' := [jI 60, jI N, jR 31]) (hp' := (jm_hs hp 31 2 i)) rfl ?_
    refine jE_min (nx := 28) rfl (by omega) (by omega) ?_
    refine jE_top (w := N) (by omega) ?_
    refine jm_Ev.bl 3 (pc' := 33) (A' := [jR 31, jI i, jI 0]) (st' := []) (hp' := (jm_hs (jm_hs hp 31 2 i) 31 3 N)) rfl ?_
    exact c_j_fill_L_31 hp i s N X Y L M hV hW 61 0 _ (by omega) (by omega) rfl rfl (fun a a0 a1 => by omega) ((jFr.rf.set (by simp)).set (by simp)) (by omega)
  · exact jE_ret rfl ⟨rfl, c5, (hF c5).1, (hF c5).2, jFr.rf⟩
theorem c_j_fewest_L_54 (hp : jm_H) (N : Int) (P : Int → Int → Int) (hJ : jJr (hp 55) N P) (hP : jPw N P) (eL : hp 54 3 = N) : ∀ (m : Nat) (l f : Int) (z1 z2 : jm_V), 0 ≤ f → f ≤ N → jLs N P f l → N - f < m → jm_Ev 45 7 [jR 54, jI l, jI f, z1, z2] [] hp (jK (some (jI (jlst N P : Int))) hp) := by
  have hN4 := hP.1
  have hN6 := hP.2.1
  intro n
  induction n with
  | zero => intro l f z1 z2 h0 h1 hl hm; omega
  | succ n ih =>
    intro l f z1 z2 h0 h1 hl hm
    refine jm_Ev.bl 3 (pc' := 12) (A' := [jR 54, jI l, jI f, z1, z2]) (st' := [jI (hp 54 3), jI f]) (hp' := hp) rfl ?_
    rw [eL]
    refine jE_icmp_ge rfl (by omega) (by omega) (fun c12 => ?_) (fun c12 => ?_)
    · refine jm_Ev.bl 1 (pc' := 42) (A' := [jR 54, jI l, jI f, z1, z2]) (st' := [jI l]) (hp' := hp) rfl ?_
      exact jE_ret rfl ⟨jrI (jLs_N hP (show jLs N P N l from (show f = N by omega) ▸ hl)), rfl⟩
    · refine jm_Ev.bl 2 (pc' := 17) (A' := [jR 54, jI l, jI f, z1, z2]) (st' := [jI f, jR 54]) (hp' := hp) rfl ?_
      refine jE_callI (vs := [jR 54, jI f]) (r := []) (nx := 20) (v := jL (jlo P f (N - (f + 1)).toNat)) (hp1 := hp) rfl (c_j_lastOnes_54 hp N P hJ hP.2.1 eL f (by omega)) ?_
      refine jm_Ev.bl 3 (pc' := 23) (A' := [jR 54, jI l, jI f, jL (jlo P f (N - (f + 1)).toNat), jU]) (st' := [jL 0, jL (jlo P f (N - (f + 1)).toNat)]) (hp' := hp) rfl ?_
      have r64 := jlo_r (P := P) (f := f) (N - (f + 1)).toNat
      refine jE_lcmp rfl (by omega) (by omega) ?_
      refine jE_lc_eq rfl (fun c24 => ?_) (fun c24 => ?_)
      · refine jm_Ev.bl 2 (pc' := 7) (A' := [jR 54, jI l, jI (f + 1), jL (jlo P f (N - (f + 1)).toNat), jU]) (st' := []) (hp' := hp) rfl ?_
        exact ih l (f + 1) (jL (jlo P f (N - (f + 1)).toNat)) (jU) (by omega) (by omega) (jLs_k (by omega) hl (jlast0 hP (by omega) (by omega) c24) hP.2.1) (by omega)
      · refine jm_Ev.bl 4 (pc' := 31) (A' := [jR 54, jI l, jI f, jL (jlo P f (N - (f + 1)).toNat), jU]) (st' := [jI l, jL (jlo P f (N - (f + 1)).toNat), jI f, jR 54]) (hp' := hp) rfl ?_
        refine jE_callI (vs := [jR 54, jI f, jL (jlo P f (N - (f + 1)).toNat), jI l]) (r := []) (nx := 34) (v := jI (jff N P f l)) (hp1 := hp) rfl (c_j_fewestFrom_54 hp N P hJ hP.2.1 hP eL f (by omega) l ⟨hl.1, hl.2.1⟩) ?_
        refine jm_Ev.bl 3 (pc' := 7) (A' := [jR 54, jI (jff N P f l), jI (f + 1), jL (jlo P f (N - (f + 1)).toNat), jU]) (st' := []) (hp' := hp) rfl ?_
        exact ih (jff N P f l) (f + 1) (jL (jlo P f (N - (f + 1)).toNat)) (jU) (by omega) (by omega) (jLs_f (by omega) hl) (by omega)
theorem c_j_fewest_54 (hp : jm_H) (N : Int) (P : Int → Int → Int) (hJ : jJr (hp 55) N P) (hP : jPw N P) (eL : hp 54 3 = N) : jm_Ev 45 0 [jR 54, jU, jU, jU, jU] [] hp (jK (some (jI (jlst N P : Int))) hp) := by
  have hN4 := hP.1
  have hN6 := hP.2.1
  refine jm_Ev.bl 2 (pc' := 4) (A' := [jR 54, jU, jU, jU, jU]) (st' := [jI (hp 54 3)]) (hp' := hp) rfl ?_
  rw [eL]
  refine jm_Ev.bl 3 (pc' := 7) (A' := [jR 54, jI N, jI 0, jU, jU]) (st' := []) (hp' := hp) rfl ?_
  exact c_j_fewest_L_54 hp N P hJ hP eL 61 N 0 _ _ (by omega) (by omega) (jLs_0 hP) (by omega)
theorem jVo_fr_43 {hp h : jm_H} {i s N : Int} {X Y L M : Int → Int} (hV : jVo_43 hp i s N X Y L M) (e : ∀ q, 43 ≤ q → q ≤ 53 → h q = hp q) : jVo_43 h i s N X Y L M := by
  unfold jVo_43 at *
  rw [e 43 (by omega) (by omega), e 44 (by omega) (by omega), e 45 (by omega) (by omega), e 47 (by omega) (by omega), e 48 (by omega) (by omega), e 50 (by omega) (by omega), e 51 (by omega) (by omega)]
  exact hV
def jfill_54 (hp : jm_H) (i N : Int) (X Y L M : Int → Int) : Option jm_V → jm_H → Prop := fun rv h => rv = none ∧ h 54 2 = i ∧ h 54 3 = N ∧ (∀ a : Int, 0 ≤ a → a < N → h 55 a = jjf N X Y L M a (N - 1).toNat) ∧ jFr hp h [54, 55]
theorem c_j_fill_L_54 (hp : jm_H) (i s N : Int) (X Y L M : Int → Int) (hV : jVo_43 hp i s N X Y L M) (hW : jWy N X Y L M) : ∀ (m : Nat) (f : Int) (h : jm_H), 0 ≤ f → f ≤ N → h 54 2 = i → h 54 3 = N → (∀ a : Int, 0 ≤ a → a < f → h 55 a = jjf N X Y L M a (N - 1).toNat) → jFr hp h [54, 55] → N - f < m → jm_Ev 40 33 [jR 54, jI i, jI f] [] h (jfill_54 hp i N X Y L M) := by
  obtain ⟨es, eN, s0, s60, hi, hpt⟩ := id hV
  have hN := hW.1
  have hN6 := hW.2.1
  intro n
  induction n with
  | zero => intro f h h0 h1 e2 e3 hfl hfr hm; omega
  | succ n ih =>
    intro f h h0 h1 e2 e3 hfl hfr hm
    refine jm_Ev.bl 3 (pc' := 38) (A' := [jR 54, jI i, jI f]) (st' := [jI (h 54 3), jI f]) (hp' := h) rfl ?_
    rw [e3]
    refine jE_icmp_ge rfl (by omega) (by omega) (fun c38 => ?_) (fun c38 => ?_)
    · exact jE_ret rfl ⟨rfl, e2, e3, fun a a0 a1 => hfl a a0 (by omega), hfr⟩
    · refine jm_Ev.bl 6 (pc' := 49) (A' := [jR 54, jI i, jI f]) (st' := [jI f, jI i, jR 54, jI f, jR 55]) (hp' := h) rfl ?_
      refine jE_callI (vs := [jR 54, jI i, jI f]) (r := [jI f, jR 55]) (nx := 52) (v := jL (jjf N X Y L M f (N - 1).toNat)) (hp1 := h) rfl (c_j_jointsFrom_54 h i s N X Y L M (jVo_fr_43 hV (fun q a b => hfr q (by simp; omega))) hW e3 f (by omega)) ?_
      refine jE_last (n := 60) rfl rfl (by omega) ?_
      refine jm_Ev.bl 2 (pc' := 33) (A' := [jR 54, jI i, jI (f + 1)]) (st' := []) (hp' := (jm_hs h 55 f (jjf N X Y L M f (N - 1).toNat))) rfl ?_
      exact ih (f + 1) _ (by omega) (by omega) e2 e3 (jhs_lt hfl rfl) (hfr.set (by simp)) (by omega)
theorem c_j_fill_54 (hp : jm_H) (i s N : Int) (X Y L M : Int → Int) (hV : jVo_43 hp i s N X Y L M) (hW : jWy N X Y L M) (hF : hp 54 2 = i → hp 54 3 = N ∧ ∀ a : Int, 0 ≤ a → a < N → hp 55 a = jjf N X Y L M a (N - 1).toNat) (hr : jR32 (hp 54 2)) : jm_Ev 40 0 [jR 54, jI i, jU] [] hp (jfill_54 hp i N X Y L M) := by
  obtain ⟨es, eN, s0, s60, hi, hpt⟩ := id hV
  have hN := hW.1
  have hN6 := hW.2.1
  refine jm_Ev.bl 3 (pc' := 5) (A' := [jR 54, jI i, jU]) (st' := [jI i, jI (hp 54 2)]) (hp' := hp) rfl ?_
  refine jE_icmp_ne rfl (by omega) (by omega) (fun c5 => ?_) (fun c5 => ?_)
  · refine jm_Ev.bl 7 (pc' := 20) (A' := [jR 54, jI i, jU]) (st' := [jI i, jR 43, jR 54]) (hp' := (jm_hs hp 54 2 i)) rfl ?_
    refine jE_callI (vs := [jR 43, jI i]) (r := [jR 54]) (nx := 23) (v := jI N) (hp1 := (jm_hs hp 54 2 i)) rfl (eN ▸ c_o_len_43 (jm_hs hp 54 2 i) (by show 0 ≤ hp 43 0 ∧ hp 43 0 ≤ 15; omega) i (by omega) (by show i < hp 43 0; omega)) ?_
    refine jm_Ev.bl 1 (pc' := 25) (A' := [jR 54, jI i, jU]) (st' := [jI 60, jI N, jR 54]) (hp' := (jm_hs hp 54 2 i)) rfl ?_
    refine jE_min (nx := 28) rfl (by omega) (by omega) ?_
    refine jE_top (w := N) (by omega) ?_
    refine jm_Ev.bl 3 (pc' := 33) (A' := [jR 54, jI i, jI 0]) (st' := []) (hp' := (jm_hs (jm_hs hp 54 2 i) 54 3 N)) rfl ?_
    exact c_j_fill_L_54 hp i s N X Y L M hV hW 61 0 _ (by omega) (by omega) rfl rfl (fun a a0 a1 => by omega) ((jFr.rf.set (by simp)).set (by simp)) (by omega)
  · exact jE_ret rfl ⟨rfl, c5, (hF c5).1, (hF c5).2, jFr.rf⟩
