/-! the model's layPens, layBest, mark -/
def jlp (hp : jm_H) (N : Int) (P : Int → Int → Int) : Option jm_V → jm_H → Prop := fun rv h => rv = none ∧ jPe h N P ∧ jFq hp h [67] []
def jPt2 (h : jm_H) (a b N : Int) (P : Int → Int → Int) : Prop := ∀ u v, 0 ≤ u → u < N → 0 ≤ v → v < N → (u < a ∨ (u = a ∧ v < b)) → h 67 (128 * u + v) = P u v
theorem jVm_fr {hp h : jm_H} {i s N : Int} {X Y L M : Int → Int} (hV : jVm hp i s N X Y L M) (e : ∀ q, 59 ≤ q → q ≤ 64 → h q = hp q) : jVm h i s N X Y L M := by
  unfold jVm at *
  rw [e 59 (by omega) (by omega), e 60 (by omega) (by omega), e 61 (by omega) (by omega), e 62 (by omega) (by omega), e 63 (by omega) (by omega), e 64 (by omega) (by omega)]
  exact hV
theorem c_m_lp_2 {Q : Option jm_V → jm_H → Prop} (hp : jm_H) (K : Int → Int → Int) (q : List jT) (i s : Int) (hV : jVm hp i s q.length (jpx q) (jpy q) (jpl_ K q) (jpm K q)) (hW : jWy q.length (jpx q) (jpy q) (jpl_ K q) (jpm K q)) (a : Int) (ha : 0 ≤ a ∧ a < q.length) (k : ∀ b h, jPt2 h (a + 1) 0 q.length (jPP K q) → jFq hp h [67] [] → jm_Ev 162 60 [jR 56, jI i, jI (q.length : Int), jI a, b] [] h Q) : ∀ (m : Nat) (b : Int) (h : jm_H), 0 ≤ b → b ≤ q.length → jPt2 h a b q.length (jPP K q) → jFq hp h [67] [] → q.length - b < m → jm_Ev 162 17 [jR 56, jI i, jI (q.length : Int), jI a, jI b] [] h Q := by
  have hN4 := hW.1
  have hN6 := hW.2.1
  obtain ⟨es, eN, s0, s60, hi, hpt⟩ := id hV
  intro n
  induction n with
  | zero => intro b h h0 h1 hs hfr hm; omega
  | succ n ih =>
    intro b h h0 h1 hs hfr hm
    refine jm_Ev.bl 2 (pc' := 20) (A' := [jR 56, jI i, jI (q.length : Int), jI a, jI b]) (st' := [jI (q.length : Int), jI b]) (hp' := h) rfl ?_
    refine jE_icmp_ge rfl (by omega) (by omega) (fun c20 => ?_) (fun c20 => ?_)
    · exact k (jI b) h (fun u v a b c d e => hs u v a b c d (by omega)) hfr
    · refine jm_Ev.bl 9 (pc' := 38) (A' := [jR 56, jI i, jI (q.length : Int), jI a, jI b]) (st' := [jI b, jI a, jI ((128 * a) + b), jR 67]) (hp' := h) rfl ?_
      refine jE_icmp_ne rfl (by omega) (by omega) (fun c38 => ?_) (fun c38 => ?_)
      · have eB : jpb q.length (jpx q) (jpy q) (jpl_ K q) (jpm K q) a b = jPP K q a b := by unfold jPP; rw [if_neg c38]
        refine jm_Ev.bl 4 (pc' := 50) (A' := [jR 56, jI i, jI (q.length : Int), jI a, jI b]) (st' := [jI b, jI a, jI i, jR 56, jI ((128 * a) + b), jR 67]) (hp' := h) rfl ?_
        refine jE_callI (vs := [jR 56, jI i, jI a, jI b]) (r := [jI ((128 * a) + b), jR 67]) (nx := 53) (v := jI (jPP K q a b)) (hp1 := h) rfl (eB ▸ c_m_bits h i s q.length (jpx q) (jpy q) (jpl_ K q) (jpm K q) (jVm_fr hV (fun w _ _ => hfr.pl w (by simp; omega) (by omega))) hW a b (by omega) (by omega) c38) ?_
        refine jE_iast (n := 16384) rfl rfl (by omega) ?_
        refine jm_Ev.bl 2 (pc' := 17) (A' := [jR 56, jI i, jI (q.length : Int), jI a, jI (b + 1)]) (st' := []) (hp' := (jm_hs h 67 ((128 * a) + b) (jPP K q a b))) rfl ?_
        exact ih (b + 1) _ (by omega) (by omega) (fun u v u0 u1 v0 v1 c => by show jm_hs h 67 (128 * a + b) (jPP K q a b) 67 (128 * u + v) = _; rw [js_hs_eq]; by_cases e : 128 * u + v = 128 * a + b; exact (by rw [if_pos e, show u = a by omega, show v = b by omega]); rw [if_neg e]; exact hs u v u0 u1 v0 v1 (by omega)) (hfr.set (by simp)) (by omega)
      · refine jm_Ev.bl 2 (pc' := 53) (A' := [jR 56, jI i, jI (q.length : Int), jI a, jI b]) (st' := [jI (-1), jI ((128 * a) + b), jR 67]) (hp' := h) rfl ?_
        refine jE_iast (n := 16384) rfl rfl (by omega) ?_
        refine jm_Ev.bl 2 (pc' := 17) (A' := [jR 56, jI i, jI (q.length : Int), jI a, jI (b + 1)]) (st' := []) (hp' := (jm_hs h 67 ((128 * a) + b) (-1))) rfl ?_
        exact ih (b + 1) _ (by omega) (by omega) (fun u v u0 u1 v0 v1 c => by show jm_hs h 67 (128 * a + b) (-1) 67 (128 * u + v) = _; rw [js_hs_eq]; by_cases e : 128 * u + v = 128 * a + b; exact (by rw [if_pos e, show u = a by omega, show v = b by omega]; unfold jPP; rw [if_pos c38]); rw [if_neg e]; exact hs u v u0 u1 v0 v1 (by omega)) (hfr.set (by simp)) (by omega)
theorem c_m_lp_1 (hp : jm_H) (K : Int → Int → Int) (q : List jT) (i s : Int) (hV : jVm hp i s q.length (jpx q) (jpy q) (jpl_ K q) (jpm K q)) (hW : jWy q.length (jpx q) (jpy q) (jpl_ K q) (jpm K q)) : ∀ (m : Nat) (a : Int) (z : jm_V) (h : jm_H), 0 ≤ a → a ≤ q.length → jPt2 h a 0 q.length (jPP K q) → jFq hp h [67] [] → q.length - a < m → jm_Ev 162 9 [jR 56, jI i, jI (q.length : Int), jI a, z] [] h (jlp hp q.length (jPP K q)) := by
  have hN4 := hW.1
  have hN6 := hW.2.1
  obtain ⟨es, eN, s0, s60, hi, hpt⟩ := id hV
  intro n
  induction n with
  | zero => intro a z h h0 h1 hs hfr hm; omega
  | succ n ih =>
    intro a z h h0 h1 hs hfr hm
    refine jm_Ev.bl 2 (pc' := 11) (A' := [jR 56, jI i, jI (q.length : Int), jI a, z]) (st' := [jI (q.length : Int), jI a]) (hp' := h) rfl ?_
    refine jE_icmp_ge rfl (by omega) (by omega) (fun c11 => ?_) (fun c11 => ?_)
    · exact jE_ret rfl ⟨rfl, fun u v a b c d => hs u v a b c d (by omega), hfr⟩
    · refine jm_Ev.bl 2 (pc' := 17) (A' := [jR 56, jI i, jI (q.length : Int), jI a, jI 0]) (st' := []) (hp' := h) rfl ?_
      refine c_m_lp_2 hp K q i s hV hW a (by omega) (fun b' h' hs' hfr' => ?_) 61 0 h (by omega) (by omega) hs hfr (by omega)
      refine jm_Ev.bl 2 (pc' := 9) (A' := [jR 56, jI i, jI (q.length : Int), jI (a + 1), b']) (st' := []) (hp' := h') rfl ?_
      exact ih (a + 1) b' h' (by omega) (by omega) hs' hfr' (by omega)
theorem c_m_layPens (hp : jm_H) (K : Int → Int → Int) (q : List jT) (i s : Int) (hV : jVm hp i s q.length (jpx q) (jpy q) (jpl_ K q) (jpm K q)) (hW : jWy q.length (jpx q) (jpy q) (jpl_ K q) (jpm K q)) : jm_Ev 162 0 [jR 56, jI i, jU, jU, jU] [] hp (jlp hp q.length (jPP K q)) := by
  have hN4 := hW.1
  have hN6 := hW.2.1
  obtain ⟨es, eN, s0, s60, hi, hpt⟩ := id hV
  refine jm_Ev.bl 3 (pc' := 5) (A' := [jR 56, jI i, jU, jU, jU]) (st' := [jI i, jR 60]) (hp' := hp) rfl ?_
  refine jE_iald (n := 32) (f := hp 60) rfl rfl (by omega) ?_
  refine jE_top (w := (q.length : Int)) (eN) ?_
  refine jm_Ev.bl 3 (pc' := 9) (A' := [jR 56, jI i, jI (q.length : Int), jI 0, jU]) (st' := []) (hp' := hp) rfl ?_
  exact c_m_lp_1 hp K q i s hV hW 61 0 _ hp (by omega) (by omega) (fun u v a b c d e => by omega) jFq.rf (by omega)
theorem jchk_iff (w : Int → Int) (k : Nat) (x : Int) : jchk w k x = true ↔ ∃ m : Int, 0 ≤ m ∧ m < (k : Int) ∧ x = w m := by
  induction k with
  | zero => exact ⟨fun z => (by cases z), fun ⟨m, a, b, _⟩ => (by omega)⟩
  | succ k ih =>
    unfold jchk
    rw [Bool.or_eq_true, ih, decide_eq_true_eq]
    constructor
    · intro z
      rcases z with ⟨m, a, b, c⟩ | z
      · exact ⟨m, a, by omega, c⟩
      · exact ⟨(k : Int), by omega, by omega, z⟩
    · intro ⟨m, a, b, c⟩
      by_cases e : m = (k : Int)
      · subst e; exact Or.inr c
      · exact Or.inl ⟨m, a, by omega, c⟩
/-- marked: from the last one back -/
def jMk (h : jm_H) (s n S N : Int) (w : Int → Int) : Prop := ∀ x, 0 ≤ x → x < N → (h 65 (s + x) = 0 ∨ h 65 (s + x) = 1) ∧ (h 65 (s + x) = 1 ↔ ∃ m, n < m ∧ m < S ∧ x = w m)
theorem jMk_set {h : jm_H} {s n S N : Int} {w : Int → Int} (hk : jMk h s n S N w) (hn : n < S) : jMk (jm_hs h 65 (s + w n) 1) s (n - 1) S N w := by
  intro x x0 x1
  rw [js_hs_eq]
  by_cases e : x = w n
  · rw [if_pos (by omega)]
    exact ⟨Or.inr rfl, fun _ => ⟨n, by omega, hn, e⟩, fun _ => rfl⟩
  · rw [if_neg (by omega)]
    have z := hk x x0 x1
    refine ⟨z.1, fun y => ?_, fun ⟨m, a, b, c⟩ => ?_⟩
    · obtain ⟨m, a, b, c⟩ := z.2.mp y
      exact ⟨m, by omega, b, c⟩
    · by_cases d : m = n
      · subst d; exact absurd c e
      · exact z.2.mpr ⟨m, by omega, b, c⟩
theorem jMk_fin {h : jm_H} {s S N : Int} {w : Int → Int} (hk : jMk h s (-1) S N w) (hS : 0 ≤ S) {x : Int} (x0 : 0 ≤ x) (x1 : x < N) : h 65 (s + x) = jb (jchk w S.toNat x) := by
  have z := hk x x0 x1
  have c := jchk_iff w S.toNat x
  rcases Bool.eq_false_or_eq_true (jchk w S.toNat x) with e | e
  · rw [e]
    obtain ⟨m, a, b, d⟩ := c.mp e
    exact z.2.mpr ⟨m, by omega, by omega, d⟩
  · rw [e]
    rcases z.1 with y | y
    · exact y
    · obtain ⟨m, a, b, d⟩ := z.2.mp y
      rw [c.mpr ⟨m, by omega, by omega, d⟩] at e
      cases e
def jmr (hp : jm_H) (s S N : Int) (w : Int → Int) : Option jm_V → jm_H → Prop := fun rv h => rv = none ∧ (∀ x, 0 ≤ x → x < N → h 65 (s + x) = jb (jchk w S.toNat x)) ∧ (∀ j, j < s ∨ s + N ≤ j → h 65 j = hp 65 j) ∧ jFq hp h [65, 68, 69, 70] [26]
/-- the rows of those ahead -/
def jAh (h : jm_H) (f t N : Int) (P : Int → Int → Int) : Prop := ∀ m v : Int, 1 ≤ m → m < t → 0 ≤ v → v < N → jdp P f m.toNat v ≠ -1 → h 70 (128 * m + v) = jda P f m.toNat v
theorem c_m_mark_3 (hp : jm_H) (N i s S f : Int) (P : Int → Int → Int) (hPw : jPw N P) (hpe : jPe hp N P) (hf : 0 ≤ f ∧ f < N) (hS : 3 ≤ S ∧ S ≤ N) (hi : 0 ≤ i ∧ i < 32) (hs : 0 ≤ s ∧ s + N ≤ 60) (es : hp 59 i = s) (eN : hp 60 i = N) (hc : (jdc N P f S.toNat).1 ≠ -1) : ∀ (m : Nat) (v n : Int) (h : jm_H), 0 ≤ n → n < S → (0 ≤ n → v = jdw N P f S.toNat (S - 1 - n).toNat) → jMk h s n S N (fun n => jdw N P f S.toNat (S - 1 - n).toNat) → (∀ j, j < s ∨ s + N ≤ j → h 65 j = hp 65 j) → jAh h f S N P → jFq hp h [65, 68, 69, 70] [26] → n < m → jm_Ev 167 89 [jR 56, jI i, jI f, jI S, jI N, jI v, jI n] [] h (jmr hp s S N (fun n => jdw N P f S.toNat (S - 1 - n).toNat)) := by
  have hN4 := hPw.1
  have hN6 := hPw.2.1
  intro n
  induction n with
  | zero => intro v n h h0 h1 hv hk ho hah hfr hm; omega
  | succ n ih =>
    intro v n h h0 h1 hv hk ho hah hfr hm
    refine jm_Ev.bl 1 (pc' := 91) (A' := [jR 56, jI i, jI f, jI S, jI N, jI v, jI n]) (st' := [jI n]) (hp' := h) rfl ?_
    refine jE_if_le rfl (by omega) (fun c91 => ?_) (fun c91 => ?_)
    · refine jm_Ev.bl 5 (pc' := 140) (A' := [jR 56, jI i, jI f, jI S, jI N, jI v, jI n]) (st' := [jI i, jR 59, jR 65]) (hp' := h) rfl ?_
      refine jE_iald (n := 32) (f := h 59) rfl rfl (by omega) ?_
      refine jE_top (w := s) ((show h 59 i = s from (congrFun (hfr.pl 59 (by simp) (by simp)) i).trans es)) ?_
      refine jm_Ev.bl 3 (pc' := 144) (A' := [jR 56, jI i, jI f, jI S, jI N, jI v, jI n]) (st' := [jI 1, jI (s + f), jR 65]) (hp' := h) rfl ?_
      refine jE_iast (n := 160) rfl rfl (by omega) ?_
      have ev : f = jdw N P f S.toNat (S - 1 - n).toNat := by
        rw [show n = 0 by omega, show (S - 1 - 0).toNat = S.toNat - 1 by omega]; exact (jdw_0 hPw hf.1 hf.2 (by omega) (by omega) hc).symm
      have hm1 := jMk_set (w := (fun n => jdw N P f S.toNat (S - 1 - n).toNat)) hk h1
      have hm1 : jMk (jm_hs h 65 (s + f) 1) s (-1) S N (fun n => jdw N P f S.toNat (S - 1 - n).toNat) := by
        rw [show (-1 : Int) = n - 1 by omega]
        have z : jdw N P f S.toNat (S - 1 - n).toNat = f := ev.symm
        rw [z] at hm1; exact hm1
      exact jE_ret rfl ⟨rfl, fun y a b => jMk_fin hm1 (by omega) a b, fun j a => by show jm_hs h 65 (s + f) 1 65 j = _; rw [js_hs_eq, if_neg (by omega)]; exact ho j a, hfr.set (by simp)⟩
    · have ev := hv (by omega)
      have hwn := jdw_n hPw hf.1 hf.2 (s := S.toNat) (by omega) (by omega) hc (S - 1 - n).toNat (by omega)
      rw [← ev] at hwn
      refine jm_Ev.bl 5 (pc' := 103) (A' := [jR 56, jI i, jI f, jI S, jI N, jI v, jI n]) (st' := [jI i, jR 59, jR 65]) (hp' := h) rfl ?_
      refine jE_iald (n := 32) (f := h 59) rfl rfl (by omega) ?_
      refine jE_top (w := s) ((show h 59 i = s from (congrFun (hfr.pl 59 (by simp) (by simp)) i).trans es)) ?_
      refine jm_Ev.bl 3 (pc' := 108) (A' := [jR 56, jI i, jI f, jI S, jI N, jI v, jI n]) (st' := [jI 1, jI (s + v), jR 65]) (hp' := h) rfl ?_
      refine jE_iast (n := 160) rfl rfl (by omega) ?_
      refine jm_Ev.bl 7 (pc' := 122) (A' := [jR 56, jI i, jI f, jI S, jI N, jI v, jI n]) (st' := [jI ((128 * n) + v), jR 70]) (hp' := (jm_hs h 65 (s + v) 1)) rfl ?_
      refine jE_iald (n := 16384) (f := h 70) rfl rfl (by omega) ?_
      refine jm_Ev.bl 3 (pc' := 89) (A' := [jR 56, jI i, jI f, jI S, jI N, jI (h 70 ((128 * n) + v)), jI (n + (-1))]) (st' := []) (hp' := (jm_hs h 65 (s + v) 1)) rfl ?_
      have hm1 := jMk_set (w := (fun n => jdw N P f S.toNat (S - 1 - n).toNat)) hk h1
      have hm1 : jMk (jm_hs h 65 (s + v) 1) s (n + -1) S N (fun n => jdw N P f S.toNat (S - 1 - n).toNat) := by rw [ev]; exact hm1
      exact ih _ (n + -1) _ (by omega) (by omega) (fun _ => by rw [show (S - 1 - (n + -1)).toNat = (S - 1 - n).toNat + 1 by omega]; (conv => rhs; unfold jdw); rw [← ev, show S.toNat - 1 - (S - 1 - n).toNat = n.toNat by omega]; exact hah n v (by omega) (by omega) (by omega) (by omega) (by rw [show n.toNat = S.toNat - 1 - (S - 1 - n).toNat by omega]; exact hwn.2.2.1)) hm1 (fun j a => by show jm_hs h 65 (s + v) 1 65 j = _; rw [js_hs_eq, if_neg (by omega)]; exact ho j a) (fun m v a b c d e => hah m v a b c d e) (hfr.set (by simp)) (by omega)
theorem c_m_mark_2 (hp : jm_H) (N i s S f : Int) (P : Int → Int → Int) (hPw : jPw N P) (hpe : jPe hp N P) (hf : 0 ≤ f ∧ f < N) (hS : 3 ≤ S ∧ S ≤ N) (hi : 0 ≤ i ∧ i < 32) (hs : 0 ≤ s ∧ s + N ≤ 60) (es : hp 59 i = s) (eN : hp 60 i = N) (hc : (jdc N P f S.toNat).1 ≠ -1) : ∀ (m : Nat) (t : Int) (h : jm_H), 1 ≤ t → t ≤ S → (∀ v, 0 ≤ v → v < N → h 68 v = jdp P f (t - 1).toNat v) → (∀ x, 0 ≤ x → x < N → h 65 (s + x) = 0) → (∀ j, j < s ∨ s + N ≤ j → h 65 j = hp 65 j) → jAh h f t N P → jFq hp h [65, 68, 69, 70] [26] → S - t < m → jm_Ev 167 49 [jR 56, jI i, jI f, jI S, jI N, jI t, jU] [] h (jmr hp s S N (fun n => jdw N P f S.toNat (S - 1 - n).toNat)) := by
  have hN4 := hPw.1
  have hN6 := hPw.2.1
  intro n
  induction n with
  | zero => intro t h h0 h1 hsm hz ho hah hfr hm; omega
  | succ n ih =>
    intro t h h0 h1 hsm hz ho hah hfr hm
    refine jm_Ev.bl 2 (pc' := 52) (A' := [jR 56, jI i, jI f, jI S, jI N, jI t, jU]) (st' := [jI S, jI t]) (hp' := h) rfl ?_
    refine jE_icmp_ge rfl (by omega) (by omega) (fun c52 => ?_) (fun c52 => ?_)
    · refine jm_Ev.bl 3 (pc' := 74) (A' := [jR 56, jI i, jI f, jI S, jI N, jI t, jU]) (st' := [jI N, jI f, jR 56]) (hp' := h) rfl ?_
      refine jE_call (vs := [jR 56, jI f, jI N]) (r := []) (nx := 77) rfl (c_m_closed h N f P hPw (jPe_fr hpe (hfr.pl 67 (by simp) (by simp))) hf (S - 1).toNat (by omega) (by rw [show S = t by omega]; exact hsm)) (fun rv74 h2 hh => ?_)
      obtain ⟨rfl, a1, hfr2⟩ := hh
      rw [show (S - 1).toNat + 1 = S.toNat by omega] at a1
      refine jm_Ev.bl 8 (pc' := 89) (A' := [jR 56, jI i, jI f, jI S, jI N, jI (h2 56 26), jI (S - 1)]) (st' := []) (hp' := h2) rfl ?_
      exact c_m_mark_3 hp N i s S f P hPw hpe hf hS hi hs es eN hc 61 _ (S - 1) h2 (by omega) (by omega) (fun _ => by rw [a1 hc, show (S - 1 - (S - 1)).toNat = 0 by omega]; rfl) (fun x a b => by rw [show h2 65 = h 65 from hfr2.pl 65 (by simp) (by simp)]; exact ⟨Or.inl (hz x a b), fun z => by rw [hz x a b] at z; omega, fun ⟨m, c, d, _⟩ => by omega⟩) (fun j a => by rw [show h2 65 = h 65 from hfr2.pl 65 (by simp) (by simp)]; exact ho j a) (fun m v a b c d e => by rw [show h2 70 = h 70 from hfr2.pl 70 (by simp) (by simp)]; exact hah m v a (by omega) c d e) (hfr.tr hfr2 (by simp) (by simp) (by simp) (by simp)) (by omega)
    · refine jm_Ev.bl 4 (pc' := 61) (A' := [jR 56, jI i, jI f, jI S, jI N, jI t, jU]) (st' := [jI t, jI N, jI f, jR 56]) (hp' := h) rfl ?_
      refine jE_call (vs := [jR 56, jI f, jI N, jI t]) (r := []) (nx := 64) rfl ((show (((t - 1).toNat + 1 : Nat) : Int) = t by omega) ▸ c_m_step h N f P hPw (jPe_fr hpe (hfr.pl 67 (by simp) (by simp))) hf (t - 1).toNat (by omega) hsm) (fun rv61 h2 hh => ?_)
      obtain ⟨rfl, a1, a2, a3, hfr2⟩ := hh
      refine jm_Ev.bl 2 (pc' := 49) (A' := [jR 56, jI i, jI f, jI S, jI N, jI (t + 1), jU]) (st' := []) (hp' := h2) rfl ?_
      have a4 : jAh h2 f (t + 1) N P := by
        intro m v m0 m1 v0 v1 d
        rw [show (((t - 1).toNat + 1 : Nat) : Int) = t by omega] at a2 a3
        by_cases e : m = t
        · subst e
          rw [show (m - 1).toNat + 1 = m.toNat by omega] at a2
          exact a2 v v0 v1 d
        · rw [a3 (128 * m + v) (by omega)]
          exact hah m v m0 (by omega) v0 v1 d
      have z := ih (t + 1) h2 (by omega) (by omega) (by rw [show (t + 1 - 1).toNat = (t - 1).toNat + 1 by omega]; exact a1) (fun x a b => by rw [show h2 65 = h 65 from hfr2.pl 65 (by simp) (by simp)]; exact hz x a b) (fun j a => by rw [show h2 65 = h 65 from hfr2.pl 65 (by simp) (by simp)]; exact ho j a) a4 (hfr.tr hfr2 (by simp) (by simp) (by simp) (by simp)) (by omega)
      exact z
theorem c_m_mark_1 (hp : jm_H) (N i s S f : Int) (P : Int → Int → Int) (hPw : jPw N P) (hpe : jPe hp N P) (hf : 0 ≤ f ∧ f < N) (hS : 3 ≤ S ∧ S ≤ N) (hi : 0 ≤ i ∧ i < 32) (hs : 0 ≤ s ∧ s + N ≤ 60) (es : hp 59 i = s) (eN : hp 60 i = N) (hc : (jdc N P f S.toNat).1 ≠ -1) : ∀ (m : Nat) (n : Int) (h : jm_H), 0 ≤ n → n ≤ N → (∀ x, 0 ≤ x → x < n → h 65 (s + x) = 0) → (∀ j, j < s ∨ s + N ≤ j → h 65 j = hp 65 j) → jFq hp h [65, 68, 69, 70] [26] → N - n < m → jm_Ev 167 11 [jR 56, jI i, jI f, jI S, jI N, jI n, jU] [] h (jmr hp s S N (fun n => jdw N P f S.toNat (S - 1 - n).toNat)) := by
  have hN4 := hPw.1
  have hN6 := hPw.2.1
  intro n
  induction n with
  | zero => intro n h h0 h1 hz ho hfr hm; omega
  | succ n ih =>
    intro n h h0 h1 hz ho hfr hm
    refine jm_Ev.bl 2 (pc' := 15) (A' := [jR 56, jI i, jI f, jI S, jI N, jI n, jU]) (st' := [jI N, jI n]) (hp' := h) rfl ?_
    refine jE_icmp_ge rfl (by omega) (by omega) (fun c15 => ?_) (fun c15 => ?_)
    · refine jm_Ev.bl 3 (pc' := 43) (A' := [jR 56, jI i, jI f, jI S, jI N, jI n, jU]) (st' := [jI N, jI f, jR 56]) (hp' := h) rfl ?_
      refine jE_call (vs := [jR 56, jI f, jI N]) (r := []) (nx := 46) rfl (c_m_begin h N f P (by omega) hf) (fun rv43 h2 hh => ?_)
      obtain ⟨rfl, a1, hfr2⟩ := hh
      refine jm_Ev.bl 2 (pc' := 49) (A' := [jR 56, jI i, jI f, jI S, jI N, jI 1, jU]) (st' := []) (hp' := h2) rfl ?_
      exact c_m_mark_2 hp N i s S f P hPw hpe hf hS hi hs es eN hc 61 1 h2 (by omega) (by omega) a1 (fun x a b => by rw [show h2 65 = h 65 from hfr2.pl 65 (by simp) (by simp)]; exact hz x a (by omega)) (fun j a => by rw [show h2 65 = h 65 from hfr2.pl 65 (by simp) (by simp)]; exact ho j a) (fun m v a b _ _ _ => by omega) (hfr.tr hfr2 (by simp) (by simp) (by simp) (by simp)) (by omega)
    · refine jm_Ev.bl 5 (pc' := 27) (A' := [jR 56, jI i, jI f, jI S, jI N, jI n, jU]) (st' := [jI i, jR 59, jR 65]) (hp' := h) rfl ?_
      refine jE_iald (n := 32) (f := h 59) rfl rfl (by omega) ?_
      refine jE_top (w := s) ((show h 59 i = s from (congrFun (hfr.pl 59 (by simp) (by simp)) i).trans es)) ?_
      refine jm_Ev.bl 3 (pc' := 32) (A' := [jR 56, jI i, jI f, jI S, jI N, jI n, jU]) (st' := [jI 0, jI (s + n), jR 65]) (hp' := h) rfl ?_
      refine jE_iast (n := 160) rfl rfl (by omega) ?_
      refine jm_Ev.bl 2 (pc' := 11) (A' := [jR 56, jI i, jI f, jI S, jI N, jI (n + 1), jU]) (st' := []) (hp' := (jm_hs h 65 (s + n) 0)) rfl ?_
      exact ih (n + 1) _ (by omega) (by omega) (fun x a b => by show jm_hs h 65 (s + n) 0 65 (s + x) = _; rw [js_hs_eq]; by_cases e : x = n; exact if_pos (by omega); rw [if_neg (by omega)]; exact hz x a (by omega)) (fun j a => by show jm_hs h 65 (s + n) 0 65 j = _; rw [js_hs_eq, if_neg (by omega)]; exact ho j a) (hfr.set (by simp)) (by omega)
theorem c_m_mark (hp : jm_H) (N i s S f : Int) (P : Int → Int → Int) (hPw : jPw N P) (hpe : jPe hp N P) (hf : 0 ≤ f ∧ f < N) (hS : 3 ≤ S ∧ S ≤ N) (hi : 0 ≤ i ∧ i < 32) (hs : 0 ≤ s ∧ s + N ≤ 60) (es : hp 59 i = s) (eN : hp 60 i = N) (hc : (jdc N P f S.toNat).1 ≠ -1) : jm_Ev 167 0 [jR 56, jI i, jI f, jI S, jU, jU, jU] [] hp (jmr hp s S N (fun n => jdw N P f S.toNat (S - 1 - n).toNat)) := by
  have hN4 := hPw.1
  have hN6 := hPw.2.1
  refine jm_Ev.bl 3 (pc' := 5) (A' := [jR 56, jI i, jI f, jI S, jU, jU, jU]) (st' := [jI i, jR 60]) (hp' := hp) rfl ?_
  refine jE_iald (n := 32) (f := hp 60) rfl rfl (by omega) ?_
  refine jE_top (w := N) (eN) ?_
  refine jm_Ev.bl 3 (pc' := 11) (A' := [jR 56, jI i, jI f, jI S, jI N, jI 0, jU]) (st' := []) (hp' := hp) rfl ?_
  exact c_m_mark_1 hp N i s S f P hPw hpe hf hS hi hs es eN hc 61 0 hp (by omega) (by omega) (fun x a b => by omega) (fun _ _ => rfl) jFq.rf (by omega)
