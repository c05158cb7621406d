/-! the model goes along the outlines -/
theorem jPt_orb {K : Int → Int → Int} {t : jT} {n : Int} (h0 : 0 ≤ n) (h1 : n < jper K t) : jPt (jorb K t) n = jit K t n.toNat := by
  unfold jPt; rw [jorb_get (by omega)]; rfl
theorem jorb_on {K : Int → Int → Int} (hK : jK5 K) {t : jT} (h : jE K t) {n : Int} (h0 : 0 ≤ n) (h1 : n < (jorb K t).length) : jPt (jorb K t) ((n + 1) % (jorb K t).length) = jnx K (jPt (jorb K t) n) := by
  rw [jorb_len] at h1 ⊢
  have p := jper_p hK h
  rw [jPt_orb h0 h1]
  by_cases e : n + 1 = jper K t
  · rw [e, Int.emod_self, jPt_orb (by omega) (by omega)]
    show t = jit K t (n.toNat + 1)
    rw [show n.toNat + 1 = jper K t by omega, p.1]
  · rw [Int.emod_eq_of_lt (by omega) (by omega), jPt_orb (by omega) (by omega), show (n + 1).toNat = n.toNat + 1 by omega]; rfl
theorem jorb_bk {K : Int → Int → Int} (hK : jK5 K) {t : jT} (h : jE K t) {n : Int} (h0 : 0 ≤ n) (h1 : n < (jorb K t).length) : (n + (jorb K t).length - 1) % (jorb K t).length = (if n = 0 then ((jorb K t).length : Int) - 1 else n - 1) ∧ jnx K (jPt (jorb K t) (if n = 0 then ((jorb K t).length : Int) - 1 else n - 1)) = jPt (jorb K t) n := by
  by_cases e : n = 0
  · subst e
    rw [if_pos rfl]
    refine ⟨?_, ?_⟩
    · rw [show (0 : Int) + (jorb K t).length - 1 = (jorb K t).length - 1 by omega]
      exact Int.emod_eq_of_lt (by omega) (by omega)
    · rw [← jorb_on hK h (by omega) (by omega), show ((jorb K t).length : Int) - 1 + 1 = (jorb K t).length by omega, Int.emod_self]
  · rw [if_neg e]
    refine ⟨?_, ?_⟩
    · rw [show n + ((jorb K t).length : Int) - 1 = n - 1 + (jorb K t).length by omega, Int.add_emod_right]
      exact Int.emod_eq_of_lt (by omega) (by omega)
    · rw [← jorb_on hK h (by omega) (by omega), show n - 1 + 1 = n by omega, Int.emod_eq_of_lt (by omega) (by omega)]
theorem jsxy {w u : Int} (h0 : 0 ≤ w) (h1 : w ≤ 3) (g0 : 0 ≤ u) (g1 : u ≤ 3) (a : jsx w = jsx u) (b : jsy w = jsy u) : w = u := by
  have hw : w = 0 ∨ w = 1 ∨ w = 2 ∨ w = 3 := by omega
  have hu : u = 0 ∨ u = 1 ∨ u = 2 ∨ u = 3 := by omega
  rcases hw with rfl | rfl | rfl | rfl <;> rcases hu with rfl | rfl | rfl | rfl <;> first | rfl | (exact absurd a (by decide)) | (exact absurd b (by decide))
def jMF (h : jm_H) (F : List jT) : Prop := (∀ x y w, 0 ≤ x → x ≤ 5 → 0 ≤ y → y ≤ 5 → 0 ≤ w → w ≤ 3 → h 66 (4 * (6 * x + y) + w) = if (x, y, w) ∈ F then 1 else 0) ∧ ∀ (j : Nat) t, F[j]? = some t → h 61 j = t.1 ∧ h 62 j = t.2.1
def jMO (h : jm_H) (K : Int → Int → Int) (O : List (List jT)) : Prop := h 56 11 = O.length ∧ ∀ (i : Nat) q, O[i]? = some q → h 59 i = ((O.take i).flatten.length : Int) ∧ h 60 i = (q.length : Int) ∧ ∀ n : Int, 0 ≤ n → n < q.length → h 63 (((O.take i).flatten.length : Int) + n) = jpl_ K q n ∧ h 64 (((O.take i).flatten.length : Int) + n) = jpm K q n
theorem jMF_add {h : jm_H} {F : List jT} (q : jMF h F) {x y w a : Int} (hx : 0 ≤ x ∧ x ≤ 5) (hy : 0 ≤ y ∧ y ≤ 5) (hw : 0 ≤ w ∧ w ≤ 3) (ha : a = F.length) : jMF (jm_hs (jm_hs (jm_hs h 66 (4 * (6 * x + y) + w) 1) 61 a x) 62 a y) (F ++ [(x, y, w)]) := by
  obtain ⟨q1, q2⟩ := q
  refine ⟨fun x' y' w' a' b c d e f => ?_, fun j t hj => ?_⟩
  · show jm_hs h 66 (4 * (6 * x + y) + w) 1 66 (4 * (6 * x' + y') + w') = _
    rw [js_hs_eq]
    by_cases ee : 4 * (6 * x' + y') + w' = 4 * (6 * x + y) + w
    · have e1 : x' = x := by omega
      have e2 : y' = y := by omega
      have e3 : w' = w := by omega
      subst e1 e2 e3
      rw [if_pos rfl, if_pos (by simp)]
    · rw [if_neg ee, q1 x' y' w' a' b c d e f]
      have : ((x', y', w') ∈ F ++ [(x, y, w)]) ↔ ((x', y', w') ∈ F) := by
        rw [List.mem_append, List.mem_singleton]
        refine ⟨fun z => z.resolve_right (fun z => ee ?_), fun z => Or.inl z⟩
        simp only [Prod.mk.injEq] at z
        rw [z.1, z.2.1, z.2.2]
      simp only [this]
  · show jm_hs h 61 a x 61 j = _ ∧ jm_hs h 62 a y 62 j = _
    rw [js_hs_eq, js_hs_eq]
    rcases jget_app hj with hj | ⟨rfl, rfl⟩
    · have hlt := jget_lt hj
      rw [if_neg (by omega), if_neg (by omega)]
      exact q2 j t hj
    · rw [if_pos ha.symm, if_pos ha.symm]; exact ⟨rfl, rfl⟩
def jwlk (hp : jm_H) (K : Int → Int → Int) (O : List (List jT)) (t : jT) : Option jm_V → jm_H → Prop := fun rv h => rv = none ∧ jMF h (O ++ [jorb K t]).flatten ∧ jMO h K (O ++ [jorb K t]) ∧ jFq hp h [59, 60, 61, 62, 63, 64, 66] [11]
theorem jhs_same {h : jm_H} {k : Nat} {a v : Int} (e : v = h k a) : jm_hs h k a v k = h k := funext fun j => by
  rw [js_hs_eq]
  split
  · rename_i z; rw [z, e]
  · rfl
set_option maxHeartbeats 400000 in
theorem c_m_walk_L {Q : Option jm_V → jm_H → Prop} (hp : jm_H) (hM : jMG hp) (K : Int → Int → Int) (hKe : jgk (hp 56 6) (hp 56 7) (hp 58) = K) (hK : jK5 K) (O : List (List jT)) (hI : jInv K O) (t : jT) (hE : jE K t) (hn : t ∉ O.flatten) (at_ : Int) (hat : at_ = O.flatten.length) (X Y W : Int) (k : ∀ (h : jm_H) (x y w : Int), jMF h ((O ++ [jorb K t]).flatten) → h 56 11 = O.length → h 59 O.length = at_ → (∀ (i : Nat) q, O[i]? = some q → h 59 i = ((O.take i).flatten.length : Int) ∧ h 60 i = (q.length : Int) ∧ ∀ n : Int, 0 ≤ n → n < q.length → h 63 (((O.take i).flatten.length : Int) + n) = jpl_ K q n ∧ h 64 (((O.take i).flatten.length : Int) + n) = jpm K q n) → jFq hp h [59, 60, 61, 62, 63, 64, 66] [11] → jm_Ev 154 161 [jR 56, jI X, jI Y, jI W, jI at_, jI x, jI y, jI w, jI (jper K t : Int), jU, jU, jU, jU] [] h Q) : ∀ (n : Nat) (m : Nat) (x y w : Int) (h : jm_H), m ≤ jper K t → jit K t m = (x, y, w) → jMF h (jpart K O t m) → h 56 11 = O.length → h 59 O.length = at_ → (∀ (i : Nat) q, O[i]? = some q → h 59 i = ((O.take i).flatten.length : Int) ∧ h 60 i = (q.length : Int) ∧ ∀ n : Int, 0 ≤ n → n < q.length → h 63 (((O.take i).flatten.length : Int) + n) = jpl_ K q n ∧ h 64 (((O.take i).flatten.length : Int) + n) = jpm K q n) → jFq hp h [59, 60, 61, 62, 63, 64, 66] [11] → jper K t - m < n → jm_Ev 154 59 [jR 56, jI X, jI Y, jI W, jI at_, jI x, jI y, jI w, jI (m : Int), jU, jU, jU, jU] [] h Q := by
  have hpp := jper_p hK hE
  have h60 := jpart_60 hK hI hE hn
  intro n
  induction n with
  | zero => intro m x y w h hm ht hMF e11 es eO hf hn2; omega
  | succ n ih =>
    intro m x y w h hm ht hMF e11 es eO hf hn2
    have hEm := jE_pt hK (jit_E hE m)
    rw [ht] at hEm
    dsimp only at hEm
    have hsx := jsx_r w
    have hsy := jsy_r w
    refine jm_Ev.bl 11 (pc' := 76) (A' := [jR 56, jI X, jI Y, jI W, jI at_, jI x, jI y, jI w, jI (m : Int), jU, jU, jU, jU]) (st' := [jI ((4 * ((6 * x) + y)) + w), jR 66]) (hp' := h) rfl ?_
    refine jE_iald (n := 144) (f := h 66) rfl rfl (by omega) ?_
    have hg := hMF.1 x y w (by omega) (by omega) (by omega) (by omega) (by omega) (by omega)
    have hmm : (x, y, w) ∈ jpart K O t m ↔ m = jper K t := by
      rw [← ht]
      by_cases m0 : m = 0
      · subst m0
        refine ⟨fun z => ?_, fun z => by omega⟩
        rw [jpart_0] at z; exact absurd z hn
      · exact (jpart_mem hK hI hE hn (m := m) (by omega) (by omega)).1
    have hgr : 0 ≤ h 66 (4 * (6 * x + y) + w) ∧ h 66 (4 * (6 * x + y) + w) ≤ 1 := by rw [hg]; split <;> omega
    refine jE_if_ne rfl (by omega) (fun c77 => ?_) (fun c77 => ?_)
    · have hper : m = jper K t := hmm.mp (by
        by_cases z : (x, y, w) ∈ jpart K O t m
        · exact z
        · rw [if_neg z] at hg; exact absurd hg c77)
      subst hper
      rw [jpart_p] at hMF
      exact k h x y w hMF e11 es eO hf
    · refine jm_Ev.bl 12 (pc' := 98) (A' := [jR 56, jI X, jI Y, jI W, jI at_, jI x, jI y, jI w, jI (m : Int), jU, jU, jU, jU]) (st' := [jI 1, jI ((4 * ((6 * x) + y)) + w), jR 66]) (hp' := h) rfl ?_
      refine jE_iast (n := 144) rfl rfl (by omega) ?_
      refine jm_Ev.bl 6 (pc' := 110) (A' := [jR 56, jI X, jI Y, jI W, jI at_, jI x, jI y, jI w, jI (m : Int), jU, jU, jU, jU]) (st' := [jI x, jI (at_ + (m : Int)), jR 61]) (hp' := (jm_hs h 66 ((4 * ((6 * x) + y)) + w) 1)) rfl ?_
      refine jE_iast (n := 160) rfl rfl (by omega) ?_
      refine jm_Ev.bl 6 (pc' := 122) (A' := [jR 56, jI X, jI Y, jI W, jI at_, jI x, jI y, jI w, jI (m : Int), jU, jU, jU, jU]) (st' := [jI y, jI (at_ + (m : Int)), jR 62]) (hp' := (jm_hs (jm_hs h 66 ((4 * ((6 * x) + y)) + w) 1) 61 (at_ + (m : Int)) x)) rfl ?_
      refine jE_iast (n := 160) rfl rfl (by omega) ?_
      have hMF1 := jMF_add hMF (x := x) (y := y) (w := w) (a := at_ + (m : Int)) (by omega) (by omega) (by omega) (by rw [jpart_len]; omega)
      have hf1 : jFq hp (jm_hs (jm_hs (jm_hs h 66 ((4 * ((6 * x) + y)) + w) 1) 61 (at_ + (m : Int)) x) 62 (at_ + (m : Int)) y) [59, 60, 61, 62, 63, 64, 66] [11] := ((hf.set (by decide)).set (by decide)).set (by decide)
      have z11 : (jm_hs (jm_hs (jm_hs h 66 ((4 * ((6 * x) + y)) + w) 1) 61 (at_ + (m : Int)) x) 62 (at_ + (m : Int)) y) 56 11 = O.length := e11
      have zs : (jm_hs (jm_hs (jm_hs h 66 ((4 * ((6 * x) + y)) + w) 1) 61 (at_ + (m : Int)) x) 62 (at_ + (m : Int)) y) 59 O.length = at_ := es
      have zO : ∀ (i : Nat) q, O[i]? = some q → (jm_hs (jm_hs (jm_hs h 66 ((4 * ((6 * x) + y)) + w) 1) 61 (at_ + (m : Int)) x) 62 (at_ + (m : Int)) y) 59 i = ((O.take i).flatten.length : Int) ∧ (jm_hs (jm_hs (jm_hs h 66 ((4 * ((6 * x) + y)) + w) 1) 61 (at_ + (m : Int)) x) 62 (at_ + (m : Int)) y) 60 i = (q.length : Int) ∧ ∀ n : Int, 0 ≤ n → n < q.length → (jm_hs (jm_hs (jm_hs h 66 ((4 * ((6 * x) + y)) + w) 1) 61 (at_ + (m : Int)) x) 62 (at_ + (m : Int)) y) 63 (((O.take i).flatten.length : Int) + n) = jpl_ K q n ∧ (jm_hs (jm_hs (jm_hs h 66 ((4 * ((6 * x) + y)) + w) 1) 61 (at_ + (m : Int)) x) 62 (at_ + (m : Int)) y) 64 (((O.take i).flatten.length : Int) + n) = jpm K q n := eO
      rw [← ht, ← jpart_s] at hMF1
      generalize (jm_hs (jm_hs (jm_hs h 66 ((4 * ((6 * x) + y)) + w) 1) 61 (at_ + (m : Int)) x) 62 (at_ + (m : Int)) y) = h1 at hMF1 hf1 z11 zs zO ⊢
      have hK1 : jgk (h1 56 6) (h1 56 7) (h1 58) = K := by rw [hf1.fd 6 (by decide) (by decide), hf1.fd 7 (by decide) (by decide), hf1.pl 58 (by decide) (by decide)]; exact hKe
      have hM1 : jMG h1 := by unfold jMG; rw [hf1.fd 6 (by decide) (by decide), hf1.fd 7 (by decide) (by decide), hf1.pl 58 (by decide) (by decide)]; exact hM
      have ht1 : jit K t (m + 1) = (x + jsx w, y + jsy w, jnw K (x + jsx w) (y + jsy w) w) := by show jnx K (jit K t m) = _; rw [ht]; rfl
      have hp1 := jE_pt hK (jit_E hE (m + 1))
      rw [ht1] at hp1
      dsimp only at hp1
      refine jm_Ev.bl 3 (pc' := 130) (A' := [jR 56, jI X, jI Y, jI W, jI at_, jI x, jI y, jI w, jI ((m : Int) + 1), jU, jU, jU, jU]) (st' := [jI w, jI x]) (hp' := h1) rfl ?_
      refine jE_callI (vs := [jI w]) (r := [jI x]) (nx := 133) (v := jI (jsx w)) (hp1 := h1) rfl (c_m_stepX h1 w (by omega)) ?_
      refine jm_Ev.bl 4 (pc' := 140) (A' := [jR 56, jI X, jI Y, jI W, jI at_, jI (x + (jsx w)), jI y, jI w, jI ((m : Int) + 1), jU, jU, jU, jU]) (st' := [jI w, jI y]) (hp' := h1) rfl ?_
      refine jE_callI (vs := [jI w]) (r := [jI y]) (nx := 143) (v := jI (jsy w)) (hp1 := h1) rfl (c_m_stepY h1 w (by omega)) ?_
      refine jm_Ev.bl 6 (pc' := 153) (A' := [jR 56, jI X, jI Y, jI W, jI at_, jI (x + (jsx w)), jI (y + (jsy w)), jI w, jI ((m : Int) + 1), jU, jU, jU, jU]) (st' := [jI w, jI (y + (jsy w)), jI (x + (jsx w)), jR 56]) (hp' := h1) rfl ?_
      refine jE_callI (vs := [jR 56, jI (x + (jsx w)), jI (y + (jsy w)), jI w]) (r := []) (nx := 156) (v := jI (jnw K (x + jsx w) (y + jsy w) w)) (hp1 := h1) rfl (hK1 ▸ c_m_nextWay h1 hM1 _ _ w (by omega) (by omega) (by omega)) ?_
      refine jm_Ev.bl 2 (pc' := 59) (A' := [jR 56, jI X, jI Y, jI W, jI at_, jI (x + (jsx w)), jI (y + (jsy w)), jI (jnw K (x + jsx w) (y + jsy w) w), jI ((m : Int) + 1), jU, jU, jU, jU]) (st' := []) (hp' := h1) rfl ?_
      have hper : m ≠ jper K t := fun z => by rw [if_pos (hmm.mpr z)] at hg; omega
      exact ih (m + 1) _ _ _ h1 (by omega) ht1 hMF1 z11 zs zO hf1 (by omega)
/-- what the points of a way round know of the next and the one before -/
theorem jturn {K : Int → Int → Int} (hK : jK5 K) {t : jT} (h : jE K t) {n : Int} (h0 : 0 ≤ n) (h1 : n < (jorb K t).length) :
    jpx (jorb K t) ((n + 1) % (jorb K t).length) - jpx (jorb K t) n = jsx (jpw (jorb K t) n) ∧ jpy (jorb K t) ((n + 1) % (jorb K t).length) - jpy (jorb K t) n = jsy (jpw (jorb K t) n) ∧
    jpx (jorb K t) n - jpx (jorb K t) ((n + (jorb K t).length - 1) % (jorb K t).length) = jsx (jpw (jorb K t) (if n = 0 then ((jorb K t).length : Int) - 1 else n - 1)) ∧ jpy (jorb K t) n - jpy (jorb K t) ((n + (jorb K t).length - 1) % (jorb K t).length) = jsy (jpw (jorb K t) (if n = 0 then ((jorb K t).length : Int) - 1 else n - 1)) := by
  have a := jorb_on hK h h0 h1
  have b := jorb_bk hK h h0 h1
  unfold jpx jpy jpw
  rw [b.1, a]
  have c := b.2
  have c1 : (jPt (jorb K t) n).1 = _ := congrArg (fun z : jT => z.1) c.symm
  have c2 : (jPt (jorb K t) n).2.1 = _ := congrArg (fun z : jT => z.2.1) c.symm
  refine ⟨?_, ?_, ?_, ?_⟩
  · unfold jnx; dsimp only; omega
  · unfold jnx; dsimp only; omega
  · rw [c1]; unfold jnx; dsimp only; omega
  · rw [c2]; unfold jnx; dsimp only; omega
set_option maxHeartbeats 400000 in
theorem c_m_walk_L2 {Q : Option jm_V → jm_H → Prop} (h0 : jm_H) (hM : jMG h0) (K : Int → Int → Int) (hKe : jgk (h0 56 6) (h0 56 7) (h0 58) = K) (hK : jK5 K) (t : jT) (hE : jE K t) (at_ : Int) (ha0 : 0 ≤ at_) (ha1 : at_ + (jorb K t).length ≤ 60) (hq : ∀ n : Int, 0 ≤ n → n < (jorb K t).length → h0 61 (at_ + n) = jpx (jorb K t) n ∧ h0 62 (at_ + n) = jpy (jorb K t) n ∧ 0 ≤ jpx (jorb K t) n ∧ jpx (jorb K t) n ≤ 5 ∧ 0 ≤ jpy (jorb K t) n ∧ jpy (jorb K t) n ≤ 5 ∧ 0 ≤ jpw (jorb K t) n ∧ jpw (jorb K t) n ≤ 3) (X Y W : Int) (x y w : jm_V) (k : ∀ (h : jm_H) (z1 z2 z3 : jm_V), h 61 = h0 61 → h 62 = h0 62 → (∀ j : Int, 0 ≤ j → j < (jorb K t).length → h 63 (at_ + j) = jpl_ K (jorb K t) j ∧ h 64 (at_ + j) = jpm K (jorb K t) j) → (∀ j, j < at_ ∨ at_ + (jorb K t).length ≤ j → h 63 j = h0 63 j ∧ h 64 j = h0 64 j) → jFq h0 h [61, 62, 63, 64] [] → jm_Ev 154 331 [jR 56, jI X, jI Y, jI W, jI at_, x, y, w, jI ((jorb K t).length : Int), jI ((jorb K t).length : Int), z1, z2, z3] [] h Q) : ∀ (m : Nat) (n : Int) (z1 z2 z3 : jm_V) (h : jm_H), 0 ≤ n → n ≤ (jorb K t).length → h 61 = h0 61 → h 62 = h0 62 → (∀ j : Int, 0 ≤ j → j < n → h 63 (at_ + j) = jpl_ K (jorb K t) j ∧ h 64 (at_ + j) = jpm K (jorb K t) j) → (∀ j, j < at_ ∨ at_ + (jorb K t).length ≤ j → h 63 j = h0 63 j ∧ h 64 j = h0 64 j) → jFq h0 h [61, 62, 63, 64] [] → (jorb K t).length - n < m → jm_Ev 154 175 [jR 56, jI X, jI Y, jI W, jI at_, x, y, w, jI ((jorb K t).length : Int), jI n, z1, z2, z3] [] h Q := by
  intro n
  induction n with
  | zero => intro n z1 z2 z3 h hn0 hn1 e61 e62 hd ho hf hm; omega
  | succ n ih =>
    intro n z1 z2 z3 h hn0 hn1 e61 e62 hd ho hf hm
    have hK1 : jgk (h 56 6) (h 56 7) (h 58) = K := by rw [hf.fd 6 (by decide) (by decide), hf.fd 7 (by decide) (by decide), hf.pl 58 (by decide) (by decide)]; exact hKe
    have hM1 : jMG h := by unfold jMG; rw [hf.fd 6 (by decide) (by decide), hf.fd 7 (by decide) (by decide), hf.pl 58 (by decide) (by decide)]; exact hM
    refine jm_Ev.bl 2 (pc' := 179) (A' := [jR 56, jI X, jI Y, jI W, jI at_, x, y, w, jI ((jorb K t).length : Int), jI n, z1, z2, z3]) (st' := [jI ((jorb K t).length : Int), jI n]) (hp' := h) rfl ?_
    refine jE_icmp_ge rfl (by omega) (by omega) (fun c179 => ?_) (fun c179 => ?_)
    · have e : n = (jorb K t).length := by omega
      subst e
      exact k h _ _ _ e61 e62 hd ho hf
    · refine jm_Ev.bl 7 (pc' := 193) (A' := [jR 56, jI X, jI Y, jI W, jI at_, x, y, w, jI ((jorb K t).length : Int), jI n, z1, z2, z3]) (st' := [jI ((jorb K t).length : Int), jI ((n + ((jorb K t).length : Int)) - 1), jI at_]) (hp' := h) rfl ?_
      refine jE_irem rfl (by omega) (by omega) ?_
      refine jm_Ev.bl 7 (pc' := 205) (A' := [jR 56, jI X, jI Y, jI W, jI at_, x, y, w, jI ((jorb K t).length : Int), jI n, jI (at_ + (((n + ((jorb K t).length : Int)) - 1) % ((jorb K t).length : Int))), z2, z3]) (st' := [jI ((jorb K t).length : Int), jI (n + 1), jI at_]) (hp' := h) rfl ?_
      refine jE_irem rfl (by omega) (by omega) ?_
      refine jm_Ev.bl 2 (pc' := 209) (A' := [jR 56, jI X, jI Y, jI W, jI at_, x, y, w, jI ((jorb K t).length : Int), jI n, jI (at_ + (((n + ((jorb K t).length : Int)) - 1) % ((jorb K t).length : Int))), jI (at_ + ((n + 1) % ((jorb K t).length : Int))), z3]) (st' := []) (hp' := h) rfl ?_
      have tn := jturn hK hE hn0 (show n < (jorb K t).length by omega)
      have hqn := hq n hn0 (by omega)
      have m1 := Int.emod_nonneg (n + ((jorb K t).length : Int) - 1) (show ((jorb K t).length : Int) ≠ 0 by omega)
      have m2 := Int.emod_lt_of_pos (n + ((jorb K t).length : Int) - 1) (show 0 < ((jorb K t).length : Int) by omega)
      have m3 := Int.emod_nonneg (n + 1) (show ((jorb K t).length : Int) ≠ 0 by omega)
      have m4 := Int.emod_lt_of_pos (n + 1) (show 0 < ((jorb K t).length : Int) by omega)
      have hqb := hq _ m1 m2
      have hqo := hq _ m3 m4
      rw [← e61, ← e62] at hqn hqb hqo
      refine jm_Ev.bl 3 (pc' := 215) (A' := [jR 56, jI X, jI Y, jI W, jI at_, x, y, w, jI ((jorb K t).length : Int), jI n, jI (at_ + (((n + ((jorb K t).length : Int)) - 1) % ((jorb K t).length : Int))), jI (at_ + ((n + 1) % ((jorb K t).length : Int))), z3]) (st' := [jI (at_ + ((n + 1) % ((jorb K t).length : Int))), jR 61]) (hp' := h) rfl ?_
      refine jE_iald (n := 160) (f := h 61) rfl rfl (by omega) ?_
      refine jm_Ev.bl 5 (pc' := 225) (A' := [jR 56, jI X, jI Y, jI W, jI at_, x, y, w, jI ((jorb K t).length : Int), jI n, jI (at_ + (((n + ((jorb K t).length : Int)) - 1) % ((jorb K t).length : Int))), jI (at_ + ((n + 1) % ((jorb K t).length : Int))), z3]) (st' := [jI (at_ + n), jR 61, jI (h 61 (at_ + ((n + 1) % ((jorb K t).length : Int))))]) (hp' := h) rfl ?_
      refine jE_iald (n := 160) (f := h 61) rfl rfl (by omega) ?_
      refine jm_Ev.bl 6 (pc' := 236) (A' := [jR 56, jI X, jI Y, jI W, jI at_, x, y, w, jI ((jorb K t).length : Int), jI n, jI (at_ + (((n + ((jorb K t).length : Int)) - 1) % ((jorb K t).length : Int))), jI (at_ + ((n + 1) % ((jorb K t).length : Int))), z3]) (st' := [jI (at_ + n), jR 61, jI ((h 61 (at_ + ((n + 1) % ((jorb K t).length : Int)))) - (h 61 (at_ + n)))]) (hp' := h) rfl ?_
      refine jE_iald (n := 160) (f := h 61) rfl rfl (by omega) ?_
      refine jm_Ev.bl 3 (pc' := 243) (A' := [jR 56, jI X, jI Y, jI W, jI at_, x, y, w, jI ((jorb K t).length : Int), jI n, jI (at_ + (((n + ((jorb K t).length : Int)) - 1) % ((jorb K t).length : Int))), jI (at_ + ((n + 1) % ((jorb K t).length : Int))), z3]) (st' := [jI (at_ + (((n + ((jorb K t).length : Int)) - 1) % ((jorb K t).length : Int))), jR 61, jI (h 61 (at_ + n)), jI ((h 61 (at_ + ((n + 1) % ((jorb K t).length : Int)))) - (h 61 (at_ + n)))]) (hp' := h) rfl ?_
      refine jE_iald (n := 160) (f := h 61) rfl rfl (by omega) ?_
      refine jm_Ev.bl 1 (pc' := 245) (A' := [jR 56, jI X, jI Y, jI W, jI at_, x, y, w, jI ((jorb K t).length : Int), jI n, jI (at_ + (((n + ((jorb K t).length : Int)) - 1) % ((jorb K t).length : Int))), jI (at_ + ((n + 1) % ((jorb K t).length : Int))), z3]) (st' := [jI ((h 61 (at_ + n)) - (h 61 (at_ + (((n + ((jorb K t).length : Int)) - 1) % ((jorb K t).length : Int))))), jI ((h 61 (at_ + ((n + 1) % ((jorb K t).length : Int)))) - (h 61 (at_ + n)))]) (hp' := h) rfl ?_
      refine jE_icmp_ne rfl (by omega) (by omega) (fun c245 => ?_) (fun c245 => ?_)
      · refine jm_Ev.bl 12 (pc' := 309) (A' := [jR 56, jI X, jI Y, jI W, jI at_, x, y, w, jI ((jorb K t).length : Int), jI n, jI (at_ + (((n + ((jorb K t).length : Int)) - 1) % ((jorb K t).length : Int))), jI (at_ + ((n + 1) % ((jorb K t).length : Int))), jI 1]) (st' := [jI (at_ + n), jR 61, jI (at_ + n), jR 56]) (hp' := h) rfl ?_
        refine jE_iald (n := 160) (f := h 61) rfl rfl (by omega) ?_
        refine jm_Ev.bl 5 (pc' := 319) (A' := [jR 56, jI X, jI Y, jI W, jI at_, x, y, w, jI ((jorb K t).length : Int), jI n, jI (at_ + (((n + ((jorb K t).length : Int)) - 1) % ((jorb K t).length : Int))), jI (at_ + ((n + 1) % ((jorb K t).length : Int))), jI 1]) (st' := [jI (at_ + n), jR 62, jI (h 61 (at_ + n)), jI (at_ + n), jR 56]) (hp' := h) rfl ?_
        refine jE_iald (n := 160) (f := h 62) rfl rfl (by omega) ?_
        refine jm_Ev.bl 1 (pc' := 322) (A' := [jR 56, jI X, jI Y, jI W, jI at_, x, y, w, jI ((jorb K t).length : Int), jI n, jI (at_ + (((n + ((jorb K t).length : Int)) - 1) % ((jorb K t).length : Int))), jI (at_ + ((n + 1) % ((jorb K t).length : Int))), jI 1]) (st' := [jI 1, jI (h 62 (at_ + n)), jI (h 61 (at_ + n)), jI (at_ + n), jR 56]) (hp' := h) rfl ?_
        refine jE_callV (vs := [jR 56, jI (at_ + n), jI (h 61 (at_ + n)), jI (h 62 (at_ + n)), jI 1]) (r := []) (nx := 325) (hp1 := (jm_hs (jm_hs (jm_hs (jm_hs h 61 (at_ + n) (h 61 (at_ + n))) 62 (at_ + n) (h 62 (at_ + n))) 63 (at_ + n) (jle (jgk (h 56 6) (h 56 7) (h 58)) (h 61 (at_ + n)) (h 62 (at_ + n)))) 64 (at_ + n) (jmu (jgk (h 56 6) (h 56 7) (h 58)) (h 61 (at_ + n)) (h 62 (at_ + n)) true))) rfl (c_m_layPoint h hM1 (at_ + n) (h 61 (at_ + n)) (h 62 (at_ + n)) true (by omega) (by omega) (by omega)) ?_
        refine jm_Ev.bl 2 (pc' := 175) (A' := [jR 56, jI X, jI Y, jI W, jI at_, x, y, w, jI ((jorb K t).length : Int), jI (n + 1), jI (at_ + (((n + ((jorb K t).length : Int)) - 1) % ((jorb K t).length : Int))), jI (at_ + ((n + 1) % ((jorb K t).length : Int))), jI 1]) (st' := []) (hp' := (jm_hs (jm_hs (jm_hs (jm_hs h 61 (at_ + n) (h 61 (at_ + n))) 62 (at_ + n) (h 62 (at_ + n))) 63 (at_ + n) (jle (jgk (h 56 6) (h 56 7) (h 58)) (h 61 (at_ + n)) (h 62 (at_ + n)))) 64 (at_ + n) (jmu (jgk (h 56 6) (h 56 7) (h 58)) (h 61 (at_ + n)) (h 62 (at_ + n)) true))) rfl ?_
        have hpb := (hq (if n = 0 then ((jorb K t).length : Int) - 1 else n - 1) (by split <;> omega) (by split <;> omega)).2.2.2.2.2.2
        have dt : decide (jpw (jorb K t) n ≠ jpw (jorb K t) (if n = 0 then ((jorb K t).length : Int) - 1 else n - 1)) = true := decide_eq_true (fun z => c245 (by rw [hqn.1, hqb.1, hqo.1, tn.1, tn.2.2.1, z]))
        have el : jle (jgk (h 56 6) (h 56 7) (h 58)) (h 61 (at_ + n)) (h 62 (at_ + n)) = jpl_ K (jorb K t) n := by rw [hK1, hqn.1, hqn.2.1]; rfl
        have em : jmu (jgk (h 56 6) (h 56 7) (h 58)) (h 61 (at_ + n)) (h 62 (at_ + n)) true = jpm K (jorb K t) n := by unfold jpm; rw [dt, hK1, hqn.1, hqn.2.1]
        refine ih (n + 1) _ _ _ (jm_hs (jm_hs (jm_hs (jm_hs h 61 (at_ + n) (h 61 (at_ + n))) 62 (at_ + n) (h 62 (at_ + n))) 63 (at_ + n) (jle (jgk (h 56 6) (h 56 7) (h 58)) (h 61 (at_ + n)) (h 62 (at_ + n)))) 64 (at_ + n) (jmu (jgk (h 56 6) (h 56 7) (h 58)) (h 61 (at_ + n)) (h 62 (at_ + n)) true)) (by omega) (by omega) ((jhs_same rfl).trans e61) ((jhs_same rfl).trans e62) ?_ ?_ ((((hf.set (by decide)).set (by decide)).set (by decide)).set (by decide)) (by omega)
        · intro j j0 j1
          show jm_hs h 63 (at_ + n) _ 63 (at_ + j) = _ ∧ jm_hs h 64 (at_ + n) _ 64 (at_ + j) = _
          rw [js_hs_eq, js_hs_eq]
          by_cases e : j = n
          · subst e; rw [if_pos rfl, if_pos rfl]; exact ⟨el, em⟩
          · rw [if_neg (by omega), if_neg (by omega)]; exact hd j j0 (by omega)
        · intro j hj
          show jm_hs h 63 (at_ + n) _ 63 j = _ ∧ jm_hs h 64 (at_ + n) _ 64 j = _
          rw [js_hs_eq, js_hs_eq, if_neg (by omega), if_neg (by omega)]
          exact ho j hj
      · refine jm_Ev.bl 3 (pc' := 254) (A' := [jR 56, jI X, jI Y, jI W, jI at_, x, y, w, jI ((jorb K t).length : Int), jI n, jI (at_ + (((n + ((jorb K t).length : Int)) - 1) % ((jorb K t).length : Int))), jI (at_ + ((n + 1) % ((jorb K t).length : Int))), z3]) (st' := [jI (at_ + ((n + 1) % ((jorb K t).length : Int))), jR 62]) (hp' := h) rfl ?_
        refine jE_iald (n := 160) (f := h 62) rfl rfl (by omega) ?_
        refine jm_Ev.bl 5 (pc' := 264) (A' := [jR 56, jI X, jI Y, jI W, jI at_, x, y, w, jI ((jorb K t).length : Int), jI n, jI (at_ + (((n + ((jorb K t).length : Int)) - 1) % ((jorb K t).length : Int))), jI (at_ + ((n + 1) % ((jorb K t).length : Int))), z3]) (st' := [jI (at_ + n), jR 62, jI (h 62 (at_ + ((n + 1) % ((jorb K t).length : Int))))]) (hp' := h) rfl ?_
        refine jE_iald (n := 160) (f := h 62) rfl rfl (by omega) ?_
        refine jm_Ev.bl 6 (pc' := 275) (A' := [jR 56, jI X, jI Y, jI W, jI at_, x, y, w, jI ((jorb K t).length : Int), jI n, jI (at_ + (((n + ((jorb K t).length : Int)) - 1) % ((jorb K t).length : Int))), jI (at_ + ((n + 1) % ((jorb K t).length : Int))), z3]) (st' := [jI (at_ + n), jR 62, jI ((h 62 (at_ + ((n + 1) % ((jorb K t).length : Int)))) - (h 62 (at_ + n)))]) (hp' := h) rfl ?_
        refine jE_iald (n := 160) (f := h 62) rfl rfl (by omega) ?_
        refine jm_Ev.bl 3 (pc' := 282) (A' := [jR 56, jI X, jI Y, jI W, jI at_, x, y, w, jI ((jorb K t).length : Int), jI n, jI (at_ + (((n + ((jorb K t).length : Int)) - 1) % ((jorb K t).length : Int))), jI (at_ + ((n + 1) % ((jorb K t).length : Int))), z3]) (st' := [jI (at_ + (((n + ((jorb K t).length : Int)) - 1) % ((jorb K t).length : Int))), jR 62, jI (h 62 (at_ + n)), jI ((h 62 (at_ + ((n + 1) % ((jorb K t).length : Int)))) - (h 62 (at_ + n)))]) (hp' := h) rfl ?_
        refine jE_iald (n := 160) (f := h 62) rfl rfl (by omega) ?_
        refine jm_Ev.bl 1 (pc' := 284) (A' := [jR 56, jI X, jI Y, jI W, jI at_, x, y, w, jI ((jorb K t).length : Int), jI n, jI (at_ + (((n + ((jorb K t).length : Int)) - 1) % ((jorb K t).length : Int))), jI (at_ + ((n + 1) % ((jorb K t).length : Int))), z3]) (st' := [jI ((h 62 (at_ + n)) - (h 62 (at_ + (((n + ((jorb K t).length : Int)) - 1) % ((jorb K t).length : Int))))), jI ((h 62 (at_ + ((n + 1) % ((jorb K t).length : Int)))) - (h 62 (at_ + n)))]) (hp' := h) rfl ?_
        refine jE_icmp_eq rfl (by omega) (by omega) (fun c284 => ?_) (fun c284 => ?_)
        · refine jm_Ev.bl 11 (pc' := 309) (A' := [jR 56, jI X, jI Y, jI W, jI at_, x, y, w, jI ((jorb K t).length : Int), jI n, jI (at_ + (((n + ((jorb K t).length : Int)) - 1) % ((jorb K t).length : Int))), jI (at_ + ((n + 1) % ((jorb K t).length : Int))), jI 0]) (st' := [jI (at_ + n), jR 61, jI (at_ + n), jR 56]) (hp' := h) rfl ?_
          refine jE_iald (n := 160) (f := h 61) rfl rfl (by omega) ?_
          refine jm_Ev.bl 5 (pc' := 319) (A' := [jR 56, jI X, jI Y, jI W, jI at_, x, y, w, jI ((jorb K t).length : Int), jI n, jI (at_ + (((n + ((jorb K t).length : Int)) - 1) % ((jorb K t).length : Int))), jI (at_ + ((n + 1) % ((jorb K t).length : Int))), jI 0]) (st' := [jI (at_ + n), jR 62, jI (h 61 (at_ + n)), jI (at_ + n), jR 56]) (hp' := h) rfl ?_
          refine jE_iald (n := 160) (f := h 62) rfl rfl (by omega) ?_
          refine jm_Ev.bl 1 (pc' := 322) (A' := [jR 56, jI X, jI Y, jI W, jI at_, x, y, w, jI ((jorb K t).length : Int), jI n, jI (at_ + (((n + ((jorb K t).length : Int)) - 1) % ((jorb K t).length : Int))), jI (at_ + ((n + 1) % ((jorb K t).length : Int))), jI 0]) (st' := [jI 0, jI (h 62 (at_ + n)), jI (h 61 (at_ + n)), jI (at_ + n), jR 56]) (hp' := h) rfl ?_
          refine jE_callV (vs := [jR 56, jI (at_ + n), jI (h 61 (at_ + n)), jI (h 62 (at_ + n)), jI 0]) (r := []) (nx := 325) (hp1 := (jm_hs (jm_hs (jm_hs (jm_hs h 61 (at_ + n) (h 61 (at_ + n))) 62 (at_ + n) (h 62 (at_ + n))) 63 (at_ + n) (jle (jgk (h 56 6) (h 56 7) (h 58)) (h 61 (at_ + n)) (h 62 (at_ + n)))) 64 (at_ + n) (jmu (jgk (h 56 6) (h 56 7) (h 58)) (h 61 (at_ + n)) (h 62 (at_ + n)) false))) rfl (c_m_layPoint h hM1 (at_ + n) (h 61 (at_ + n)) (h 62 (at_ + n)) false (by omega) (by omega) (by omega)) ?_
          refine jm_Ev.bl 2 (pc' := 175) (A' := [jR 56, jI X, jI Y, jI W, jI at_, x, y, w, jI ((jorb K t).length : Int), jI (n + 1), jI (at_ + (((n + ((jorb K t).length : Int)) - 1) % ((jorb K t).length : Int))), jI (at_ + ((n + 1) % ((jorb K t).length : Int))), jI 0]) (st' := []) (hp' := (jm_hs (jm_hs (jm_hs (jm_hs h 61 (at_ + n) (h 61 (at_ + n))) 62 (at_ + n) (h 62 (at_ + n))) 63 (at_ + n) (jle (jgk (h 56 6) (h 56 7) (h 58)) (h 61 (at_ + n)) (h 62 (at_ + n)))) 64 (at_ + n) (jmu (jgk (h 56 6) (h 56 7) (h 58)) (h 61 (at_ + n)) (h 62 (at_ + n)) false))) rfl ?_
          have hpb := (hq (if n = 0 then ((jorb K t).length : Int) - 1 else n - 1) (by split <;> omega) (by split <;> omega)).2.2.2.2.2.2
          have dt : decide (jpw (jorb K t) n ≠ jpw (jorb K t) (if n = 0 then ((jorb K t).length : Int) - 1 else n - 1)) = false := decide_eq_false (fun z => z (jsxy hqn.2.2.2.2.2.2.1 hqn.2.2.2.2.2.2.2 hpb.1 hpb.2 (by rw [← tn.1, ← tn.2.2.1, ← hqn.1, ← hqb.1, ← hqo.1]; exact c245) (by rw [← tn.2.1, ← tn.2.2.2, ← hqn.2.1, ← hqb.2.1, ← hqo.2.1]; exact c284)))
          have el : jle (jgk (h 56 6) (h 56 7) (h 58)) (h 61 (at_ + n)) (h 62 (at_ + n)) = jpl_ K (jorb K t) n := by rw [hK1, hqn.1, hqn.2.1]; rfl
          have em : jmu (jgk (h 56 6) (h 56 7) (h 58)) (h 61 (at_ + n)) (h 62 (at_ + n)) false = jpm K (jorb K t) n := by unfold jpm; rw [dt, hK1, hqn.1, hqn.2.1]
          refine ih (n + 1) _ _ _ (jm_hs (jm_hs (jm_hs (jm_hs h 61 (at_ + n) (h 61 (at_ + n))) 62 (at_ + n) (h 62 (at_ + n))) 63 (at_ + n) (jle (jgk (h 56 6) (h 56 7) (h 58)) (h 61 (at_ + n)) (h 62 (at_ + n)))) 64 (at_ + n) (jmu (jgk (h 56 6) (h 56 7) (h 58)) (h 61 (at_ + n)) (h 62 (at_ + n)) false)) (by omega) (by omega) ((jhs_same rfl).trans e61) ((jhs_same rfl).trans e62) ?_ ?_ ((((hf.set (by decide)).set (by decide)).set (by decide)).set (by decide)) (by omega)
          · intro j j0 j1
            show jm_hs h 63 (at_ + n) _ 63 (at_ + j) = _ ∧ jm_hs h 64 (at_ + n) _ 64 (at_ + j) = _
            rw [js_hs_eq, js_hs_eq]
            by_cases e : j = n
            · subst e; rw [if_pos rfl, if_pos rfl]; exact ⟨el, em⟩
            · rw [if_neg (by omega), if_neg (by omega)]; exact hd j j0 (by omega)
          · intro j hj
            show jm_hs h 63 (at_ + n) _ 63 j = _ ∧ jm_hs h 64 (at_ + n) _ 64 j = _
            rw [js_hs_eq, js_hs_eq, if_neg (by omega), if_neg (by omega)]
            exact ho j hj
        · refine jm_Ev.bl 12 (pc' := 309) (A' := [jR 56, jI X, jI Y, jI W, jI at_, x, y, w, jI ((jorb K t).length : Int), jI n, jI (at_ + (((n + ((jorb K t).length : Int)) - 1) % ((jorb K t).length : Int))), jI (at_ + ((n + 1) % ((jorb K t).length : Int))), jI 1]) (st' := [jI (at_ + n), jR 61, jI (at_ + n), jR 56]) (hp' := h) rfl ?_
          refine jE_iald (n := 160) (f := h 61) rfl rfl (by omega) ?_
          refine jm_Ev.bl 5 (pc' := 319) (A' := [jR 56, jI X, jI Y, jI W, jI at_, x, y, w, jI ((jorb K t).length : Int), jI n, jI (at_ + (((n + ((jorb K t).length : Int)) - 1) % ((jorb K t).length : Int))), jI (at_ + ((n + 1) % ((jorb K t).length : Int))), jI 1]) (st' := [jI (at_ + n), jR 62, jI (h 61 (at_ + n)), jI (at_ + n), jR 56]) (hp' := h) rfl ?_
          refine jE_iald (n := 160) (f := h 62) rfl rfl (by omega) ?_
          refine jm_Ev.bl 1 (pc' := 322) (A' := [jR 56, jI X, jI Y, jI W, jI at_, x, y, w, jI ((jorb K t).length : Int), jI n, jI (at_ + (((n + ((jorb K t).length : Int)) - 1) % ((jorb K t).length : Int))), jI (at_ + ((n + 1) % ((jorb K t).length : Int))), jI 1]) (st' := [jI 1, jI (h 62 (at_ + n)), jI (h 61 (at_ + n)), jI (at_ + n), jR 56]) (hp' := h) rfl ?_
          refine jE_callV (vs := [jR 56, jI (at_ + n), jI (h 61 (at_ + n)), jI (h 62 (at_ + n)), jI 1]) (r := []) (nx := 325) (hp1 := (jm_hs (jm_hs (jm_hs (jm_hs h 61 (at_ + n) (h 61 (at_ + n))) 62 (at_ + n) (h 62 (at_ + n))) 63 (at_ + n) (jle (jgk (h 56 6) (h 56 7) (h 58)) (h 61 (at_ + n)) (h 62 (at_ + n)))) 64 (at_ + n) (jmu (jgk (h 56 6) (h 56 7) (h 58)) (h 61 (at_ + n)) (h 62 (at_ + n)) true))) rfl (c_m_layPoint h hM1 (at_ + n) (h 61 (at_ + n)) (h 62 (at_ + n)) true (by omega) (by omega) (by omega)) ?_
          refine jm_Ev.bl 2 (pc' := 175) (A' := [jR 56, jI X, jI Y, jI W, jI at_, x, y, w, jI ((jorb K t).length : Int), jI (n + 1), jI (at_ + (((n + ((jorb K t).length : Int)) - 1) % ((jorb K t).length : Int))), jI (at_ + ((n + 1) % ((jorb K t).length : Int))), jI 1]) (st' := []) (hp' := (jm_hs (jm_hs (jm_hs (jm_hs h 61 (at_ + n) (h 61 (at_ + n))) 62 (at_ + n) (h 62 (at_ + n))) 63 (at_ + n) (jle (jgk (h 56 6) (h 56 7) (h 58)) (h 61 (at_ + n)) (h 62 (at_ + n)))) 64 (at_ + n) (jmu (jgk (h 56 6) (h 56 7) (h 58)) (h 61 (at_ + n)) (h 62 (at_ + n)) true))) rfl ?_
          have hpb := (hq (if n = 0 then ((jorb K t).length : Int) - 1 else n - 1) (by split <;> omega) (by split <;> omega)).2.2.2.2.2.2
          have dt : decide (jpw (jorb K t) n ≠ jpw (jorb K t) (if n = 0 then ((jorb K t).length : Int) - 1 else n - 1)) = true := decide_eq_true (fun z => c284 (by rw [hqn.2.1, hqb.2.1, hqo.2.1, tn.2.1, tn.2.2.2, z]))
          have el : jle (jgk (h 56 6) (h 56 7) (h 58)) (h 61 (at_ + n)) (h 62 (at_ + n)) = jpl_ K (jorb K t) n := by rw [hK1, hqn.1, hqn.2.1]; rfl
          have em : jmu (jgk (h 56 6) (h 56 7) (h 58)) (h 61 (at_ + n)) (h 62 (at_ + n)) true = jpm K (jorb K t) n := by unfold jpm; rw [dt, hK1, hqn.1, hqn.2.1]
          refine ih (n + 1) _ _ _ (jm_hs (jm_hs (jm_hs (jm_hs h 61 (at_ + n) (h 61 (at_ + n))) 62 (at_ + n) (h 62 (at_ + n))) 63 (at_ + n) (jle (jgk (h 56 6) (h 56 7) (h 58)) (h 61 (at_ + n)) (h 62 (at_ + n)))) 64 (at_ + n) (jmu (jgk (h 56 6) (h 56 7) (h 58)) (h 61 (at_ + n)) (h 62 (at_ + n)) true)) (by omega) (by omega) ((jhs_same rfl).trans e61) ((jhs_same rfl).trans e62) ?_ ?_ ((((hf.set (by decide)).set (by decide)).set (by decide)).set (by decide)) (by omega)
          · intro j j0 j1
            show jm_hs h 63 (at_ + n) _ 63 (at_ + j) = _ ∧ jm_hs h 64 (at_ + n) _ 64 (at_ + j) = _
            rw [js_hs_eq, js_hs_eq]
            by_cases e : j = n
            · subst e; rw [if_pos rfl, if_pos rfl]; exact ⟨el, em⟩
            · rw [if_neg (by omega), if_neg (by omega)]; exact hd j j0 (by omega)
          · intro j hj
            show jm_hs h 63 (at_ + n) _ 63 j = _ ∧ jm_hs h 64 (at_ + n) _ 64 j = _
            rw [js_hs_eq, js_hs_eq, if_neg (by omega), if_neg (by omega)]
            exact ho j hj
