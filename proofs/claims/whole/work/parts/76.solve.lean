/-! the class's BestPolygons: solve -/
def jlq (K : Int → Int → Int) (q : List jT) : Int := (jlst q.length (jPP K q) : Int)
def jkq (K : Int → Int → Int) (q : List jT) (n : Int) : Int := jdk q.length (jPP K q) n
def jaq (K : Int → Int → Int) (q : List jT) : Int := jars (fun n => jpx q (jkq K q n)) (fun n => jpy q (jkq K q n)) (jlq K q) (jlq K q).toNat
def jbq (K : Int → Int → Int) (q : List jT) : Int := (jdb q.length (jPP K q) (jlst q.length (jPP K q))).1
/-- solved -/
def jSv (h : jm_H) (K : Int → Int → Int) (s i : Int) (q : List jT) : Prop := h 36 i = jbq K q ∧ h 37 i = ((jaq K q).natAbs : Int) ∧ (∀ n, 0 ≤ n → n < jlq K q → h 38 (s + n) = jkq K q n) ∧ ∀ x : Int, 0 ≤ x → x < q.length → h 39 (s + x) = jb (jchk (jkq K q) (jlq K q).toNat x)
theorem jkq_r {K : Int → Int → Int} {q : List jT} (h : jPw q.length (jPP K q)) {n : Int} (n0 : 0 ≤ n) (n1 : n < jlq K q) : 0 ≤ jkq K q n ∧ jkq K q n < q.length ∧ (n + 1 < jlq K q → jkq K q n < jkq K q (n + 1)) := jdk_r h n0 n1
theorem jlq_r {K : Int → Int → Int} {q : List jT} (h : jPw q.length (jPP K q)) : 3 ≤ jlq K q ∧ jlq K q ≤ q.length := by
  have l := jlst_r h
  exact ⟨by have := l.1; unfold jlq; omega, l.2.1⟩
theorem jbq_r {K : Int → Int → Int} {q : List jT} (h : jPw q.length (jPP K q)) : 0 ≤ jbq K q ∧ jfn 246 (jbq K q) := by
  have b := jdb_r h
  have l := jlst_r h
  have h6 := h.2.1
  unfold jbq
  rcases jdc_n h b.1 b.2.1 (n := jlst q.length (jPP K q)) (by have := l.2.1; omega) with z | z
  · exact absurd z b.2.2.2
  · rw [b.2.2.1]; exact z
def jsl (hb : jm_H) (K : Int → Int → Int) (s i : Int) (q : List jT) : Option jm_V → jm_H → Prop := fun rv h => rv = none ∧ jSv h K s i q ∧ (∀ j, j ≠ i → h 36 j = hb 36 j ∧ h 37 j = hb 37 j) ∧ (∀ j : Int, j < s ∨ s + q.length ≤ j → h 38 j = hb 38 j ∧ h 39 j = hb 39 j) ∧ jFr hb h [33, 36, 37, 38, 39, 41, 42]
theorem c_b_solve_L (hb : jm_H) (K : Int → Int → Int) (q : List jT) (i s S : Int) (hV : jVo_20 hb i s q.length (jpx q) (jpy q) (jpl_ K q) (jpm K q)) (hW : jWy q.length (jpx q) (jpy q) (jpl_ K q) (jpm K q)) (hPw : jPw q.length (jPP K q)) (hS : S = jlq K q) (hq : jBq hb q.length (jPP K q)) (e3 : hb 31 3 = q.length) : ∀ (m : Nat) (f : Int) (z1 : jm_V) (h : jm_H), 0 ≤ f → f ≤ q.length → h 33 11 = q.length → ((jml (fun f => (jdc q.length (jPP K q) f S.toNat).1) 0 (f - 0).toNat).1 ≠ -1 → ∀ n, 0 ≤ n → n < S → h 38 (s + n) = jdw q.length (jPP K q) (jml (fun f => (jdc q.length (jPP K q) f S.toNat).1) 0 (f - 0).toNat).2 S.toNat (S - 1 - n).toNat) → (∀ j : Int, j < s ∨ s + q.length ≤ j → h 38 j = hb 38 j) → jFr hb h [33, 38, 41, 42] → q.length - f < m → jm_Ev 14 82 [jR 33, jI i, jI S, jI s, jF (jfe (jml (fun f => (jdc q.length (jPP K q) f S.toNat).1) 0 (f - 0).toNat).1), jI f, z1] [] h (jsl hb K s i q) := by
  have hN4 := hPw.1
  have hN6 := hPw.2.1
  have hSr := jlq_r hPw
  rw [← hS] at hSr
  obtain ⟨es, eN, s0, s60, hi, hpt⟩ := id hV
  intro n
  induction n with
  | zero => intro f z1 h h0 h1 e11 hcs ho hfr hm; omega
  | succ n ih =>
    intro f z1 h h0 h1 e11 hcs ho hfr hm
    refine jm_Ev.bl 3 (pc' := 88) (A' := [jR 33, jI i, jI S, jI s, jF (jfe (jml (fun f => (jdc q.length (jPP K q) f S.toNat).1) 0 (f - 0).toNat).1), jI f, z1]) (st' := [jI (h 33 11), jI f]) (hp' := h) rfl ?_
    rw [e11]
    refine jE_icmp_ge rfl (by omega) (by omega) (fun c88 => ?_) (fun c88 => ?_)
    · have ef : f = (q.length : Int) := by omega
      have eR : (jml (fun f => (jdc q.length (jPP K q) f S.toNat).1) 0 (f - 0).toNat) = jdb q.length (jPP K q) (jlst q.length (jPP K q)) := by
        unfold jdb
        rw [ef, show ((q.length : Int) - 0).toNat = (q.length : Int).toNat by omega, show S.toNat = jlst q.length (jPP K q) by rw [hS]; unfold jlq; omega]
      have hbr := jbq_r hPw
      have hbn := jdb_r hPw
      have hcs2 : ∀ n, 0 ≤ n → n < S → h 38 (s + n) = jkq K q n ∧ 0 ≤ jkq K q n ∧ jkq K q n < q.length := by
        intro n a b
        have z := jkq_r hPw a (by rw [← hS]; exact b)
        refine ⟨?_, z.1, z.2.1⟩
        rw [hcs (by rw [eR, hbn.2.2.1]; exact hbn.2.2.2) n a b, eR]
        unfold jkq jdk
        rw [show S.toNat = jlst q.length (jPP K q) by rw [hS]; unfold jlq; omega, show S = ((jlst q.length (jPP K q) : Nat) : Int) from hS]
      rw [eR, show jfe (jdb q.length (jPP K q) (jlst q.length (jPP K q))).1 = (jbq K q).toNat from jfe_p hbr.1]
      refine jm_Ev.bl 3 (pc' := 162) (A' := [jR 33, jI i, jI S, jI s, jF ((jbq K q).toNat), jI f, z1]) (st' := [jI S, jI s, jR 33]) (hp' := h) rfl ?_
      refine jE_call (vs := [jR 33, jI s, jI S]) (r := []) (nx := 165) rfl (c_b_markCorners h s S q.length (jkq K q) (by omega) (by omega) (by omega) hcs2 e11) (fun rv162 h4 hm4 => ?_)
      obtain ⟨rfl, hmk, ho4, hfr4⟩ := hm4
      refine jm_Ev.bl 4 (pc' := 172) (A' := [jR 33, jI i, jI S, jI s, jF ((jbq K q).toNat), jI f, z1]) (st' := [jF ((jbq K q).toNat), jI i, jR 36]) (hp' := h4) rfl ?_
      refine jE_callI (vs := [jF ((jbq K q).toNat)]) (r := [jI i, jR 36]) (nx := 175) (v := jI (jbq K q)) (hp1 := h4) rfl (c_bitsOf h4 (jbq K q) (jfn_mono hbr.2 (by omega))) ?_
      refine jE_iast (n := 15) rfl rfl (by omega) ?_
      refine jm_Ev.bl 3 (pc' := 181) (A' := [jR 33, jI i, jI S, jI s, jF ((jbq K q).toNat), jI f, z1]) (st' := [jI i, jR 37]) (hp' := (jm_hs h4 36 i (jbq K q))) rfl ?_
      have eA : jars (fun n => jpx q (jkq K q n)) (fun n => jpy q (jkq K q n)) S S.toNat = jaq K q := by unfold jaq; rw [hS]
      refine jm_Ev.bl 3 (pc' := 184) (A' := [jR 33, jI i, jI S, jI s, jF ((jbq K q).toNat), jI f, z1]) (st' := [jI S, jI s, jR 33, jI i, jR 37]) (hp' := (jm_hs h4 36 i (jbq K q))) rfl ?_
      refine jE_callI (vs := [jR 33, jI s, jI S]) (r := [jI i, jR 37]) (nx := 187) (v := jI ((jaq K q).natAbs : Int)) (hp1 := (jm_hs h4 36 i (jbq K q))) rfl (eA ▸ c_b_polygonArea (jm_hs h4 36 i (jbq K q)) s S q.length (jpx q) (jpy q) (jkq K q) (by omega) (by omega) (fun n a b => ⟨(congrFun (hfr4 38 (by simp)) _).trans (hcs2 n a b).1, (hcs2 n a b).2⟩) (fun n a b => ⟨(congrFun ((hfr4 24 (by simp)).trans (hfr 24 (by simp))) _).trans (hpt n a b).1, (congrFun ((hfr4 25 (by simp)).trans (hfr 25 (by simp))) _).trans (hpt n a b).2.1, by have := hW.2.2 n a b; omega⟩) (by omega)) ?_
      refine jE_iast (n := 15) rfl rfl (by omega) ?_
      refine jE_ret rfl ⟨rfl, ⟨?_, ?_, ?_, ?_⟩, ?_, ?_, ?_⟩
      · show jm_hs h4 36 i (jbq K q) 36 i = _
        rw [js_hs_eq, if_pos rfl]
      · rw [js_hs_eq, if_pos rfl]
      · intro n a b
        exact (congrFun (hfr4 38 (by simp)) _).trans (hcs2 n a (by rw [hS]; exact b)).1
      · intro y a b
        rw [← hS]
        exact hmk y a b
      · intro j hj
        refine ⟨?_, ?_⟩
        · show jm_hs h4 36 i (jbq K q) 36 j = _
          rw [js_hs_eq, if_neg hj]
          exact congrFun ((hfr4 36 (by simp)).trans (hfr 36 (by simp))) j
        · rw [js_hs_eq, if_neg hj]
          exact congrFun ((hfr4 37 (by simp)).trans (hfr 37 (by simp))) j
      · intro j hj
        exact ⟨(congrFun (hfr4 38 (by simp)) j).trans (ho j hj), (ho4 j hj).trans (congrFun (hfr 39 (by simp)) j)⟩
      · exact ((hfr.tr hfr4 (V := [33, 36, 37, 38, 39, 41, 42]) (by simp) (by simp)).set (by simp)).set (by simp)
    · have hms := jml_s (g := (fun f => (jdc q.length (jPP K q) f S.toNat).1)) (b := 0) (u := f) (by omega)
      have hcr := jdc_n hPw (show 0 ≤ f by omega) (show f < (q.length : Int) by omega) (n := S.toNat) (by omega)
      have hcr2 : (jdc q.length (jPP K q) f S.toNat).1 = -1 ∨ jfn 250 (jdc q.length (jPP K q) f S.toNat).1 := by
        rcases hcr with z | z
        · exact Or.inl z
        · exact Or.inr (jfn_mono z.2 (by omega))
      have hrr : (jml (fun f => (jdc q.length (jPP K q) f S.toNat).1) 0 (f - 0).toNat).1 = -1 ∨ jfn 250 (jml (fun f => (jdc q.length (jPP K q) f S.toNat).1) 0 (f - 0).toNat).1 := by
        rcases jml_n (g := (fun f => (jdc q.length (jPP K q) f S.toNat).1)) (b := 0) (E := 246) (k := (f - 0).toNat) (fun u a c => jdc_n hPw (show 0 ≤ u by omega) (show u < (q.length : Int) by omega) (n := S.toNat) (by omega)) with z | z
        · exact Or.inl z
        · exact Or.inr (jfn_mono z.2 (by omega))
      refine jm_Ev.bl 3 (pc' := 97) (A' := [jR 33, jI i, jI S, jI s, jF (jfe (jml (fun f => (jdc q.length (jPP K q) f S.toNat).1) 0 (f - 0).toNat).1), jI f, z1]) (st' := [jI f, jR 31]) (hp' := h) rfl ?_
      refine jE_callI (vs := [jR 31, jI f]) (r := []) (nx := 100) (v := jL (jlo (jPP K q) f ((q.length : Int) - (f + 1)).toNat)) (hp1 := h) rfl (c_j_lastOnes_31 h q.length (jPP K q) (by rw [hfr 32 (by simp)]; exact hq.1) hN6 ((congrFun (hfr 31 (by simp)) 3).trans e3) f (by omega)) ?_
      have r64 := jlo_r (P := jPP K q) (f := f) ((q.length : Int) - (f + 1)).toNat
      refine jm_Ev.bl 1 (pc' := 101) (A' := [jR 33, jI i, jI S, jI s, jF (jfe (jml (fun f => (jdc q.length (jPP K q) f S.toNat).1) 0 (f - 0).toNat).1), jI f, z1]) (st' := [jL 0, jL (jlo (jPP K q) f ((q.length : Int) - (f + 1)).toNat)]) (hp' := h) rfl ?_
      refine jE_lcmp rfl (by omega) (by omega) ?_
      refine jE_lc_ne rfl (fun c102 => ?_) (fun c102 => ?_)
      · refine jm_Ev.bl 3 (pc' := 112) (A' := [jR 33, jI i, jI S, jI s, jF (jfe (jml (fun f => (jdc q.length (jPP K q) f S.toNat).1) 0 (f - 0).toNat).1), jI f, z1]) (st' := [jI S, jI f, jR 33]) (hp' := h) rfl ?_
        refine jE_call (vs := [jR 33, jI f, jI S]) (r := []) (nx := 115) rfl (c_b_sumRound h q.length (jPP K q) hPw (jBq_fr hq (hfr 32 (by simp)) (hfr 40 (by simp))) f S (by omega) (by omega) e11) (fun rv112 h2 hh => ?_)
        obtain ⟨rfl, hsm, e11b, e12, hfr2⟩ := hh
        refine jm_Ev.bl 2 (pc' := 119) (A' := [jR 33, jI i, jI S, jI s, jF (jfe (jml (fun f => (jdc q.length (jPP K q) f S.toNat).1) 0 (f - 0).toNat).1), jI f, jF (jfe (jdc q.length (jPP K q) f S.toNat).1)]) (st' := [jF (jfe (jdc q.length (jPP K q) f S.toNat).1)]) (hp' := h2) rfl ?_
        refine jE_callI (vs := [jF (jfe (jdc q.length (jPP K q) f S.toNat).1)]) (r := []) (nx := 122) (v := jI (jb (decide ((jdc q.length (jPP K q) f S.toNat).1 ≠ -1)))) (hp1 := h2) rfl (c_b_isSum h2 (jdc q.length (jPP K q) f S.toNat).1 hcr2) ?_
        refine jE_ifd_eq rfl (fun c122 => ?_) (fun c122 => ?_)
        · refine jm_Ev.bl 2 (pc' := 82) (A' := [jR 33, jI i, jI S, jI s, jF (jfe (jml (fun f => (jdc q.length (jPP K q) f S.toNat).1) 0 (f - 0).toNat).1), jI (f + 1), jF (jfe (jdc q.length (jPP K q) f S.toNat).1)]) (st' := []) (hp' := h2) rfl ?_
          have e : (jml (fun f => (jdc q.length (jPP K q) f S.toNat).1) 0 (f + 1 - 0).toNat) = (jml (fun f => (jdc q.length (jPP K q) f S.toNat).1) 0 (f - 0).toNat) := by rw [hms, if_neg (fun w => c122 w.1)]
          have u := ih (f + 1) (jF (jfe (jdc q.length (jPP K q) f S.toNat).1)) h2 (by omega) (by omega) e11b (by rw [e]; exact fun w n a b => (congrFun (hfr2 38 (by simp)) _).trans (hcs w n a b)) (fun j w => (congrFun (hfr2 38 (by simp)) j).trans (ho j w)) (hfr.tr hfr2 (by simp) (by simp)) (by omega)
          rw [e] at u
          exact u
        · refine jm_Ev.bl 1 (pc' := 127) (A' := [jR 33, jI i, jI S, jI s, jF (jfe (jml (fun f => (jdc q.length (jPP K q) f S.toNat).1) 0 (f - 0).toNat).1), jI f, jF (jfe (jdc q.length (jPP K q) f S.toNat).1)]) (st' := [jF (jfe (jml (fun f => (jdc q.length (jPP K q) f S.toNat).1) 0 (f - 0).toNat).1)]) (hp' := h2) rfl ?_
          refine jE_callI (vs := [jF (jfe (jml (fun f => (jdc q.length (jPP K q) f S.toNat).1) 0 (f - 0).toNat).1)]) (r := []) (nx := 130) (v := jI (jb (decide ((jml (fun f => (jdc q.length (jPP K q) f S.toNat).1) 0 (f - 0).toNat).1 ≠ -1)))) (hp1 := h2) rfl (c_b_isSum h2 (jml (fun f => (jdc q.length (jPP K q) f S.toNat).1) 0 (f - 0).toNat).1 hrr) ?_
          refine jE_ifd_eq rfl (fun c130 => ?_) (fun c130 => ?_)
          · have hcn : (jdc q.length (jPP K q) f S.toNat).1 ≠ -1 := c122
            refine jm_Ev.bl 6 (pc' := 150) (A' := [jR 33, jI i, jI S, jI s, jF (jfe (jdc q.length (jPP K q) f S.toNat).1), jI f, jF (jfe (jdc q.length (jPP K q) f S.toNat).1)]) (st' := [jI S, jI f, jI s, jR 33]) (hp' := h2) rfl ?_
            refine jE_call (vs := [jR 33, jI s, jI f, jI S]) (r := []) (nx := 153) rfl (c_b_keepCorners h2 s q.length (jPP K q) hPw f S (by omega) (by omega) (by omega) hsm hcn e12) (fun rv150 h3 hk3 => ?_)
            obtain ⟨rfl, hk, ho3, hfr3⟩ := hk3
            refine jm_Ev.bl 2 (pc' := 82) (A' := [jR 33, jI i, jI S, jI s, jF (jfe (jdc q.length (jPP K q) f S.toNat).1), jI (f + 1), jF (jfe (jdc q.length (jPP K q) f S.toNat).1)]) (st' := []) (hp' := h3) rfl ?_
            have e : (jml (fun f => (jdc q.length (jPP K q) f S.toNat).1) 0 (f + 1 - 0).toNat) = ((jdc q.length (jPP K q) f S.toNat).1, f) := by rw [hms, if_pos ⟨c122, Or.inl (Decidable.not_not.mp c130)⟩]
            have u := ih (f + 1) (jF (jfe (jdc q.length (jPP K q) f S.toNat).1)) h3 (by omega) (by omega) ((congrFun (hfr3 33 (by simp)) 11).trans e11b) (fun _ n a b => by rw [e]; exact hk n a b) (fun j w => (ho3 j w).trans ((congrFun (hfr2 38 (by simp)) j).trans (ho j w))) (hfr.tr (hfr2.tr hfr3 (V := [33, 38, 41, 42]) (by simp) (by simp)) (by simp) (by simp)) (by omega)
            rw [e] at u
            exact u
          · refine jm_Ev.bl 2 (pc' := 137) (A' := [jR 33, jI i, jI S, jI s, jF (jfe (jml (fun f => (jdc q.length (jPP K q) f S.toNat).1) 0 (f - 0).toNat).1), jI f, jF (jfe (jdc q.length (jPP K q) f S.toNat).1)]) (st' := [jF (jfe (jml (fun f => (jdc q.length (jPP K q) f S.toNat).1) 0 (f - 0).toNat).1), jF (jfe (jdc q.length (jPP K q) f S.toNat).1)]) (hp' := h2) rfl ?_
            refine jE_fcmp (u := (jdc q.length (jPP K q) f S.toNat).1) (v := (jml (fun f => (jdc q.length (jPP K q) f S.toNat).1) 0 (f - 0).toNat).1) rfl (jcmp hcr2 hrr) ?_
            refine jE_lc_ge rfl (fun c138 => ?_) (fun c138 => ?_)
            · refine jm_Ev.bl 2 (pc' := 82) (A' := [jR 33, jI i, jI S, jI s, jF (jfe (jml (fun f => (jdc q.length (jPP K q) f S.toNat).1) 0 (f - 0).toNat).1), jI (f + 1), jF (jfe (jdc q.length (jPP K q) f S.toNat).1)]) (st' := []) (hp' := h2) rfl ?_
              have e : (jml (fun f => (jdc q.length (jPP K q) f S.toNat).1) 0 (f + 1 - 0).toNat) = (jml (fun f => (jdc q.length (jPP K q) f S.toNat).1) 0 (f - 0).toNat) := by rw [hms, if_neg (fun w => by rcases w.2 with w | w; exact c130 w; exact absurd w (by omega))]
              have u := ih (f + 1) (jF (jfe (jdc q.length (jPP K q) f S.toNat).1)) h2 (by omega) (by omega) e11b (by rw [e]; exact fun w n a b => (congrFun (hfr2 38 (by simp)) _).trans (hcs w n a b)) (fun j w => (congrFun (hfr2 38 (by simp)) j).trans (ho j w)) (hfr.tr hfr2 (by simp) (by simp)) (by omega)
              rw [e] at u
              exact u
            · have hcn : (jdc q.length (jPP K q) f S.toNat).1 ≠ -1 := c122
              refine jm_Ev.bl 6 (pc' := 150) (A' := [jR 33, jI i, jI S, jI s, jF (jfe (jdc q.length (jPP K q) f S.toNat).1), jI f, jF (jfe (jdc q.length (jPP K q) f S.toNat).1)]) (st' := [jI S, jI f, jI s, jR 33]) (hp' := h2) rfl ?_
              refine jE_call (vs := [jR 33, jI s, jI f, jI S]) (r := []) (nx := 153) rfl (c_b_keepCorners h2 s q.length (jPP K q) hPw f S (by omega) (by omega) (by omega) hsm hcn e12) (fun rv150 h3 hk3 => ?_)
              obtain ⟨rfl, hk, ho3, hfr3⟩ := hk3
              refine jm_Ev.bl 2 (pc' := 82) (A' := [jR 33, jI i, jI S, jI s, jF (jfe (jdc q.length (jPP K q) f S.toNat).1), jI (f + 1), jF (jfe (jdc q.length (jPP K q) f S.toNat).1)]) (st' := []) (hp' := h3) rfl ?_
              have e : (jml (fun f => (jdc q.length (jPP K q) f S.toNat).1) 0 (f + 1 - 0).toNat) = ((jdc q.length (jPP K q) f S.toNat).1, f) := by rw [hms, if_pos ⟨c122, Or.inr c138⟩]
              have u := ih (f + 1) (jF (jfe (jdc q.length (jPP K q) f S.toNat).1)) h3 (by omega) (by omega) ((congrFun (hfr3 33 (by simp)) 11).trans e11b) (fun _ n a b => by rw [e]; exact hk n a b) (fun j w => (ho3 j w).trans ((congrFun (hfr2 38 (by simp)) j).trans (ho j w))) (hfr.tr (hfr2.tr hfr3 (V := [33, 38, 41, 42]) (by simp) (by simp)) (by simp) (by simp)) (by omega)
              rw [e] at u
              exact u
      · refine jm_Ev.bl 3 (pc' := 82) (A' := [jR 33, jI i, jI S, jI s, jF (jfe (jml (fun f => (jdc q.length (jPP K q) f S.toNat).1) 0 (f - 0).toNat).1), jI (f + 1), z1]) (st' := []) (hp' := h) rfl ?_
        have e : (jml (fun f => (jdc q.length (jPP K q) f S.toNat).1) 0 (f + 1 - 0).toNat) = (jml (fun f => (jdc q.length (jPP K q) f S.toNat).1) 0 (f - 0).toNat) := by rw [hms, if_neg (fun w => w.1 (jlast0 hPw (by omega) (by omega) c102 S.toNat (by omega)))]
        have u := ih (f + 1) (z1) h (by omega) (by omega) e11 (by rw [e]; exact hcs) ho hfr (by omega)
        rw [e] at u
        exact u
