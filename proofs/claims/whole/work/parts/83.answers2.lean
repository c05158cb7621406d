/-! answers of outlines and points; the class -/
theorem c_x_outlineAnswer (hp : jm_H) (K : Int → Int → Int) (O : List (List jT)) (hC : jCl hp K O) (i : Nat) (q : List jT) (hq : O[i]? = some q) (wt : Int) (hwt : 0 ≤ wt ∧ wt ≤ 6) : jm_Ev 119 0 [jR 0, jI (i : Int), jI wt] [] hp (jan hp K O (jto K q wt)) := by
  obtain ⟨hK, hI, hO, hA⟩ := id hC
  have hW := jOw hK hI hq
  have hPw := jOP hK hI hq
  have hV := jVo_of_20 hK hI hO hq
  have hl := jOs hK hI hq
  have hO0 := hO.1
  have hN4 := hW.1
  have hN6 := hW.2.1
  obtain ⟨es, eN, s0, s60, hi, hpt⟩ := id hV
  refine jm_Ev.bl 1 (pc' := 1) (A' := [jR 0, jI (i : Int), jI wt]) (st' := [jI wt]) (hp' := hp) rfl ?_
  rcases (show wt = 0 ∨ wt = 1 ∨ wt = 2 ∨ wt = 3 ∨ wt = 4 ∨ wt = 5 ∨ (wt < 0 ∨ 5 < wt) by omega) with c1 | c1 | c1 | c1 | c1 | c1 | c1
  · subst c1
    refine jm_Ev.bl 4 (pc' := 45) (A' := [jR 0, jI (i : Int), jI 0]) (st' := [jI (i : Int), jR 20]) (hp' := hp) rfl ?_
    refine jE_callI (vs := [jR 20, jI (i : Int)]) (r := []) (nx := 48) (v := jI (q.length : Int)) (hp1 := hp) rfl (eN ▸ c_o_len_20 hp (by omega) i (by omega) (by omega)) ?_
    exact jE_ret rfl ⟨rfl, hC, jFr.rf⟩
  · subst c1
    refine jm_Ev.bl 4 (pc' := 54) (A' := [jR 0, jI (i : Int), jI 1]) (st' := [jI (i : Int), jR 20]) (hp' := hp) rfl ?_
    refine jE_callI (vs := [jR 20, jI (i : Int)]) (r := []) (nx := 57) (v := jI (if jar q < 0 then 1 else 0)) (hp1 := hp) rfl (c_o_isHole hp K O hC i q hq) ?_
    refine jE_if_eq rfl (by split <;> omega) (fun c57 => ?_) (fun c57 => ?_)
    · refine jm_Ev.bl 1 (pc' := 65) (A' := [jR 0, jI (i : Int), jI 1]) (st' := [jI 0]) (hp' := hp) rfl ?_
      exact jE_ret rfl ⟨jrI (by show _ = (if jar q < 0 then 1 else 0); split at c57 <;> first | omega | (split <;> omega)), hC, jFr.rf⟩
    · refine jm_Ev.bl 2 (pc' := 65) (A' := [jR 0, jI (i : Int), jI 1]) (st' := [jI 1]) (hp' := hp) rfl ?_
      exact jE_ret rfl ⟨jrI (by show _ = (if jar q < 0 then 1 else 0); split at c57 <;> first | omega | (split <;> omega)), hC, jFr.rf⟩
  · subst c1
    refine jm_Ev.bl 4 (pc' := 71) (A' := [jR 0, jI (i : Int), jI 2]) (st' := [jI (i : Int), jR 33]) (hp' := hp) rfl ?_
    refine jE_call (vs := [jR 33, jI (i : Int)]) (r := []) (nx := 74) rfl (c_b_fewestOf hp K O hC i q hq) (fun rv71 h1 hh => ?_)
    obtain ⟨rfl, hC1, hf1⟩ := hh
    exact jE_ret rfl ⟨rfl, hC1, hf1.wk (by simp)⟩
  · subst c1
    refine jm_Ev.bl 4 (pc' := 80) (A' := [jR 0, jI (i : Int), jI 3]) (st' := [jI (i : Int), jR 33]) (hp' := hp) rfl ?_
    refine jE_call (vs := [jR 33, jI (i : Int)]) (r := []) (nx := 83) rfl (c_b_solve hp K O hC i q hq) (fun rv80 h1 hh => ?_)
    obtain ⟨rfl, hC1, e35, hsv, hf1⟩ := hh
    refine jm_Ev.bl 3 (pc' := 88) (A' := [jR 0, jI (i : Int), jI 3]) (st' := [jI (i : Int), jR 33]) (hp' := h1) rfl ?_
    refine jE_callI (vs := [jR 33, jI (i : Int)]) (r := []) (nx := 91) (v := jI (jbq K q)) (hp1 := h1) rfl (hsv.1 ▸ c_b_bitsAt h1 i (by omega)) ?_
    exact jE_ret rfl ⟨rfl, hC1, hf1.wk (by simp)⟩
  · subst c1
    refine jm_Ev.bl 4 (pc' := 97) (A' := [jR 0, jI (i : Int), jI 4]) (st' := [jI (i : Int), jR 33]) (hp' := hp) rfl ?_
    refine jE_call (vs := [jR 33, jI (i : Int)]) (r := []) (nx := 100) rfl (c_b_solve hp K O hC i q hq) (fun rv97 h1 hh => ?_)
    obtain ⟨rfl, hC1, e35, hsv, hf1⟩ := hh
    refine jm_Ev.bl 3 (pc' := 105) (A' := [jR 0, jI (i : Int), jI 4]) (st' := [jI (i : Int), jR 33]) (hp' := h1) rfl ?_
    refine jE_callI (vs := [jR 33, jI (i : Int)]) (r := []) (nx := 108) (v := jI ((jaq K q).natAbs : Int)) (hp1 := h1) rfl (hsv.2.1 ▸ c_b_areaAt h1 i (by omega)) ?_
    exact jE_ret rfl ⟨rfl, hC1, hf1.wk (by simp)⟩
  · subst c1
    refine jm_Ev.bl 4 (pc' := 114) (A' := [jR 0, jI (i : Int), jI 5]) (st' := [jI (i : Int), jR 20]) (hp' := hp) rfl ?_
    refine jE_callI (vs := [jR 20, jI (i : Int)]) (r := []) (nx := 117) (v := jI (jar q)) (hp1 := hp) rfl (c_o_areaOf hp K O hC i q hq) ?_
    refine jE_abs (nx := 120) rfl (by have := jar_r hW; omega) ?_
    exact jE_ret rfl ⟨rfl, hC, jFr.rf⟩
  · refine jE_tswd rfl (by omega) c1 ?_
    refine jm_Ev.bl 3 (pc' := 126) (A' := [jR 0, jI (i : Int), jI wt]) (st' := [jI (i : Int), jR 20]) (hp' := hp) rfl ?_
    refine jE_callI (vs := [jR 20, jI (i : Int)]) (r := []) (nx := 129) (v := jI (jmc K q q.length)) (hp1 := hp) rfl (c_o_mustCount hp K O hC i q hq) ?_
    exact jE_ret rfl ⟨jrI (by rw [show wt = 6 by omega]; rfl), hC, jFr.rf⟩
theorem c_x_pointAnswer (hp : jm_H) (K : Int → Int → Int) (O : List (List jT)) (hC : jCl hp K O) (i : Nat) (q : List jT) (hq : O[i]? = some q) (n : Int) (hn : 0 ≤ n ∧ n < q.length) (wt : Int) (hwt : 0 ≤ wt ∧ wt ≤ 4) : jm_Ev 120 0 [jR 0, jI (i : Int), jI n, jI wt, jU] [] hp (jan hp K O (jtp K q n wt)) := by
  obtain ⟨hK, hI, hO, hA⟩ := id hC
  have hW := jOw hK hI hq
  have hPw := jOP hK hI hq
  have hV := jVo_of_20 hK hI hO hq
  have hl := jOs hK hI hq
  have hO0 := hO.1
  have hN4 := hW.1
  have hN6 := hW.2.1
  obtain ⟨es, eN, s0, s60, hi, hpt⟩ := id hV
  have pn := hpt n hn.1 hn.2
  have rn := hW.2.2 n hn.1 hn.2
  refine jm_Ev.bl 3 (pc' := 5) (A' := [jR 0, jI (i : Int), jI n, jI wt, jU]) (st' := [jI (i : Int), jR 20]) (hp' := hp) rfl ?_
  refine jE_callI (vs := [jR 20, jI (i : Int)]) (r := []) (nx := 8) (v := jI ((O.take i).flatten.length : Int)) (hp1 := hp) rfl (es ▸ c_o_startOf_20 hp i (by omega) (by omega)) ?_
  refine jm_Ev.bl 4 (pc' := 13) (A' := [jR 0, jI (i : Int), jI n, jI wt, jI (((O.take i).flatten.length : Int) + n)]) (st' := [jI wt]) (hp' := hp) rfl ?_
  rcases (show wt = 0 ∨ wt = 1 ∨ wt = 2 ∨ wt = 3 ∨ (wt < 0 ∨ 3 < wt) by omega) with c13 | c13 | c13 | c13 | c13
  · subst c13
    refine jm_Ev.bl 5 (pc' := 52) (A' := [jR 0, jI (i : Int), jI n, jI 0, jI (((O.take i).flatten.length : Int) + n)]) (st' := [jI (((O.take i).flatten.length : Int) + n), jR 20, jI 10]) (hp' := hp) rfl ?_
    refine jE_callI (vs := [jR 20, jI (((O.take i).flatten.length : Int) + n)]) (r := [jI 10]) (nx := 55) (v := jI (jpx q n)) (hp1 := hp) rfl (pn.1 ▸ c_o_xAt_20 hp (((O.take i).flatten.length : Int) + n) (by omega) (by omega)) ?_
    refine jm_Ev.bl 4 (pc' := 62) (A' := [jR 0, jI (i : Int), jI n, jI 0, jI (((O.take i).flatten.length : Int) + n)]) (st' := [jI (((O.take i).flatten.length : Int) + n), jR 20, jI (10 * (jpx q n))]) (hp' := hp) rfl ?_
    refine jE_callI (vs := [jR 20, jI (((O.take i).flatten.length : Int) + n)]) (r := [jI (10 * (jpx q n))]) (nx := 65) (v := jI (jpy q n)) (hp1 := hp) rfl (pn.2.1 ▸ c_o_yAt_20 hp (((O.take i).flatten.length : Int) + n) (by omega) (by omega)) ?_
    refine jm_Ev.bl 1 (pc' := 66) (A' := [jR 0, jI (i : Int), jI n, jI 0, jI (((O.take i).flatten.length : Int) + n)]) (st' := [jI ((10 * (jpx q n)) + (jpy q n))]) (hp' := hp) rfl ?_
    exact jE_ret rfl ⟨rfl, hC, jFr.rf⟩
  · subst c13
    refine jm_Ev.bl 4 (pc' := 73) (A' := [jR 0, jI (i : Int), jI n, jI 1, jI (((O.take i).flatten.length : Int) + n)]) (st' := [jI (((O.take i).flatten.length : Int) + n), jR 20]) (hp' := hp) rfl ?_
    refine jE_callI (vs := [jR 20, jI (((O.take i).flatten.length : Int) + n)]) (r := []) (nx := 76) (v := jI (jpl_ K q n)) (hp1 := hp) rfl (pn.2.2.1 ▸ c_o_leewayAt_20 hp (((O.take i).flatten.length : Int) + n) (by omega) (by omega)) ?_
    exact jE_ret rfl ⟨rfl, hC, jFr.rf⟩
  · subst c13
    refine jm_Ev.bl 4 (pc' := 83) (A' := [jR 0, jI (i : Int), jI n, jI 2, jI (((O.take i).flatten.length : Int) + n)]) (st' := [jI (((O.take i).flatten.length : Int) + n), jR 20]) (hp' := hp) rfl ?_
    refine jE_callI (vs := [jR 20, jI (((O.take i).flatten.length : Int) + n)]) (r := []) (nx := 86) (v := jI (jpm K q n)) (hp1 := hp) rfl (pn.2.2.2 ▸ c_o_mustAt_20 hp (((O.take i).flatten.length : Int) + n) (by omega) (by omega) (by rw [pn.2.2.2]; exact rn.2.2.2)) ?_
    refine jE_if_eq rfl (by have := rn.2.2.2; omega) (fun c86 => ?_) (fun c86 => ?_)
    · refine jm_Ev.bl 1 (pc' := 94) (A' := [jR 0, jI (i : Int), jI n, jI 2, jI (((O.take i).flatten.length : Int) + n)]) (st' := [jI 0]) (hp' := hp) rfl ?_
      exact jE_ret rfl ⟨jrI (by show _ = jpm K q n; have := rn.2.2.2; omega), hC, jFr.rf⟩
    · refine jm_Ev.bl 2 (pc' := 94) (A' := [jR 0, jI (i : Int), jI n, jI 2, jI (((O.take i).flatten.length : Int) + n)]) (st' := [jI 1]) (hp' := hp) rfl ?_
      exact jE_ret rfl ⟨jrI (by show _ = jpm K q n; have := rn.2.2.2; omega), hC, jFr.rf⟩
  · subst c13
    refine jm_Ev.bl 5 (pc' := 101) (A' := [jR 0, jI (i : Int), jI n, jI 3, jI (((O.take i).flatten.length : Int) + n)]) (st' := [jI n, jI (i : Int), jR 20]) (hp' := hp) rfl ?_
    refine jE_callI (vs := [jR 20, jI (i : Int), jI n]) (r := []) (nx := 104) (v := jI (jrch K q n)) (hp1 := hp) rfl (c_o_reachOf hp K O hC i q hq n hn) ?_
    exact jE_ret rfl ⟨rfl, hC, jFr.rf⟩
  · refine jE_tswd rfl (by omega) c13 ?_
    refine jm_Ev.bl 3 (pc' := 110) (A' := [jR 0, jI (i : Int), jI n, jI wt, jI (((O.take i).flatten.length : Int) + n)]) (st' := [jI (i : Int), jR 33]) (hp' := hp) rfl ?_
    refine jE_call (vs := [jR 33, jI (i : Int)]) (r := []) (nx := 113) rfl (c_b_solve hp K O hC i q hq) (fun rv110 h1 hh => ?_)
    obtain ⟨rfl, hC1, e35, hsv, hf1⟩ := hh
    refine jm_Ev.bl 3 (pc' := 119) (A' := [jR 0, jI (i : Int), jI n, jI wt, jI (((O.take i).flatten.length : Int) + n)]) (st' := [jI (((O.take i).flatten.length : Int) + n), jR 33]) (hp' := h1) rfl ?_
    refine jE_callI (vs := [jR 33, jI (((O.take i).flatten.length : Int) + n)]) (r := []) (nx := 122) (v := jI (jb (jchk (jkq K q) (jlq K q).toNat n))) (hp1 := h1) rfl ((hsv.2.2.2 n hn.1 hn.2) ▸ c_b_isCornerAt h1 (((O.take i).flatten.length : Int) + n) (by omega) (by rw [hsv.2.2.2 n hn.1 hn.2]; exact jb_01 _)) ?_
    refine jE_ifb_eq rfl (fun c122 => ?_) (fun c122 => ?_)
    · refine jm_Ev.bl 1 (pc' := 130) (A' := [jR 0, jI (i : Int), jI n, jI wt, jI (((O.take i).flatten.length : Int) + n)]) (st' := [jI 0]) (hp' := h1) rfl ?_
      exact jE_ret rfl ⟨jrI (by rw [show wt = 4 by omega]; show _ = jb (jchk (jkq K q) (jlq K q).toNat n); rw [c122]; rfl), hC1, hf1.wk (by simp)⟩
    · refine jm_Ev.bl 2 (pc' := 130) (A' := [jR 0, jI (i : Int), jI n, jI wt, jI (((O.take i).flatten.length : Int) + n)]) (st' := [jI 1]) (hp' := h1) rfl ?_
      exact jE_ret rfl ⟨jrI (by rw [show wt = 4 by omega]; show _ = jb (jchk (jkq K q) (jlq K q).toNat n); rw [c122]; rfl), hC1, hf1.wk (by simp)⟩
theorem c_x_allCorners_L (hp : jm_H) (K : Int → Int → Int) (O : List (List jT)) (hl : O.length ≤ 15) : ∀ (m : Nat) (i : Nat) (h : jm_H), i ≤ O.length → jCl h K O → jFr hp h [31, 32, 33, 34, 35, 36, 37, 38, 39, 40, 41, 42] → O.length - i < m → jm_Ev 124 4 [jR 0, jI (jalc K O i), jI (i : Int)] [] h (jan hp K O (jalc K O O.length)) := by
  intro fu
  induction fu with
  | zero => intro i h h1 hC hfr hm; omega
  | succ fu ih =>
    intro i h h1 hC hfr hm
    refine jm_Ev.bl 4 (pc' := 12) (A' := [jR 0, jI (jalc K O i), jI (i : Int)]) (st' := [jI (h 20 0), jI (i : Int)]) (hp' := h) rfl ?_
    rw [show h 20 0 = (O.length : Int) from hC.2.2.1.1]
    refine jE_icmp_ge rfl (by omega) (by omega) (fun c12 => ?_) (fun c12 => ?_)
    · refine jm_Ev.bl 1 (pc' := 33) (A' := [jR 0, jI (jalc K O i), jI (i : Int)]) (st' := [jI (jalc K O i)]) (hp' := h) rfl ?_
      exact jE_ret rfl ⟨jrI (by rw [show i = O.length by omega]), hC, hfr⟩
    · obtain ⟨q, hq⟩ : ∃ q, O[i]? = some q := ⟨_, List.getElem?_eq_getElem (show i < O.length by omega)⟩
      refine jm_Ev.bl 4 (pc' := 21) (A' := [jR 0, jI (jalc K O i), jI (i : Int)]) (st' := [jI (i : Int), jR 33, jI (jalc K O i)]) (hp' := h) rfl ?_
      refine jE_call (vs := [jR 33, jI (i : Int)]) (r := [jI (jalc K O i)]) (nx := 24) rfl (c_b_fewestOf h K O hC i q hq) (fun rv21 h1 hh => ?_)
      obtain ⟨rfl, hC1, hf1⟩ := hh
      refine jm_Ev.bl 4 (pc' := 4) (A' := [jR 0, jI ((jalc K O i) + (jlq K q)), jI ((i : Int) + 1)]) (st' := []) (hp' := h1) rfl ?_
      have z := ih (i + 1) h1 (by omega) hC1 (hfr.tr hf1 (by simp) (by simp)) (by omega)
      rw [jalc_s hq, show ((i + 1 : Nat) : Int) = (i : Int) + 1 by omega] at z
      exact z
theorem c_x_allCorners (hp : jm_H) (K : Int → Int → Int) (O : List (List jT)) (hC : jCl hp K O) : jm_Ev 124 0 [jR 0, jU, jU] [] hp (jan hp K O (jalc K O O.length)) := by
  refine jm_Ev.bl 4 (pc' := 4) (A' := [jR 0, jI 0, jI 0]) (st' := []) (hp' := hp) rfl ?_
  have hl := jInv_15 hC.1 hC.2.1
  exact c_x_allCorners_L hp K O hl 16 0 hp (by omega) hC jFr.rf (by omega)
theorem c_o_hasPoint (hp : jm_H) (hc : 0 ≤ hp 20 0 ∧ hp 20 0 ≤ 15) (i n : Int) (hi : jR32 i) (hn : jR32 n) (hr : jR32 (if 0 ≤ i ∧ i < hp 20 0 then hp 22 i else 0)) : jm_Ev 59 0 [jR 20, jI i, jI n] [] hp (jK (some (jI (jb (decide (0 ≤ n ∧ n < (if 0 ≤ i ∧ i < hp 20 0 then hp 22 i else 0)))))) hp) := by
  generalize hLN : (if 0 ≤ i ∧ i < hp 20 0 then hp 22 i else 0) = ln at *
  refine jm_Ev.bl 1 (pc' := 1) (A' := [jR 20, jI i, jI n]) (st' := [jI n]) (hp' := hp) rfl ?_
  refine jE_if_lt rfl (by omega) (fun c1 => ?_) (fun c1 => ?_)
  · refine jm_Ev.bl 1 (pc' := 18) (A' := [jR 20, jI i, jI n]) (st' := [jI 0]) (hp' := hp) rfl ?_
    exact jE_ret rfl ⟨jrI (by rw [decide_eq_false (fun z => by omega)]; rfl), rfl⟩
  · refine jm_Ev.bl 3 (pc' := 7) (A' := [jR 20, jI i, jI n]) (st' := [jI i, jR 20, jI n]) (hp' := hp) rfl ?_
    refine jE_callI (vs := [jR 20, jI i]) (r := [jI n]) (nx := 10) (v := jI (if 0 ≤ i ∧ i < hp 20 0 then hp 22 i else 0)) (hp1 := hp) rfl (c_o_lengthOf_20 hp hc i hi) ?_
    refine jE_icmp_ge rfl (by omega) (by omega) (fun c10 => ?_) (fun c10 => ?_)
    · refine jm_Ev.bl 1 (pc' := 18) (A' := [jR 20, jI i, jI n]) (st' := [jI 0]) (hp' := hp) rfl ?_
      exact jE_ret rfl ⟨jrI (by rw [decide_eq_false (fun z => by omega)]; rfl), rfl⟩
    · refine jm_Ev.bl 2 (pc' := 18) (A' := [jR 20, jI i, jI n]) (st' := [jI 1]) (hp' := hp) rfl ?_
      exact jE_ret rfl ⟨jrI (by rw [decide_eq_true ⟨by omega, by omega⟩]; rfl), rfl⟩
theorem c_o_hasPair (hp : jm_H) (hc : 0 ≤ hp 20 0 ∧ hp 20 0 ≤ 15) (i a b : Int) (hi : jR32 i) (ha : jR32 a) (hb : jR32 b) (hr : jR32 (if 0 ≤ i ∧ i < hp 20 0 then hp 22 i else 0)) : jm_Ev 60 0 [jR 20, jI i, jI a, jI b] [] hp (jK (some (jI (jb (decide ((0 ≤ a ∧ a < (if 0 ≤ i ∧ i < hp 20 0 then hp 22 i else 0)) ∧ (0 ≤ b ∧ b < (if 0 ≤ i ∧ i < hp 20 0 then hp 22 i else 0)) ∧ a ≠ b))))) hp) := by
  refine jm_Ev.bl 3 (pc' := 3) (A' := [jR 20, jI i, jI a, jI b]) (st' := [jI a, jI i, jR 20]) (hp' := hp) rfl ?_
  refine jE_callI (vs := [jR 20, jI i, jI a]) (r := []) (nx := 6) (v := jI (jb (decide (0 ≤ a ∧ a < (if 0 ≤ i ∧ i < hp 20 0 then hp 22 i else 0))))) (hp1 := hp) rfl (c_o_hasPoint hp hc i a hi (by omega) hr) ?_
  refine jE_ifd_eq rfl (fun c6 => ?_) (fun c6 => ?_)
  · refine jm_Ev.bl 1 (pc' := 28) (A' := [jR 20, jI i, jI a, jI b]) (st' := [jI 0]) (hp' := hp) rfl ?_
    exact jE_ret rfl ⟨jrI (by rw [decide_eq_false (fun z => c6 z.1)]; rfl), rfl⟩
  · refine jm_Ev.bl 3 (pc' := 12) (A' := [jR 20, jI i, jI a, jI b]) (st' := [jI b, jI i, jR 20]) (hp' := hp) rfl ?_
    refine jE_callI (vs := [jR 20, jI i, jI b]) (r := []) (nx := 15) (v := jI (jb (decide (0 ≤ b ∧ b < (if 0 ≤ i ∧ i < hp 20 0 then hp 22 i else 0))))) (hp1 := hp) rfl (c_o_hasPoint hp hc i b hi (by omega) hr) ?_
    refine jE_ifd_eq rfl (fun c15 => ?_) (fun c15 => ?_)
    · refine jm_Ev.bl 1 (pc' := 28) (A' := [jR 20, jI i, jI a, jI b]) (st' := [jI 0]) (hp' := hp) rfl ?_
      exact jE_ret rfl ⟨jrI (by rw [decide_eq_false (fun z => c15 z.2.1)]; rfl), rfl⟩
    · refine jm_Ev.bl 2 (pc' := 20) (A' := [jR 20, jI i, jI a, jI b]) (st' := [jI b, jI a]) (hp' := hp) rfl ?_
      refine jE_icmp_eq rfl (by omega) (by omega) (fun c20 => ?_) (fun c20 => ?_)
      · refine jm_Ev.bl 1 (pc' := 28) (A' := [jR 20, jI i, jI a, jI b]) (st' := [jI 0]) (hp' := hp) rfl ?_
        exact jE_ret rfl ⟨jrI (by rw [decide_eq_false (fun z => z.2.2 c20)]; rfl), rfl⟩
      · refine jm_Ev.bl 2 (pc' := 28) (A' := [jR 20, jI i, jI a, jI b]) (st' := [jI 1]) (hp' := hp) rfl ?_
        exact jE_ret rfl ⟨jrI (by rw [decide_eq_true ⟨c6, c15, c20⟩]; rfl), rfl⟩
