/-! the class's caches -/
def jFl (h : jm_H) (K : Int → Int → Int) (q : List jT) : Prop := h 31 3 = q.length ∧ ∀ a : Int, 0 ≤ a → a < q.length → h 32 a = jjf q.length (jpx q) (jpy q) (jpl_ K q) (jpm K q) a ((q.length : Int) - 1).toNat
def jCa (h : jm_H) (K : Int → Int → Int) (O : List (List jT)) : Prop := jR32 (h 31 2) ∧ (∀ (i : Nat) q, O[i]? = some q → h 31 2 = (i : Int) → jFl h K q) ∧ ∀ (i : Nat) q, O[i]? = some q → (h 34 i = 0 ∨ h 34 i = jlq K q) ∧ (h 35 i = 0 ∨ (h 35 i = 1 ∧ jSv h K ((O.take i).flatten.length : Int) i q))
theorem jdisj {O : List (List jT)} {i j : Nat} {q r : List jT} (hi : O[i]? = some q) (hj : O[j]? = some r) (h : i ≠ j) : (O.take i).flatten.length + q.length ≤ (O.take j).flatten.length ∨ (O.take j).flatten.length + r.length ≤ (O.take i).flatten.length := by
  have a := jfl_take hi
  have b := jfl_take hj
  rcases (show i + 1 ≤ j ∨ j + 1 ≤ i by omega) with c | c
  · have d := jfl_le (O := O) c
    rw [a, List.length_append] at d
    exact Or.inl d
  · have d := jfl_le (O := O) c
    rw [b, List.length_append] at d
    exact Or.inr d
theorem jsame {O : List (List jT)} {i : Nat} {q r : List jT} (hi : O[i]? = some q) (hj : O[i]? = some r) : q = r := by
  rw [hi] at hj
  exact Option.some.inj hj
theorem jFl_fr {hp h : jm_H} {K : Int → Int → Int} {q : List jT} (hF : jFl hp K q) (e1 : h 31 = hp 31) (e2 : h 32 = hp 32) : jFl h K q := by
  unfold jFl at *
  rw [e1, e2]
  exact hF
theorem jSv_fr {hp h : jm_H} {K : Int → Int → Int} {s i : Int} {q : List jT} (hF : jSv hp K s i q) (hn : jlq K q ≤ q.length) (e1 : h 36 i = hp 36 i) (e2 : h 37 i = hp 37 i) (e3 : ∀ x : Int, 0 ≤ x → x < q.length → h 38 (s + x) = hp 38 (s + x) ∧ h 39 (s + x) = hp 39 (s + x)) : jSv h K s i q := by
  obtain ⟨a, b, c, d⟩ := hF
  refine ⟨by rw [e1]; exact a, by rw [e2]; exact b, fun n n0 n1 => ?_, fun y y0 y1 => ?_⟩
  · rw [(e3 n n0 (by omega)).1]; exact c n n0 n1
  · rw [(e3 y y0 y1).2]; exact d y y0 y1
/-- the class's outlines, with its caches -/
def jCl (h : jm_H) (K : Int → Int → Int) (O : List (List jT)) : Prop := jK5 K ∧ jInv K O ∧ jCO_20 h K O ∧ jCa h K O
theorem jCO_fr {hp h : jm_H} {K : Int → Int → Int} {O : List (List jT)} (hc : jCO_20 hp K O) (e : ∀ q, 20 ≤ q → q ≤ 30 → h q = hp q) : jCO_20 h K O := by
  unfold jCO_20 jCv_20 at *
  rw [e 20 (by omega) (by omega), e 21 (by omega) (by omega), e 22 (by omega) (by omega), e 23 (by omega) (by omega), e 24 (by omega) (by omega), e 25 (by omega) (by omega), e 27 (by omega) (by omega), e 28 (by omega) (by omega)]
  exact hc
def jfo (hp : jm_H) (K : Int → Int → Int) (O : List (List jT)) (q : List jT) : Option jm_V → jm_H → Prop := fun rv h => rv = some (jI (jlq K q)) ∧ jCl h K O ∧ jFr hp h [31, 32, 34]
def jso (hp : jm_H) (K : Int → Int → Int) (O : List (List jT)) (i : Nat) (q : List jT) : Option jm_V → jm_H → Prop := fun rv h => rv = none ∧ jCl h K O ∧ h 35 i = 1 ∧ jSv h K ((O.take i).flatten.length : Int) i q ∧ jFr hp h [31, 32, 33, 35, 36, 37, 38, 39, 40, 41, 42]
theorem c_b_fewestOf (hp : jm_H) (K : Int → Int → Int) (O : List (List jT)) (hC : jCl hp K O) (i : Nat) (q : List jT) (hq : O[i]? = some q) : jm_Ev 13 0 [jR 33, jI (i : Int)] [] hp (jfo hp K O q) := by
  obtain ⟨hK, hI, hO, hA⟩ := id hC
  have hW := jOw hK hI hq
  have hPw := jOP hK hI hq
  have hV := jVo_of_20 hK hI hO hq
  have hl := jOs hK hI hq
  have hlr := jlq_r hPw
  have hA3 := hA.2.2 i q hq
  refine jm_Ev.bl 1 (pc' := 1) (A' := [jR 33, jI (i : Int)]) (st' := [jI (i : Int)]) (hp' := hp) rfl ?_
  refine jE_if_lt rfl (by omega) (fun c1 => ?_) (fun c1 => ?_)
  · omega
  · refine jm_Ev.bl 2 (pc' := 7) (A' := [jR 33, jI (i : Int)]) (st' := [jI 15, jI (i : Int)]) (hp' := hp) rfl ?_
    refine jE_icmp_lt rfl (by omega) (by omega) (fun c7 => ?_) (fun c7 => ?_)
    · refine jm_Ev.bl 3 (pc' := 17) (A' := [jR 33, jI (i : Int)]) (st' := [jI (i : Int), jR 34]) (hp' := hp) rfl ?_
      refine jE_iald (n := 15) (f := hp 34) rfl rfl (by omega) ?_
      refine jE_if_ne rfl (by rcases hA3.1 with z | z <;> omega) (fun c18 => ?_) (fun c18 => ?_)
      · refine jm_Ev.bl 3 (pc' := 47) (A' := [jR 33, jI (i : Int)]) (st' := [jI (i : Int), jR 34]) (hp' := hp) rfl ?_
        refine jE_iald (n := 15) (f := hp 34) rfl rfl (by omega) ?_
        exact jE_ret rfl ⟨jrI (by rcases hA3.1 with z | z; exact absurd z c18; exact z), hC, jFr.rf⟩
      · refine jm_Ev.bl 3 (pc' := 26) (A' := [jR 33, jI (i : Int)]) (st' := [jI (i : Int), jR 31]) (hp' := hp) rfl ?_
        refine jE_call (vs := [jR 31, jI (i : Int)]) (r := []) (nx := 29) rfl (c_j_fill_31 hp i ((O.take i).flatten.length : Int) q.length (jpx q) (jpy q) (jpl_ K q) (jpm K q) (jVo_fr_20 hV (fun _ _ _ => rfl)) hW (fun z => hA.2.1 i q hq z) hA.1) (fun rv26 h1 hh => ?_)
        obtain ⟨rfl, e2, e3, hfl, hfr⟩ := hh
        have hJ : jJr (h1 32) q.length (jPP K q) := jJr_of hW hfl
        refine jm_Ev.bl 5 (pc' := 38) (A' := [jR 33, jI (i : Int)]) (st' := [jR 31, jI (i : Int), jR 34]) (hp' := h1) rfl ?_
        refine jE_callI (vs := [jR 31]) (r := [jI (i : Int), jR 34]) (nx := 41) (v := jI (jlq K q)) (hp1 := h1) rfl (c_j_fewest_31 h1 q.length (jPP K q) hJ hPw e3) ?_
        refine jE_iast (n := 15) rfl rfl (by omega) ?_
        refine jm_Ev.bl 3 (pc' := 47) (A' := [jR 33, jI (i : Int)]) (st' := [jI (i : Int), jR 34]) (hp' := (jm_hs h1 34 (i : Int) (jlq K q))) rfl ?_
        refine jE_iald (n := 15) (f := (jm_hs h1 34 (i : Int) (jlq K q)) 34) rfl rfl (by omega) ?_
        refine jE_top (w := jlq K q) (by rw [js_hs_eq, if_pos rfl]) ?_
        refine jE_ret rfl ⟨rfl, ⟨hK, hI, jCO_fr hO (fun w a b => (js_hs_ne (by omega)).trans (hfr w (by simp; omega))), ⟨?_, ?_, ?_⟩⟩, (hfr.wk (V := [31, 32, 34]) (by simp)).set (by simp)⟩
        · show jR32 (h1 31 2); rw [e2]; exact ⟨by omega, by omega⟩
        · intro j r hr ej
          have ej : h1 31 2 = (j : Int) := ej
          have : j = i := by omega
          subst this
          have := jsame hq hr
          subst this
          exact ⟨e3, hfl⟩
        · intro j r hr
          have a := hA.2.2 j r hr
          refine ⟨?_, ?_⟩
          · rw [js_hs_eq]
            by_cases e : (j : Int) = (i : Int)
            · have : j = i := by omega
              subst this
              have := jsame hq hr
              subst this
              rw [if_pos rfl]
              exact Or.inr rfl
            · rw [if_neg e]
              rw [show h1 34 = hp 34 from hfr 34 (by simp)]
              exact a.1
          · show h1 35 j = 0 ∨ (h1 35 j = 1 ∧ jSv _ K _ j r)
            rw [show h1 35 = hp 35 from hfr 35 (by simp)]
            rcases a.2 with b | b
            · exact Or.inl b
            · exact Or.inr ⟨b.1, jSv_fr b.2 (jlq_r (jOP hK hI hr)).2 (congrFun (hfr 36 (by simp)) _) (congrFun (hfr 37 (by simp)) _) (fun y _ _ => ⟨congrFun (hfr 38 (by simp)) _, congrFun (hfr 39 (by simp)) _⟩)⟩
    · omega
theorem c_b_solve (hp : jm_H) (K : Int → Int → Int) (O : List (List jT)) (hC : jCl hp K O) (i : Nat) (q : List jT) (hq : O[i]? = some q) : jm_Ev 14 0 [jR 33, jI (i : Int), jU, jU, jU, jU, jU] [] hp (jso hp K O i q) := by
  obtain ⟨hK, hI, hO, hA⟩ := id hC
  have hW := jOw hK hI hq
  have hPw := jOP hK hI hq
  have hV := jVo_of_20 hK hI hO hq
  have hl := jOs hK hI hq
  have hlr := jlq_r hPw
  have hA3 := hA.2.2 i q hq
  refine jm_Ev.bl 1 (pc' := 1) (A' := [jR 33, jI (i : Int), jU, jU, jU, jU, jU]) (st' := [jI (i : Int)]) (hp' := hp) rfl ?_
  refine jE_if_lt rfl (by omega) (fun c1 => ?_) (fun c1 => ?_)
  · omega
  · refine jm_Ev.bl 2 (pc' := 7) (A' := [jR 33, jI (i : Int), jU, jU, jU, jU, jU]) (st' := [jI 15, jI (i : Int)]) (hp' := hp) rfl ?_
    refine jE_icmp_ge rfl (by omega) (by omega) (fun c7 => ?_) (fun c7 => ?_)
    · omega
    · refine jm_Ev.bl 3 (pc' := 15) (A' := [jR 33, jI (i : Int), jU, jU, jU, jU, jU]) (st' := [jI (i : Int), jR 35]) (hp' := hp) rfl ?_
      refine jE_zald (n := 15) (f := hp 35) rfl rfl (by omega) ?_
      refine jE_if_eq rfl (by rcases hA3.2 with z | z <;> omega) (fun c16 => ?_) (fun c16 => ?_)
      · refine jm_Ev.bl 4 (pc' := 26) (A' := [jR 33, jI (i : Int), jU, jU, jU, jU, jU]) (st' := [jI 1, jI (i : Int), jR 35]) (hp' := hp) rfl ?_
        refine jE_zast (n := 15) rfl rfl (by exact Or.inr rfl) (by omega) ?_
        refine jm_Ev.bl 3 (pc' := 32) (A' := [jR 33, jI (i : Int), jU, jU, jU, jU, jU]) (st' := [jI (i : Int), jR 31]) (hp' := (jm_hs hp 35 (i : Int) 1)) rfl ?_
        refine jE_call (vs := [jR 31, jI (i : Int)]) (r := []) (nx := 35) rfl (c_j_fill_31 (jm_hs hp 35 (i : Int) 1) i ((O.take i).flatten.length : Int) q.length (jpx q) (jpy q) (jpl_ K q) (jpm K q) (jVo_fr_20 hV (fun _ _ _ => js_hs_ne (by omega))) hW (fun z => hA.2.1 i q hq z) hA.1) (fun rv32 h1 hh => ?_)
        obtain ⟨rfl, e2, e3, hfl, hfr⟩ := hh
        have hJ : jJr (h1 32) q.length (jPP K q) := jJr_of hW hfl
        refine jm_Ev.bl 2 (pc' := 39) (A' := [jR 33, jI (i : Int), jU, jU, jU, jU, jU]) (st' := [jR 31]) (hp' := h1) rfl ?_
        refine jE_callI (vs := [jR 31]) (r := []) (nx := 42) (v := jI (jlq K q)) (hp1 := h1) rfl (c_j_fewest_31 h1 q.length (jPP K q) hJ hPw e3) ?_
        refine jm_Ev.bl 1 (pc' := 43) (A' := [jR 33, jI (i : Int), jI (jlq K q), jU, jU, jU, jU]) (st' := []) (hp' := h1) rfl ?_
        have hV1 : jVo_20 h1 i ((O.take i).flatten.length : Int) q.length (jpx q) (jpy q) (jpl_ K q) (jpm K q) := jVo_fr_20 hV (fun w a b => (hfr w (by simp; omega)).trans (js_hs_ne (by omega)))
        obtain ⟨es, eN, s0, s60, hi, hpt⟩ := id hV1
        refine jm_Ev.bl 3 (pc' := 48) (A' := [jR 33, jI (i : Int), jI (jlq K q), jU, jU, jU, jU]) (st' := [jI (i : Int), jR 20]) (hp' := h1) rfl ?_
        refine jE_callI (vs := [jR 20, jI (i : Int)]) (r := []) (nx := 51) (v := jI ((O.take i).flatten.length : Int)) (hp1 := h1) rfl (es ▸ c_o_startOf_20 h1 i (by omega) (by omega)) ?_
        refine jm_Ev.bl 5 (pc' := 58) (A' := [jR 33, jI (i : Int), jI (jlq K q), jI ((O.take i).flatten.length : Int), jU, jU, jU]) (st' := [jI (i : Int), jR 20, jR 33]) (hp' := h1) rfl ?_
        refine jE_callI (vs := [jR 20, jI (i : Int)]) (r := [jR 33]) (nx := 61) (v := jI (q.length : Int)) (hp1 := h1) rfl (eN ▸ c_o_len_20 h1 (by omega) i (by omega) (by omega)) ?_
        refine jm_Ev.bl 1 (pc' := 63) (A' := [jR 33, jI (i : Int), jI (jlq K q), jI ((O.take i).flatten.length : Int), jU, jU, jU]) (st' := [jI 60, jI (q.length : Int), jR 33]) (hp' := h1) rfl ?_
        refine jE_min (nx := 66) rfl (by omega) (by omega) ?_
        refine jE_top (w := (q.length : Int)) (by omega) ?_
        refine jm_Ev.bl 3 (pc' := 71) (A' := [jR 33, jI (i : Int), jI (jlq K q), jI ((O.take i).flatten.length : Int), jU, jU, jU]) (st' := [jI (i : Int), jR 33]) (hp' := (jm_hs h1 33 11 (q.length : Int))) rfl ?_
        refine jE_call (vs := [jR 33, jI (i : Int)]) (r := []) (nx := 74) rfl (c_b_fillPenalties (jm_hs h1 33 11 (q.length : Int)) K q i ((O.take i).flatten.length : Int) (jVo_fr_20 hV1 (fun w _ _ => js_hs_ne (by omega))) hW (by rw [show (jm_hs h1 33 11 (q.length : Int)) 32 = h1 32 from js_hs_ne (by omega)]; exact hJ) rfl) (fun rv71 h2 hh2 => ?_)
        obtain ⟨rfl, hps, hfr2⟩ := hh2
        refine jE_callI (vs := []) (r := []) (nx := 77) (v := jF 3212836864) (hp1 := h2) rfl (c_b_noSum h2) ?_
        refine jm_Ev.bl 3 (pc' := 82) (A' := [jR 33, jI (i : Int), jI (jlq K q), jI ((O.take i).flatten.length : Int), jF 3212836864, jI 0, jU]) (st' := []) (hp' := h2) rfl ?_
        have hV2 : jVo_20 h2 i ((O.take i).flatten.length : Int) q.length (jpx q) (jpy q) (jpl_ K q) (jpm K q) := jVo_fr_20 hV1 (fun w a b => (hfr2 w (by simp; omega)).trans (js_hs_ne (by omega)))
        have hq2 : jBq h2 q.length (jPP K q) := by
          refine ⟨by rw [show h2 32 = h1 32 from (hfr2 32 (by simp)).trans (js_hs_ne (by omega))]; exact hJ, fun u v u0 u1 v0 v1 => ?_⟩
          by_cases z : jPP K q u v = -1
          · exact Or.inl z
          · rcases hPw.2.2.1 u v u0 u1 v0 v1 with y | y
            · exact absurd y z
            · exact Or.inr ⟨y.1, y.2, hps u v u0 u1 v0 v1 (by omega) z⟩
        have fin := c_b_solve_L h2 K q i ((O.take i).flatten.length : Int) (jlq K q) hV2 hW hPw rfl hq2 ((congrFun (hfr2 31 (by simp)) 3).trans e3) 61 0 jU h2 (by omega) (by omega) (congrFun (hfr2 33 (by simp)) 11) (fun z => absurd rfl z) (fun _ _ => rfl) jFr.rf (by omega)
        rw [show ((0 : Int) - 0).toNat = 0 by omega, jml0.1] at fin
        refine jm_Ev.mono fin (fun rv h hh => ?_)
        obtain ⟨rfl, hsv, ho1, ho2, hf3⟩ := hh
        have f35 : h 35 = jm_hs hp 35 (i : Int) 1 35 := (hf3 35 (by simp)).trans ((hfr2 35 (by simp)).trans ((js_hs_ne (by omega)).trans (hfr 35 (by simp))))
        have f31 : h 31 = h1 31 := (hf3 31 (by simp)).trans ((hfr2 31 (by simp)).trans (js_hs_ne (by omega)))
        have f32 : h 32 = h1 32 := (hf3 32 (by simp)).trans ((hfr2 32 (by simp)).trans (js_hs_ne (by omega)))
        have fb : ∀ w, w ∉ [31, 32, 33, 35, 40] → h2 w = hp w := fun w hw => (hfr2 w (by simp at hw ⊢; omega)).trans ((js_hs_ne (by simp at hw; omega)).trans ((hfr w (by simp at hw ⊢; omega)).trans (js_hs_ne (by simp at hw; omega))))
        refine ⟨rfl, ⟨hK, hI, jCO_fr hO (fun w a b => (hf3 w (by simp; omega)).trans (fb w (by simp; omega))), ⟨?_, ?_, ?_⟩⟩, ?_, hsv, ?_⟩
        · rw [f31, e2]; exact ⟨by omega, by omega⟩
        · intro j r hr ej
          rw [f31] at ej
          have : j = i := by omega
          subst this
          have := jsame hq hr
          subst this
          exact jFl_fr (hp := h1) ⟨e3, hfl⟩ f31 f32
        · intro j r hr
          have a := hA.2.2 j r hr
          rw [f35, js_hs_eq]
          refine ⟨by rw [show h 34 = hp 34 from (hf3 34 (by simp)).trans (fb 34 (by simp))]; exact a.1, ?_⟩
          by_cases e : j = i
          · subst e
            have := jsame hq hr
            subst this
            rw [if_pos rfl]
            exact Or.inr ⟨rfl, hsv⟩
          · rw [if_neg (by omega)]
            rcases a.2 with b | b
            · exact Or.inl b
            · refine Or.inr ⟨b.1, jSv_fr b.2 (jlq_r (jOP hK hI hr)).2 ((ho1 j (by omega)).1.trans (congrFun (fb 36 (by simp)) _)) ((ho1 j (by omega)).2.trans (congrFun (fb 37 (by simp)) _)) (fun y y0 y1 => ?_)⟩
              have d := jdisj hq hr (Ne.symm e)
              have z := ho2 (((O.take j).flatten.length : Int) + y) (by omega)
              exact ⟨z.1.trans (congrFun (fb 38 (by simp)) _), z.2.trans (congrFun (fb 39 (by simp)) _)⟩
        · rw [f35, js_hs_eq, if_pos rfl]
        · intro w hw
          exact (hf3 w (by simp at hw ⊢; omega)).trans (fb w (by simp at hw ⊢; omega))
      · exact jE_ret rfl (by rcases hA3.2 with z | z; exact absurd z c16; exact ⟨rfl, hC, z.1, z.2, jFr.rf⟩)
