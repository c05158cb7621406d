/-! the model's walk and layOutlines, all of it -/
theorem jfl_last {α : Type} {O : List (List α)} {n : Nat} {q : List α} (h : O[n]? = some q) (e : O.length = n + 1) : (O.take n).flatten.length + q.length = O.flatten.length := by
  have := jfl_take h
  rw [← e, List.take_length] at this
  rw [this, List.length_append]
theorem jMF_of {hp h : jm_H} {F : List jT} (q : jMF hp F) (e66 : h 66 = hp 66) (e61 : h 61 = hp 61) (e62 : h 62 = hp 62) : jMF h F := by
  unfold jMF at *
  rw [e66, e61, e62]
  exact q
theorem jMF_pt {h : jm_H} {K : Int → Int → Int} (hK : jK5 K) {O : List (List jT)} (hI : jInv K O) (hMF : jMF h O.flatten) {i : Nat} {q : List jT} (hi : O[i]? = some q) (n : Int) (h0 : 0 ≤ n) (h1 : n < q.length) : h 61 (((O.take i).flatten.length : Int) + n) = jpx q n ∧ h 62 (((O.take i).flatten.length : Int) + n) = jpy q n ∧ 0 ≤ jpx q n ∧ jpx q n ≤ 5 ∧ 0 ≤ jpy q n ∧ jpy q n ≤ 5 ∧ 0 ≤ jpw q n ∧ jpw q n ≤ 3 := by
  have e := jfl_get hi (n := n.toNat) (by omega)
  rw [jPt_get h0 h1] at e
  have v := hMF.2 _ _ e
  rw [show (((O.take i).flatten.length + n.toNat : Nat) : Int) = ((O.take i).flatten.length : Int) + n by omega] at v
  exact ⟨v.1, v.2, jE_pt hK (jPt_E hI hi h0 h1)⟩
theorem c_m_walk_E2 (hp : jm_H) (K : Int → Int → Int) (O : List (List jT)) (t : jT) (X Y W : Int) (x y w : jm_V) (h : jm_H) (hMF : jMF h (O ++ [jorb K t]).flatten) (e11 : h 56 11 = O.length) (es : h 59 O.length = (O.flatten.length : Int)) (eO : (∀ (i : Nat) q, O[i]? = some q → h 59 i = ((O.take i).flatten.length : Int) ∧ h 60 i = (q.length : Int) ∧ ∀ n : Int, 0 ≤ n → n < q.length → h 63 (((O.take i).flatten.length : Int) + n) = jpl_ K q n ∧ h 64 (((O.take i).flatten.length : Int) + n) = jpm K q n)) (hf : jFq hp h [59, 60, 61, 62, 63, 64, 66] [11]) (h3 : jm_H) (z1 z2 z3 : jm_V) (g1 : h3 61 = (jm_hs h 60 (h 56 11) ((jorb K t).length : Int)) 61) (g2 : h3 62 = (jm_hs h 60 (h 56 11) ((jorb K t).length : Int)) 62) (g3 : ∀ j : Int, 0 ≤ j → j < (jorb K t).length → h3 63 ((O.flatten.length : Int) + j) = jpl_ K (jorb K t) j ∧ h3 64 ((O.flatten.length : Int) + j) = jpm K (jorb K t) j) (g4 : ∀ j, j < (O.flatten.length : Int) ∨ (O.flatten.length : Int) + (jorb K t).length ≤ j → h3 63 j = (jm_hs h 60 (h 56 11) ((jorb K t).length : Int)) 63 j ∧ h3 64 j = (jm_hs h 60 (h 56 11) ((jorb K t).length : Int)) 64 j) (g5 : jFq (jm_hs h 60 (h 56 11) ((jorb K t).length : Int)) h3 [61, 62, 63, 64] []) : jm_Ev 154 331 [jR 56, jI X, jI Y, jI W, jI (O.flatten.length : Int), x, y, w, jI ((jorb K t).length : Int), jI ((jorb K t).length : Int), z1, z2, z3] [] h3 (jwlk hp K O t) := by
  refine jm_Ev.bl 6 (pc' := 341) (A' := [jR 56, jI X, jI Y, jI W, jI (O.flatten.length : Int), x, y, w, jI ((jorb K t).length : Int), jI ((jorb K t).length : Int), z1, z2, z3]) (st' := []) (hp' := (jm_hs h3 56 11 ((h3 56 11) + 1))) rfl ?_
  have f4 : jFq hp (jm_hs h3 56 11 (h3 56 11 + 1)) [59, 60, 61, 62, 63, 64, 66] [11] := ((hf.set (k := 60) (by decide)).tr g5 (V := [59, 60, 61, 62, 63, 64, 66]) (E := [11]) (by simp) (by simp) (by simp) (by simp)).sf (by decide)
  have g66 : h3 66 = h 66 := g5.pl 66 (by decide) (by decide)
  have g59 : h3 59 = h 59 := g5.pl 59 (by decide) (by decide)
  have g60 : h3 60 = jm_hs h 60 (h 56 11) ((jorb K t).length : Int) 60 := g5.pl 60 (by decide) (by decide)
  have g11 : h3 56 11 = h 56 11 := g5.fd 11 (by decide) (by decide)
  refine jE_ret rfl ⟨rfl, jMF_of hMF g66 g1 g2, ⟨?_, fun i q hi => ?_⟩, f4⟩
  · show h3 56 11 + 1 = _
    rw [g11, e11, List.length_append]; rfl
  · show h3 59 i = _ ∧ h3 60 i = _ ∧ ∀ n : Int, 0 ≤ n → n < q.length → h3 63 _ = _ ∧ h3 64 _ = _
    rw [g59, g60, js_hs_eq]
    rcases jget_app hi with hi | ⟨rfl, rfl⟩
    · have hlt := jget_lt hi
      rw [if_neg (by omega), jtk_app (by omega)]
      have z := eO i q hi
      refine ⟨z.1, z.2.1, fun n a b => ?_⟩
      have a1 := jfl_all (O := O) (i + 1)
      rw [jfl_take hi, List.length_append] at a1
      have o := g4 (((O.take i).flatten.length : Int) + n) (Or.inl (by omega))
      rw [o.1, o.2]
      exact z.2.2 n a b
    · rw [if_pos e11.symm, jtk_app (by omega), List.take_length]
      exact ⟨es, rfl, g3⟩
theorem c_m_walk_E (hp : jm_H) (hM : jMG hp) (K : Int → Int → Int) (hKe : jgk (hp 56 6) (hp 56 7) (hp 58) = K) (hK : jK5 K) (O : List (List jT)) (hI : jInv K O) (t : jT) (hE : jE K t) (hn : t ∉ O.flatten) (X Y W : Int) (x y w : jm_V) (h : jm_H) (hMF : jMF h (O ++ [jorb K t]).flatten) (e11 : h 56 11 = O.length) (es : h 59 O.length = (O.flatten.length : Int)) (eO : (∀ (i : Nat) q, O[i]? = some q → h 59 i = ((O.take i).flatten.length : Int) ∧ h 60 i = (q.length : Int) ∧ ∀ n : Int, 0 ≤ n → n < q.length → h 63 (((O.take i).flatten.length : Int) + n) = jpl_ K q n ∧ h 64 (((O.take i).flatten.length : Int) + n) = jpm K q n)) (hf : jFq hp h [59, 60, 61, 62, 63, 64, 66] [11]) : jm_Ev 154 161 [jR 56, jI X, jI Y, jI W, jI (O.flatten.length : Int), x, y, w, jI ((jorb K t).length : Int), jU, jU, jU, jU] [] h (jwlk hp K O t) := by
  have h15 := jInv_15 hK hI
  have h60 := jpart_60 hK hI hE hn
  rw [← jorb_len K t] at h60
  have hK1 : jgk (h 56 6) (h 56 7) (h 58) = K := by rw [hf.fd 6 (by decide) (by decide), hf.fd 7 (by decide) (by decide), hf.pl 58 (by decide) (by decide)]; exact hKe
  have hM1 : jMG h := by unfold jMG; rw [hf.fd 6 (by decide) (by decide), hf.fd 7 (by decide) (by decide), hf.pl 58 (by decide) (by decide)]; exact hM
  refine jm_Ev.bl 5 (pc' := 171) (A' := [jR 56, jI X, jI Y, jI W, jI (O.flatten.length : Int), x, y, w, jI ((jorb K t).length : Int), jU, jU, jU, jU]) (st' := [jI ((jorb K t).length : Int), jI (h 56 11), jR 60]) (hp' := h) rfl ?_
  refine jE_iast (n := 32) rfl rfl (by omega) ?_
  refine jm_Ev.bl 2 (pc' := 175) (A' := [jR 56, jI X, jI Y, jI W, jI (O.flatten.length : Int), x, y, w, jI ((jorb K t).length : Int), jI 0, jU, jU, jU]) (st' := []) (hp' := (jm_hs h 60 (h 56 11) ((jorb K t).length : Int))) rfl ?_
  refine c_m_walk_L2 (jm_hs h 60 (h 56 11) ((jorb K t).length : Int)) hM1 K hK1 hK t hE (O.flatten.length : Int) (by omega) (by omega) (fun n a b => ?_) X Y W x y w (fun h3 z1 z2 z3 g1 g2 g3 g4 g5 => ?_) 61 0 _ _ _ _ (by omega) (by omega) rfl rfl (fun j a b => by omega) (fun j _ => ⟨rfl, rfl⟩) jFq.rf (by omega)
  · have hl : (O ++ [jorb K t])[O.length]? = some (jorb K t) := by simp
    have := jMF_pt hK (jInv_add hK hI hE hn) hMF hl n a b
    rw [jtk_app (Nat.le_refl _), List.take_length] at this
    exact this
  · exact c_m_walk_E2 hp K O t X Y W x y w h hMF e11 es eO hf h3 z1 z2 z3 g1 g2 g3 g4 g5
theorem c_m_walk (hp : jm_H) (hM : jMG hp) (K : Int → Int → Int) (hKe : jgk (hp 56 6) (hp 56 7) (hp 58) = K) (hK : jK5 K) (O : List (List jT)) (hI : jInv K O) (X Y W : Int) (hE : jE K (X, Y, W)) (hn : (X, Y, W) ∉ O.flatten) (hMF : jMF hp O.flatten) (hMO : jMO hp K O) : jm_Ev 154 0 [jR 56, jI X, jI Y, jI W, jU, jU, jU, jU, jU, jU, jU, jU, jU] [] hp (jwlk hp K O (X, Y, W)) := by
  have h15 := jInv_15 hK hI
  have e11 := hMO.1
  have hpp := jper_p hK hE
  have z0 : hp 56 11 = 0 → 0 = (O.flatten.length : Int) := fun z => by
    have h0 : O.length = 0 := by omega
    rw [List.eq_nil_of_length_eq_zero h0]; rfl
  have z1 : hp 56 11 ≠ 0 → hp 59 (hp 56 11 - 1) + hp 60 (hp 56 11 - 1) = (O.flatten.length : Int) := fun z => by
    have hlt : O.length - 1 < O.length := by omega
    have hi : O[O.length - 1]? = some O[O.length - 1] := List.getElem?_eq_getElem hlt
    have v := hMO.2 _ _ hi
    have l := jfl_last hi (by omega)
    rw [show hp 56 11 - 1 = ((O.length - 1 : Nat) : Int) by omega, v.1, v.2.1]
    omega
  refine jm_Ev.bl 2 (pc' := 4) (A' := [jR 56, jI X, jI Y, jI W, jU, jU, jU, jU, jU, jU, jU, jU, jU]) (st' := [jI (hp 56 11)]) (hp' := hp) rfl ?_
  refine jE_if_ne rfl (by omega) (fun c4 => ?_) (fun c4 => ?_)
  · refine jm_Ev.bl 6 (pc' := 21) (A' := [jR 56, jI X, jI Y, jI W, jU, jU, jU, jU, jU, jU, jU, jU, jU]) (st' := [jI ((hp 56 11) - 1), jR 59]) (hp' := hp) rfl ?_
    refine jE_iald (n := 32) (f := hp 59) rfl rfl (by omega) ?_
    refine jm_Ev.bl 6 (pc' := 32) (A' := [jR 56, jI X, jI Y, jI W, jU, jU, jU, jU, jU, jU, jU, jU, jU]) (st' := [jI ((hp 56 11) - 1), jR 60, jI (hp 59 ((hp 56 11) - 1))]) (hp' := hp) rfl ?_
    refine jE_iald (n := 32) (f := hp 60) rfl rfl (by omega) ?_
    refine jm_Ev.bl 1 (pc' := 34) (A' := [jR 56, jI X, jI Y, jI W, jU, jU, jU, jU, jU, jU, jU, jU, jU]) (st' := [jI ((hp 59 ((hp 56 11) - 1)) + (hp 60 ((hp 56 11) - 1)))]) (hp' := hp) rfl ?_
    refine jE_top (w := (O.flatten.length : Int)) (z1 c4) ?_
    refine jm_Ev.bl 6 (pc' := 46) (A' := [jR 56, jI X, jI Y, jI W, jI (O.flatten.length : Int), jU, jU, jU, jU, jU, jU, jU, jU]) (st' := [jI (O.flatten.length : Int), jI (hp 56 11), jR 59]) (hp' := hp) rfl ?_
    refine jE_iast (n := 32) rfl rfl (by omega) ?_
    refine jm_Ev.bl 8 (pc' := 59) (A' := [jR 56, jI X, jI Y, jI W, jI (O.flatten.length : Int), jI X, jI Y, jI W, jI 0, jU, jU, jU, jU]) (st' := []) (hp' := (jm_hs hp 59 (hp 56 11) (O.flatten.length : Int))) rfl ?_
    refine c_m_walk_L hp hM K hKe hK O hI (X, Y, W) hE hn (O.flatten.length : Int) rfl X Y W (fun h x y w a b c d e => ?_) 61 0 X Y W _ (by omega) rfl (by rw [jpart_0]; exact jMF_of hMF rfl rfl rfl) e11 (by show jm_hs hp 59 (hp 56 11) (O.flatten.length : Int) 59 O.length = _; rw [js_hs_eq, if_pos e11.symm]) (fun i q hi => ?_) (jFq.rf.set (by decide)) (by omega)
    · rw [← jorb_len K (X, Y, W)]
      exact c_m_walk_E hp hM K hKe hK O hI (X, Y, W) hE hn X Y W (jI x) (jI y) (jI w) h a b c d e
    · have hlt := jget_lt hi
      show jm_hs hp 59 (hp 56 11) (O.flatten.length : Int) 59 i = _ ∧ _
      rw [js_hs_eq, if_neg (by omega)]
      exact hMO.2 i q hi
  · refine jm_Ev.bl 2 (pc' := 34) (A' := [jR 56, jI X, jI Y, jI W, jU, jU, jU, jU, jU, jU, jU, jU, jU]) (st' := [jI 0]) (hp' := hp) rfl ?_
    refine jE_top (w := (O.flatten.length : Int)) (z0 c4) ?_
    refine jm_Ev.bl 6 (pc' := 46) (A' := [jR 56, jI X, jI Y, jI W, jI (O.flatten.length : Int), jU, jU, jU, jU, jU, jU, jU, jU]) (st' := [jI (O.flatten.length : Int), jI (hp 56 11), jR 59]) (hp' := hp) rfl ?_
    refine jE_iast (n := 32) rfl rfl (by omega) ?_
    refine jm_Ev.bl 8 (pc' := 59) (A' := [jR 56, jI X, jI Y, jI W, jI (O.flatten.length : Int), jI X, jI Y, jI W, jI 0, jU, jU, jU, jU]) (st' := []) (hp' := (jm_hs hp 59 (hp 56 11) (O.flatten.length : Int))) rfl ?_
    refine c_m_walk_L hp hM K hKe hK O hI (X, Y, W) hE hn (O.flatten.length : Int) rfl X Y W (fun h x y w a b c d e => ?_) 61 0 X Y W _ (by omega) rfl (by rw [jpart_0]; exact jMF_of hMF rfl rfl rfl) e11 (by show jm_hs hp 59 (hp 56 11) (O.flatten.length : Int) 59 O.length = _; rw [js_hs_eq, if_pos e11.symm]) (fun i q hi => ?_) (jFq.rf.set (by decide)) (by omega)
    · rw [← jorb_len K (X, Y, W)]
      exact c_m_walk_E hp hM K hKe hK O hI (X, Y, W) hE hn X Y W (jI x) (jI y) (jI w) h a b c d e
    · have hlt := jget_lt hi
      show jm_hs hp 59 (hp 56 11) (O.flatten.length : Int) 59 i = _ ∧ _
      rw [js_hs_eq, if_neg (by omega)]
      exact hMO.2 i q hi
