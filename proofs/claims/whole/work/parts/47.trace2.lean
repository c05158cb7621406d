/-! trace, all of it -/
def jCv_20 (h : jm_H) (K : Int → Int → Int) (s : Int) (i : Int) (q : List jT) : Prop := h 21 i = s ∧ h 22 i = (q.length : Int) ∧ h 23 i = jars (jpx q) (jpy q) q.length q.length ∧ ∀ n : Int, 0 ≤ n → n < q.length → h 24 (s + n) = jpx q n ∧ h 25 (s + n) = jpy q n ∧ h 27 (s + n) = jpl_ K q n ∧ h 28 (s + n) = jpm K q n
def jCO_20 (h : jm_H) (K : Int → Int → Int) (O : List (List jT)) : Prop := h 20 0 = O.length ∧ ∀ (i : Nat) q, O[i]? = some q → jCv_20 h K ((O.take i).flatten.length : Int) i q
def jtr_20 (hp : jm_H) : Option jm_V → jm_H → Prop := fun rv h => rv = none ∧ jCO_20 h (jgk (hp 3 1) (hp 3 2) (hp 4)) (jSc (jgk (hp 3 1) (hp 3 2) (hp 4)) 144) ∧ jFr hp h [20, 21, 22, 23, 24, 25, 26, 27, 28, 29, 30]
theorem jOF_pt_20 {h : jm_H} {K : Int → Int → Int} (hK : jK5 K) {O : List (List jT)} (hI : jInv K O) (hOF : jOF_20 h K O.flatten) {i : Nat} {q : List jT} (hi : O[i]? = some q) (n : Int) (h0 : 0 ≤ n) (h1 : n < q.length) : h 24 (((O.take i).flatten.length : Int) + n) = jpx q n ∧ h 25 (((O.take i).flatten.length : Int) + n) = jpy q n ∧ h 26 (((O.take i).flatten.length : Int) + n) = jpw q n ∧ 0 ≤ jpx q n ∧ jpx q n ≤ 5 ∧ 0 ≤ jpy q n ∧ jpy q n ≤ 5 ∧ 0 ≤ jpw q n ∧ jpw q n ≤ 3 := by
  have e := jfl_get hi (n := n.toNat) (by omega)
  rw [jPt_get h0 h1] at e
  have v := hOF.2.2.2.2 _ _ e
  rw [show (((O.take i).flatten.length + n.toNat : Nat) : Int) = ((O.take i).flatten.length : Int) + n by omega] at v
  exact ⟨v.1, v.2.1, v.2.2, jE_pt hK (jPt_E hI hi h0 h1)⟩
theorem jOF_fr_20 {hp h : jm_H} {K : Int → Int → Int} {F : List jT} (q : jOF_20 hp K F) (hf : jFr hp h [23, 27, 28]) : jOF_20 h K F := by
  unfold jOF_20 jeK_20 at *
  rw [hf 20 (by decide), hf 24 (by decide), hf 25 (by decide), hf 26 (by decide), hf 29 (by decide), hf 30 (by decide)]
  exact q
theorem jOO_fr_20 {hp h : jm_H} {O : List (List jT)} (q : jOO_20 hp O) (hf : jFr hp h [23, 27, 28]) : jOO_20 h O := by
  unfold jOO_20 at *
  rw [hf 20 (by decide), hf 21 (by decide), hf 22 (by decide)]
  exact q
theorem c_o_trace_L_20 (hp : jm_H) (hG : jG hp 3 4) (O : List (List jT)) (hO : O = jSc (jgk (hp 3 1) (hp 3 2) (hp 4)) 144) (y z1 z : jm_V) : ∀ (m : Nat) (i : Nat) (h : jm_H), i ≤ O.length → jOF_20 h (jgk (hp 3 1) (hp 3 2) (hp 4)) O.flatten → jOO_20 h O → (∀ (i' : Nat) q, i' < i → O[i']? = some q → h 23 i' = jars (jpx q) (jpy q) q.length q.length ∧ ∀ n : Int, 0 ≤ n → n < q.length → h 27 (((O.take i').flatten.length : Int) + n) = jpl_ (jgk (hp 3 1) (hp 3 2) (hp 4)) q n ∧ h 28 (((O.take i').flatten.length : Int) + n) = jpm (jgk (hp 3 1) (hp 3 2) (hp 4)) q n) → jFr hp h [20, 21, 22, 23, 24, 25, 26, 27, 28, 29, 30] → O.length - i < m → jm_Ev 48 108 [jR 20, jR 3, jI (i : Int), y, z1, z] [] h (jtr_20 hp) := by
  have hK : jK5 (jgk (hp 3 1) (hp 3 2) (hp 4)) := jK5_of hG.2.1 hG.2.2.2.1
  have hI : jInv (jgk (hp 3 1) (hp 3 2) (hp 4)) O := by rw [hO]; exact jSc_inv hK 144
  have h15 := jInv_15 hK hI
  intro n
  induction n with
  | zero => intro i h hi0 hOF hOO hAR hf hm; omega
  | succ n ih =>
    intro i h hi0 hOF hOO hAR hf hm
    have e0 := hOO.1
    refine jm_Ev.bl 3 (pc' := 113) (A' := [jR 20, jR 3, jI (i : Int), y, z1, z]) (st' := [jI (h 20 0), jI (i : Int)]) (hp' := h) rfl ?_
    refine jE_icmp_ge rfl (by omega) (by omega) (fun c113 => ?_) (fun c113 => ?_)
    · refine jE_ret rfl ⟨rfl, hO ▸ ⟨hOO.1, fun i' q' hi' => ?_⟩, hf⟩
      have hlt := jget_lt hi'
      have z := hAR i' q' (by omega) hi'
      have hpt := jOF_pt_20 hK hI hOF hi'
      exact ⟨(hOO.2 i' q' hi').1, (hOO.2 i' q' hi').2, z.1, fun n a b => ⟨(hpt n a b).1, (hpt n a b).2.1, (z.2 n a b).1, (z.2 n a b).2⟩⟩
    · refine jm_Ev.bl 2 (pc' := 119) (A' := [jR 20, jR 3, jI (i : Int), y, z1, z]) (st' := [jI 15, jI (i : Int)]) (hp' := h) rfl ?_
      refine jE_icmp_ge rfl (by omega) (by omega) (fun c119 => ?_) (fun c119 => ?_)
      · exfalso; omega
      · have hlt : i < O.length := by omega
        obtain ⟨q, hi⟩ : ∃ q, O[i]? = some q := ⟨O[i], List.getElem?_eq_getElem hlt⟩
        have hs60 : ((O.take i).flatten.length : Int) + (q.length : Int) ≤ 60 := by
          have a := jfl_all (O := O) (i + 1)
          rw [jfl_take hi, List.length_append] at a
          have := jInv_60 hK hI
          omega
        have hpt := jOF_pt_20 hK hI hOF hi
        have hq0 : 0 < q.length := by
          obtain ⟨s, hs, e⟩ := hI.1 q (List.mem_of_getElem? hi)
          have := jper_4 hK hs
          rw [e, jorb_len]; omega
        have hG1 : jG h 3 4 := by unfold jG; rw [hf 3 (by decide), hf 4 (by decide)]; exact hG
        refine jm_Ev.bl 5 (pc' := 129) (A' := [jR 20, jR 3, jI (i : Int), y, z1, z]) (st' := [jI (i : Int), jR 20, jI (i : Int), jR 23]) (hp' := h) rfl ?_
        refine jE_callI (vs := [jR 20, jI (i : Int)]) (r := [jI (i : Int), jR 23]) (nx := 132) (v := jI (jars (jpx q) (jpy q) (q.length : Int) (q.length : Int).toNat)) (hp1 := h) rfl (c_o_area_20 h (by omega) (i : Int) (by omega) (by omega) ((O.take i).flatten.length : Int) (q.length : Int) (by omega) (by omega) hs60 (jpx q) (jpy q) (fun n a b => (hpt n a b).1) (fun n a b => (hpt n a b).2.1) (hOO.2 i q hi).1.symm (hOO.2 i q hi).2.symm) ?_
        refine jE_iast (n := 15) rfl rfl (by omega) ?_
        refine jm_Ev.bl 3 (pc' := 136) (A' := [jR 20, jR 3, jI (i : Int), y, z1, z]) (st' := [jI (i : Int), jR 3, jR 20]) (hp' := (jm_hs h 23 (i : Int) (jars (jpx q) (jpy q) (q.length : Int) (q.length : Int).toNat))) rfl ?_
        refine jE_call (vs := [jR 20, jR 3, jI (i : Int)]) (r := []) (nx := 139) rfl (c_o_desc_20 (jm_hs h 23 (i : Int) (jars (jpx q) (jpy q) (q.length : Int) (q.length : Int).toNat)) hG1 (by show 0 ≤ h 20 0 ∧ h 20 0 ≤ 15; omega) (i : Int) (by omega) (by show (i : Int) < h 20 0; omega) ((O.take i).flatten.length : Int) q (by omega) hs60 hpt hq0 (hOO.2 i q hi).1 (hOO.2 i q hi).2) (fun rv136 h1 hq => ?_)
        obtain ⟨rfl, d1, d2, d3⟩ := hq
        refine jm_Ev.bl 2 (pc' := 108) (A' := [jR 20, jR 3, jI ((i : Int) + 1), y, z1, z]) (st' := []) (hp' := h1) rfl ?_
        have f3 : jFr h h1 [23, 27, 28] := jFr.tr (S := [23]) (jFr.rf.set (k := 23) (by decide)) d3 (V := [23, 27, 28]) (by simp) (by simp)
        have kk : jgk (h 3 1) (h 3 2) (h 4) = (jgk (hp 3 1) (hp 3 2) (hp 4)) := by rw [hf 3 (by decide), hf 4 (by decide)]
        refine ih (i + 1) h1 (by omega) (jOF_fr_20 hOF f3) (jOO_fr_20 hOO f3) (fun i' q' hl hi' => ?_) (hf.tr f3 (by simp) (by simp)) (by omega)
        have eAR : h1 23 = (jm_hs h 23 (i : Int) (jars (jpx q) (jpy q) (q.length : Int) (q.length : Int).toNat)) 23 := d3 23 (by decide)
        rw [eAR, js_hs_eq]
        by_cases e : i' = i
        · subst e
          have : q' = q := by rw [hi'] at hi; exact Option.some.inj hi
          subst this
          rw [if_pos rfl]
          refine ⟨by rw [Int.toNat_natCast], fun n a b => ?_⟩
          have := d1 n a b
          rw [← kk]
          exact this
        · rw [if_neg (by omega)]
          have z := hAR i' q' (by omega) hi'
          refine ⟨z.1, fun n a b => ?_⟩
          have a1 : (O.take (i' + 1)).flatten.length ≤ (O.take i).flatten.length := jfl_le (by omega)
          rw [jfl_take hi', List.length_append] at a1
          have := d2 (((O.take i').flatten.length : Int) + n) (Or.inl (by omega))
          rw [this.1, this.2]
          exact z.2 n a b
theorem c_o_trace_20 (hp : jm_H) (hG : jG hp 3 4) : jm_Ev 48 0 [jR 20, jR 3, jU, jU, jU, jU] [] hp (jtr_20 hp) := by
  refine jm_Ev.bl 8 (pc' := 12) (A' := [jR 20, jR 3, jU, jU, jU, jU]) (st' := [jR 3, jR 20]) (hp' := (jm_hs (jm_hs hp 20 0 0) 20 1 0)) rfl ?_
  have hG0 : jG (jm_hs (jm_hs hp 20 0 0) 20 1 0) 3 4 := hG
  refine jE_call (vs := [jR 20, jR 3]) (r := []) (nx := 15) rfl (c_o_findEdges_20 (jm_hs (jm_hs hp 20 0 0) 20 1 0) hG0) (fun rv12 h hq => ?_)
  have hKe := jfe_K_20 hq
  obtain ⟨rfl, q1, q2, q3⟩ := hq
  refine jm_Ev.bl 2 (pc' := 17) (A' := [jR 20, jR 3, jI 0, jU, jU, jU]) (st' := []) (hp' := h) rfl ?_
  have hfr : jFr hp h [20, 21, 22, 23, 24, 25, 26, 27, 28, 29, 30] := jFr.tr (S := [20]) ((jFr.rf.set (k := 20) (by decide)).set (k := 20) (by decide)) q3 (by simp) (by simp)
  have eg : h 3 = hp 3 := hfr 3 (by decide)
  have eg1 : h 4 = hp 4 := hfr 4 (by decide)
  have hGh : jG h 3 4 := by unfold jG; rw [eg, eg1]; exact hG
  have kk : jgk (h 3 1) (h 3 2) (h 4) = (jgk (hp 3 1) (hp 3 2) (hp 4)) := by rw [eg, eg1]
  have e00 : h 20 = (jm_hs (jm_hs hp 20 0 0) 20 1 0) 20 := q3 20 (by decide)
  have hOF : jOF_20 h (jgk (hp 3 1) (hp 3 2) (hp 4)) [] := ⟨hKe, fun j a b => by rw [q2 j a b]; omega, fun x y w a b c d e f => by
      obtain ⟨u, rfl⟩ := jw4 e f
      rw [q2 _ (by omega) (by omega), jbit_0]; simp, by rw [e00]; rfl, fun j t hj => by simp at hj⟩
  have hOO : jOO_20 h [] := ⟨by rw [e00]; rfl, fun i q hi => by simp at hi⟩
  refine c_o_scan_20 h hGh (fun h2 x y z1 z a b c => ?_) 7 0 _ _ _ h (by have := hGh.1; omega) (by rw [kk]; exact hOF) (by rw [kk]; exact hOO) jFr.rf (by have := hGh.2.1; omega)
  rw [kk] at a b
  refine jm_Ev.bl 2 (pc' := 108) (A' := [jR 20, jR 3, jI 0, y, z1, z]) (st' := []) (hp' := h2) rfl ?_
  exact c_o_trace_L_20 hp hG _ rfl y z1 z 16 0 h2 (by omega) a b (fun i q hi _ => by omega) (hfr.tr c (by simp) (by simp)) (by have := jInv_15 (jK5_of hG.2.1 hG.2.2.2.1) (jSc_inv (jK5_of (w := hp 3 1) (h := hp 3 2) (d := hp 4) hG.2.1 hG.2.2.2.1) 144); omega)
def jCv_43 (h : jm_H) (K : Int → Int → Int) (s : Int) (i : Int) (q : List jT) : Prop := h 44 i = s ∧ h 45 i = (q.length : Int) ∧ h 46 i = jars (jpx q) (jpy q) q.length q.length ∧ ∀ n : Int, 0 ≤ n → n < q.length → h 47 (s + n) = jpx q n ∧ h 48 (s + n) = jpy q n ∧ h 50 (s + n) = jpl_ K q n ∧ h 51 (s + n) = jpm K q n
def jCO_43 (h : jm_H) (K : Int → Int → Int) (O : List (List jT)) : Prop := h 43 0 = O.length ∧ ∀ (i : Nat) q, O[i]? = some q → jCv_43 h K ((O.take i).flatten.length : Int) i q
def jtr_43 (hp : jm_H) : Option jm_V → jm_H → Prop := fun rv h => rv = none ∧ jCO_43 h (jgk (hp 5 1) (hp 5 2) (hp 6)) (jSc (jgk (hp 5 1) (hp 5 2) (hp 6)) 144) ∧ jFr hp h [43, 44, 45, 46, 47, 48, 49, 50, 51, 52, 53]
theorem jOF_pt_43 {h : jm_H} {K : Int → Int → Int} (hK : jK5 K) {O : List (List jT)} (hI : jInv K O) (hOF : jOF_43 h K O.flatten) {i : Nat} {q : List jT} (hi : O[i]? = some q) (n : Int) (h0 : 0 ≤ n) (h1 : n < q.length) : h 47 (((O.take i).flatten.length : Int) + n) = jpx q n ∧ h 48 (((O.take i).flatten.length : Int) + n) = jpy q n ∧ h 49 (((O.take i).flatten.length : Int) + n) = jpw q n ∧ 0 ≤ jpx q n ∧ jpx q n ≤ 5 ∧ 0 ≤ jpy q n ∧ jpy q n ≤ 5 ∧ 0 ≤ jpw q n ∧ jpw q n ≤ 3 := by
  have e := jfl_get hi (n := n.toNat) (by omega)
  rw [jPt_get h0 h1] at e
  have v := hOF.2.2.2.2 _ _ e
  rw [show (((O.take i).flatten.length + n.toNat : Nat) : Int) = ((O.take i).flatten.length : Int) + n by omega] at v
  exact ⟨v.1, v.2.1, v.2.2, jE_pt hK (jPt_E hI hi h0 h1)⟩
theorem jOF_fr_43 {hp h : jm_H} {K : Int → Int → Int} {F : List jT} (q : jOF_43 hp K F) (hf : jFr hp h [46, 50, 51]) : jOF_43 h K F := by
  unfold jOF_43 jeK_43 at *
  rw [hf 43 (by decide), hf 47 (by decide), hf 48 (by decide), hf 49 (by decide), hf 52 (by decide), hf 53 (by decide)]
  exact q
theorem jOO_fr_43 {hp h : jm_H} {O : List (List jT)} (q : jOO_43 hp O) (hf : jFr hp h [46, 50, 51]) : jOO_43 h O := by
  unfold jOO_43 at *
  rw [hf 43 (by decide), hf 44 (by decide), hf 45 (by decide)]
  exact q
theorem c_o_trace_L_43 (hp : jm_H) (hG : jG hp 5 6) (O : List (List jT)) (hO : O = jSc (jgk (hp 5 1) (hp 5 2) (hp 6)) 144) (y z1 z : jm_V) : ∀ (m : Nat) (i : Nat) (h : jm_H), i ≤ O.length → jOF_43 h (jgk (hp 5 1) (hp 5 2) (hp 6)) O.flatten → jOO_43 h O → (∀ (i' : Nat) q, i' < i → O[i']? = some q → h 46 i' = jars (jpx q) (jpy q) q.length q.length ∧ ∀ n : Int, 0 ≤ n → n < q.length → h 50 (((O.take i').flatten.length : Int) + n) = jpl_ (jgk (hp 5 1) (hp 5 2) (hp 6)) q n ∧ h 51 (((O.take i').flatten.length : Int) + n) = jpm (jgk (hp 5 1) (hp 5 2) (hp 6)) q n) → jFr hp h [43, 44, 45, 46, 47, 48, 49, 50, 51, 52, 53] → O.length - i < m → jm_Ev 48 108 [jR 43, jR 5, jI (i : Int), y, z1, z] [] h (jtr_43 hp) := by
  have hK : jK5 (jgk (hp 5 1) (hp 5 2) (hp 6)) := jK5_of hG.2.1 hG.2.2.2.1
  have hI : jInv (jgk (hp 5 1) (hp 5 2) (hp 6)) O := by rw [hO]; exact jSc_inv hK 144
  have h15 := jInv_15 hK hI
  intro n
  induction n with
  | zero => intro i h hi0 hOF hOO hAR hf hm; omega
  | succ n ih =>
    intro i h hi0 hOF hOO hAR hf hm
    have e0 := hOO.1
    refine jm_Ev.bl 3 (pc' := 113) (A' := [jR 43, jR 5, jI (i : Int), y, z1, z]) (st' := [jI (h 43 0), jI (i : Int)]) (hp' := h) rfl ?_
    refine jE_icmp_ge rfl (by omega) (by omega) (fun c113 => ?_) (fun c113 => ?_)
    · refine jE_ret rfl ⟨rfl, hO ▸ ⟨hOO.1, fun i' q' hi' => ?_⟩, hf⟩
      have hlt := jget_lt hi'
      have z := hAR i' q' (by omega) hi'
      have hpt := jOF_pt_43 hK hI hOF hi'
      exact ⟨(hOO.2 i' q' hi').1, (hOO.2 i' q' hi').2, z.1, fun n a b => ⟨(hpt n a b).1, (hpt n a b).2.1, (z.2 n a b).1, (z.2 n a b).2⟩⟩
    · refine jm_Ev.bl 2 (pc' := 119) (A' := [jR 43, jR 5, jI (i : Int), y, z1, z]) (st' := [jI 15, jI (i : Int)]) (hp' := h) rfl ?_
      refine jE_icmp_ge rfl (by omega) (by omega) (fun c119 => ?_) (fun c119 => ?_)
      · exfalso; omega
      · have hlt : i < O.length := by omega
        obtain ⟨q, hi⟩ : ∃ q, O[i]? = some q := ⟨O[i], List.getElem?_eq_getElem hlt⟩
        have hs60 : ((O.take i).flatten.length : Int) + (q.length : Int) ≤ 60 := by
          have a := jfl_all (O := O) (i + 1)
          rw [jfl_take hi, List.length_append] at a
          have := jInv_60 hK hI
          omega
        have hpt := jOF_pt_43 hK hI hOF hi
        have hq0 : 0 < q.length := by
          obtain ⟨s, hs, e⟩ := hI.1 q (List.mem_of_getElem? hi)
          have := jper_4 hK hs
          rw [e, jorb_len]; omega
        have hG1 : jG h 5 6 := by unfold jG; rw [hf 5 (by decide), hf 6 (by decide)]; exact hG
        refine jm_Ev.bl 5 (pc' := 129) (A' := [jR 43, jR 5, jI (i : Int), y, z1, z]) (st' := [jI (i : Int), jR 43, jI (i : Int), jR 46]) (hp' := h) rfl ?_
        refine jE_callI (vs := [jR 43, jI (i : Int)]) (r := [jI (i : Int), jR 46]) (nx := 132) (v := jI (jars (jpx q) (jpy q) (q.length : Int) (q.length : Int).toNat)) (hp1 := h) rfl (c_o_area_43 h (by omega) (i : Int) (by omega) (by omega) ((O.take i).flatten.length : Int) (q.length : Int) (by omega) (by omega) hs60 (jpx q) (jpy q) (fun n a b => (hpt n a b).1) (fun n a b => (hpt n a b).2.1) (hOO.2 i q hi).1.symm (hOO.2 i q hi).2.symm) ?_
        refine jE_iast (n := 15) rfl rfl (by omega) ?_
        refine jm_Ev.bl 3 (pc' := 136) (A' := [jR 43, jR 5, jI (i : Int), y, z1, z]) (st' := [jI (i : Int), jR 5, jR 43]) (hp' := (jm_hs h 46 (i : Int) (jars (jpx q) (jpy q) (q.length : Int) (q.length : Int).toNat))) rfl ?_
        refine jE_call (vs := [jR 43, jR 5, jI (i : Int)]) (r := []) (nx := 139) rfl (c_o_desc_43 (jm_hs h 46 (i : Int) (jars (jpx q) (jpy q) (q.length : Int) (q.length : Int).toNat)) hG1 (by show 0 ≤ h 43 0 ∧ h 43 0 ≤ 15; omega) (i : Int) (by omega) (by show (i : Int) < h 43 0; omega) ((O.take i).flatten.length : Int) q (by omega) hs60 hpt hq0 (hOO.2 i q hi).1 (hOO.2 i q hi).2) (fun rv136 h1 hq => ?_)
        obtain ⟨rfl, d1, d2, d3⟩ := hq
        refine jm_Ev.bl 2 (pc' := 108) (A' := [jR 43, jR 5, jI ((i : Int) + 1), y, z1, z]) (st' := []) (hp' := h1) rfl ?_
        have f3 : jFr h h1 [46, 50, 51] := jFr.tr (S := [46]) (jFr.rf.set (k := 46) (by decide)) d3 (V := [46, 50, 51]) (by simp) (by simp)
        have kk : jgk (h 5 1) (h 5 2) (h 6) = (jgk (hp 5 1) (hp 5 2) (hp 6)) := by rw [hf 5 (by decide), hf 6 (by decide)]
        refine ih (i + 1) h1 (by omega) (jOF_fr_43 hOF f3) (jOO_fr_43 hOO f3) (fun i' q' hl hi' => ?_) (hf.tr f3 (by simp) (by simp)) (by omega)
        have eAR : h1 46 = (jm_hs h 46 (i : Int) (jars (jpx q) (jpy q) (q.length : Int) (q.length : Int).toNat)) 46 := d3 46 (by decide)
        rw [eAR, js_hs_eq]
        by_cases e : i' = i
        · subst e
          have : q' = q := by rw [hi'] at hi; exact Option.some.inj hi
          subst this
          rw [if_pos rfl]
          refine ⟨by rw [Int.toNat_natCast], fun n a b => ?_⟩
          have := d1 n a b
          rw [← kk]
          exact this
        · rw [if_neg (by omega)]
          have z := hAR i' q' (by omega) hi'
          refine ⟨z.1, fun n a b => ?_⟩
          have a1 : (O.take (i' + 1)).flatten.length ≤ (O.take i).flatten.length := jfl_le (by omega)
          rw [jfl_take hi', List.length_append] at a1
          have := d2 (((O.take i').flatten.length : Int) + n) (Or.inl (by omega))
          rw [this.1, this.2]
          exact z.2 n a b
theorem c_o_trace_43 (hp : jm_H) (hG : jG hp 5 6) : jm_Ev 48 0 [jR 43, jR 5, jU, jU, jU, jU] [] hp (jtr_43 hp) := by
  refine jm_Ev.bl 8 (pc' := 12) (A' := [jR 43, jR 5, jU, jU, jU, jU]) (st' := [jR 5, jR 43]) (hp' := (jm_hs (jm_hs hp 43 0 0) 43 1 0)) rfl ?_
  have hG0 : jG (jm_hs (jm_hs hp 43 0 0) 43 1 0) 5 6 := hG
  refine jE_call (vs := [jR 43, jR 5]) (r := []) (nx := 15) rfl (c_o_findEdges_43 (jm_hs (jm_hs hp 43 0 0) 43 1 0) hG0) (fun rv12 h hq => ?_)
  have hKe := jfe_K_43 hq
  obtain ⟨rfl, q1, q2, q3⟩ := hq
  refine jm_Ev.bl 2 (pc' := 17) (A' := [jR 43, jR 5, jI 0, jU, jU, jU]) (st' := []) (hp' := h) rfl ?_
  have hfr : jFr hp h [43, 44, 45, 46, 47, 48, 49, 50, 51, 52, 53] := jFr.tr (S := [43]) ((jFr.rf.set (k := 43) (by decide)).set (k := 43) (by decide)) q3 (by simp) (by simp)
  have eg : h 5 = hp 5 := hfr 5 (by decide)
  have eg1 : h 6 = hp 6 := hfr 6 (by decide)
  have hGh : jG h 5 6 := by unfold jG; rw [eg, eg1]; exact hG
  have kk : jgk (h 5 1) (h 5 2) (h 6) = (jgk (hp 5 1) (hp 5 2) (hp 6)) := by rw [eg, eg1]
  have e00 : h 43 = (jm_hs (jm_hs hp 43 0 0) 43 1 0) 43 := q3 43 (by decide)
  have hOF : jOF_43 h (jgk (hp 5 1) (hp 5 2) (hp 6)) [] := ⟨hKe, fun j a b => by rw [q2 j a b]; omega, fun x y w a b c d e f => by
      obtain ⟨u, rfl⟩ := jw4 e f
      rw [q2 _ (by omega) (by omega), jbit_0]; simp, by rw [e00]; rfl, fun j t hj => by simp at hj⟩
  have hOO : jOO_43 h [] := ⟨by rw [e00]; rfl, fun i q hi => by simp at hi⟩
  refine c_o_scan_43 h hGh (fun h2 x y z1 z a b c => ?_) 7 0 _ _ _ h (by have := hGh.1; omega) (by rw [kk]; exact hOF) (by rw [kk]; exact hOO) jFr.rf (by have := hGh.2.1; omega)
  rw [kk] at a b
  refine jm_Ev.bl 2 (pc' := 108) (A' := [jR 43, jR 5, jI 0, y, z1, z]) (st' := []) (hp' := h2) rfl ?_
  exact c_o_trace_L_43 hp hG _ rfl y z1 z 16 0 h2 (by omega) a b (fun i q hi _ => by omega) (hfr.tr c (by simp) (by simp)) (by have := jInv_15 (jK5_of hG.2.1 hG.2.2.2.1) (jSc_inv (jK5_of (w := hp 5 1) (h := hp 5 2) (d := hp 6) hG.2.1 hG.2.2.2.1) 144); omega)
