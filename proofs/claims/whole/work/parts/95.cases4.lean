/-! call by call: outline, point, joined, penalty, corner -/
theorem jaq_b {K : Int → Int → Int} {q : List jT} (hW : jWy q.length (jpx q) (jpy q) (jpl_ K q) (jpm K q)) (hPw : jPw q.length (jPP K q)) : -1500 ≤ jaq K q ∧ jaq K q ≤ 1500 := by
  have hl := jlq_r hPw
  have a := jars_r (X := fun n => jpx q (jkq K q n)) (Y := fun n => jpy q (jkq K q n)) (N := jlq K q) (fun n a b => by have z := jkq_r hPw a b; exact (hW.2.2 _ z.1 z.2.1).1) (fun n a b => by have z := jkq_r hPw a b; exact (hW.2.2 _ z.1 z.2.1).2.1) (jlq K q).toNat (by omega)
  have := hW.2.1
  unfold jaq
  omega
theorem jto_r {K : Int → Int → Int} (hK : jK5 K) {O : List (List jT)} (hI : jInv K O) {i : Nat} {q : List jT} (hq : O[i]? = some q) (w : Int) : jR32 (jto K q w) := by
  have hW := jOw hK hI hq
  have hP := jOP hK hI hq
  have a := jlq_r hP
  have b := jbq_r hP
  have c := jaq_b hW hP
  have d := jar_r hW
  have e : ∀ n : Nat, (n : Int) ≤ q.length → 0 ≤ jmc K q n ∧ jmc K q n ≤ n := by
    intro n
    induction n with
    | zero => intro _; unfold jmc; omega
    | succ n ih => intro h; have := ih (by omega); have := (hW.2.2 (n : Int) (by omega) (by omega)).2.2.2; unfold jmc; omega
  have e2 := e q.length (by omega)
  have f := hW.2.1
  have g := b.2
  unfold jfn at g
  unfold jto
  repeat' split
  all_goals exact ⟨by omega, by omega⟩
theorem jtp_r {K : Int → Int → Int} (hK : jK5 K) {O : List (List jT)} (hI : jInv K O) {i : Nat} {q : List jT} (hq : O[i]? = some q) {n : Int} (n0 : 0 ≤ n) (n1 : n < q.length) (w : Int) : jR32 (jtp K q n w) := by
  have hW := jOw hK hI hq
  have a := hW.2.2 n n0 n1
  have b := jb_le (jchk (jkq K q) (jlq K q).toNat n)
  have c := (jfind_spec (p := fun s => !(jcq K q n (jwr q.length (n + (s : Int))))) ((q.length : Int) - 3).toNat 2)
  have f := hW.2.1
  unfold jtp jrch
  repeat' split
  all_goals exact ⟨by omega, by omega⟩
theorem jpb_r {N : Int} {X Y L M : Int → Int} (hW : jWy N X Y L M) {i j : Int} (i0 : 0 ≤ i) (i1 : i < N) (j0 : 0 ≤ j) (j1 : j < N) (hij : i ≠ j) : jR32 (jpb N X Y L M i j) := by
  have h := jpb_n hW i0 i1 j0 j1 hij
  rcases Bool.eq_false_or_eq_true (jcan N X Y L M i j) with c | c
  · have := h.1 c; have z := this.2; unfold jfn at z; exact ⟨by omega, by omega⟩
  · rw [h.2 c]; exact ⟨by omega, by omega⟩
theorem k_outline (xs ls : Int → Int) (n : Int) (hp : jm_H) (hR : jREL xs ls n hp) (hn : n ≤ 1000000) (o w : Int) (ho : jR32 o) (hw : jR32 w) : jm_Ev 99 0 [jR 0, jI o, jI w] [] hp (jSam 176 [jR 56, jI o, jI w] xs ls n) := by
  obtain ⟨rP, rD, rC, rS, rR, rK, r5, rL, rM, rX⟩ := id hR
  have hO0 : hp 20 0 = ((jO0 hp).length : Int) := rL.2.2.1.1
  have hl15 := jInv_15 rL.1 rL.2.1
  refine jm_Ev.bl 3 (pc' := 5) (A' := [jR 0, jI o, jI w]) (st' := [jI o, jR 20]) (hp' := hp) rfl ?_
  refine jE_callI (vs := [jR 20, jI o]) (r := []) (nx := 8) (v := jI (jb (decide (0 ≤ o ∧ o < hp 20 0)))) (hp1 := hp) rfl (c_o_has_20 hp (by omega) o ho) ?_
  refine jE_ifd_ne rfl (fun c8 => ?_) (fun c8 => ?_)
  · obtain ⟨i, q, rfl, hq⟩ := joq (show 0 ≤ o ∧ o < ((jO0 hp).length : Int) by omega)
    have hiq := (List.getElem?_eq_some_iff.mp hq).1
    refine jm_Ev.bl 1 (pc' := 15) (A' := [jR 0, jI (i : Int), jI w]) (st' := [jI w]) (hp' := hp) rfl ?_
    refine jE_if_lt rfl (by omega) (fun c15 => ?_) (fun c15 => ?_)
    · refine jm_Ev.bl 1 (pc' := 26) (A' := [jR 0, jI (i : Int), jI w]) (st' := [jI (-102)]) (hp' := hp) rfl ?_
      have hf1 : jFr hp hp [31, 32, 33, 34, 35, 36, 37, 38, 39, 40, 41, 42] := jFr.rf
      have hC1 := rL
      have rM1 := jMC_c rM hf1
      have kk1 := jKm_c rD hf1
      refine jE_ret rfl ⟨_, rfl, by omega, ⟨(hf1 82 (by simp)).trans rX.1, (hf1 85 (by simp)).trans rX.2⟩, ?_⟩
      show jm_Ev 176 0 [jR 56, jI (i : Int), jI w] [] hp _
      refine jm_Ev.bl 2 (pc' := 2) (A' := [jR 56, jI (i : Int), jI w]) (st' := [jI (i : Int), jR 56]) (hp' := hp) rfl ?_
      refine jE_call (vs := [jR 56, jI (i : Int)]) (r := []) (nx := 5) rfl (c_m_isOutline hp rM1 (i : Int) ho) (fun rv2 h2 hh2 => ?_)
      obtain ⟨rfl, hM2, e10, hf2⟩ := hh2
      rw [kk1.2] at e10 ⊢
      refine jE_ifd_eq rfl (fun m5 => ?_) (fun m5 => ?_)
      · refine jm_Ev.bl 1 (pc' := 19) (A' := [jR 56, jI (i : Int), jI w]) (st' := [jI (-101)]) (hp' := h2) rfl ?_
        exact absurd (show 0 ≤ (i : Int) ∧ (i : Int) < ((jO0 hp).length : Int) by omega) m5
      · refine jm_Ev.bl 3 (pc' := 11) (A' := [jR 56, jI (i : Int), jI w]) (st' := [jI w, jI (i : Int), jR 56]) (hp' := h2) rfl ?_
        refine jE_callI (vs := [jR 56, jI (i : Int), jI w]) (r := []) (nx := 14) (v := jI (jtw (jK0 hp) q w)) (hp1 := h2) rfl (c_m_tellOutline h2 (jK0 hp) (jO0 hp) rL.1 rL.2.1 (jML_c kk1 hM2 (e10 m5) hf2) i q hq w hw) ?_
        refine jm_Ev.bl 1 (pc' := 19) (A' := [jR 56, jI (i : Int), jI w]) (st' := [jI (jtw (jK0 hp) q w)]) (hp' := h2) rfl ?_
        exact jE_ret rfl ⟨jrI (by unfold jtw; rw [if_neg (fun z => by omega)]), jREL_c hR hC1 hf1 hM2 hf2⟩
    · refine jm_Ev.bl 2 (pc' := 21) (A' := [jR 0, jI (i : Int), jI w]) (st' := [jI 7, jI w]) (hp' := hp) rfl ?_
      refine jE_icmp_lt rfl (by omega) (by omega) (fun c21 => ?_) (fun c21 => ?_)
      · refine jm_Ev.bl 3 (pc' := 30) (A' := [jR 0, jI (i : Int), jI w]) (st' := [jI w, jI (i : Int), jR 0]) (hp' := hp) rfl ?_
        refine jE_call (vs := [jR 0, jI (i : Int), jI w]) (r := []) (nx := 33) rfl (c_x_outlineAnswer hp (jK0 hp) (jO0 hp) rL i q hq w (by omega)) (fun rv30 h1 hh => ?_)
        obtain ⟨rfl, hC1, hf1⟩ := hh
        have rM1 := jMC_c rM hf1
        have kk1 := jKm_c rD hf1
        refine jE_ret rfl ⟨_, rfl, jto_r rL.1 rL.2.1 hq w, ⟨(hf1 82 (by simp)).trans rX.1, (hf1 85 (by simp)).trans rX.2⟩, ?_⟩
        show jm_Ev 176 0 [jR 56, jI (i : Int), jI w] [] h1 _
        refine jm_Ev.bl 2 (pc' := 2) (A' := [jR 56, jI (i : Int), jI w]) (st' := [jI (i : Int), jR 56]) (hp' := h1) rfl ?_
        refine jE_call (vs := [jR 56, jI (i : Int)]) (r := []) (nx := 5) rfl (c_m_isOutline h1 rM1 (i : Int) ho) (fun rv2 h2 hh2 => ?_)
        obtain ⟨rfl, hM2, e10, hf2⟩ := hh2
        rw [kk1.2] at e10 ⊢
        refine jE_ifd_eq rfl (fun m5 => ?_) (fun m5 => ?_)
        · refine jm_Ev.bl 1 (pc' := 19) (A' := [jR 56, jI (i : Int), jI w]) (st' := [jI (-101)]) (hp' := h2) rfl ?_
          exact absurd (show 0 ≤ (i : Int) ∧ (i : Int) < ((jO0 hp).length : Int) by omega) m5
        · refine jm_Ev.bl 3 (pc' := 11) (A' := [jR 56, jI (i : Int), jI w]) (st' := [jI w, jI (i : Int), jR 56]) (hp' := h2) rfl ?_
          refine jE_callI (vs := [jR 56, jI (i : Int), jI w]) (r := []) (nx := 14) (v := jI (jtw (jK0 hp) q w)) (hp1 := h2) rfl (c_m_tellOutline h2 (jK0 hp) (jO0 hp) rL.1 rL.2.1 (jML_c kk1 hM2 (e10 m5) hf2) i q hq w hw) ?_
          refine jm_Ev.bl 1 (pc' := 19) (A' := [jR 56, jI (i : Int), jI w]) (st' := [jI (jtw (jK0 hp) q w)]) (hp' := h2) rfl ?_
          exact jE_ret rfl ⟨jrI (by unfold jtw; rw [if_pos ⟨by omega, by omega⟩]), jREL_c hR hC1 hf1 hM2 hf2⟩
      · refine jm_Ev.bl 1 (pc' := 26) (A' := [jR 0, jI (i : Int), jI w]) (st' := [jI (-102)]) (hp' := hp) rfl ?_
        have hf1 : jFr hp hp [31, 32, 33, 34, 35, 36, 37, 38, 39, 40, 41, 42] := jFr.rf
        have hC1 := rL
        have rM1 := jMC_c rM hf1
        have kk1 := jKm_c rD hf1
        refine jE_ret rfl ⟨_, rfl, by omega, ⟨(hf1 82 (by simp)).trans rX.1, (hf1 85 (by simp)).trans rX.2⟩, ?_⟩
        show jm_Ev 176 0 [jR 56, jI (i : Int), jI w] [] hp _
        refine jm_Ev.bl 2 (pc' := 2) (A' := [jR 56, jI (i : Int), jI w]) (st' := [jI (i : Int), jR 56]) (hp' := hp) rfl ?_
        refine jE_call (vs := [jR 56, jI (i : Int)]) (r := []) (nx := 5) rfl (c_m_isOutline hp rM1 (i : Int) ho) (fun rv2 h2 hh2 => ?_)
        obtain ⟨rfl, hM2, e10, hf2⟩ := hh2
        rw [kk1.2] at e10 ⊢
        refine jE_ifd_eq rfl (fun m5 => ?_) (fun m5 => ?_)
        · refine jm_Ev.bl 1 (pc' := 19) (A' := [jR 56, jI (i : Int), jI w]) (st' := [jI (-101)]) (hp' := h2) rfl ?_
          exact absurd (show 0 ≤ (i : Int) ∧ (i : Int) < ((jO0 hp).length : Int) by omega) m5
        · refine jm_Ev.bl 3 (pc' := 11) (A' := [jR 56, jI (i : Int), jI w]) (st' := [jI w, jI (i : Int), jR 56]) (hp' := h2) rfl ?_
          refine jE_callI (vs := [jR 56, jI (i : Int), jI w]) (r := []) (nx := 14) (v := jI (jtw (jK0 hp) q w)) (hp1 := h2) rfl (c_m_tellOutline h2 (jK0 hp) (jO0 hp) rL.1 rL.2.1 (jML_c kk1 hM2 (e10 m5) hf2) i q hq w hw) ?_
          refine jm_Ev.bl 1 (pc' := 19) (A' := [jR 56, jI (i : Int), jI w]) (st' := [jI (jtw (jK0 hp) q w)]) (hp' := h2) rfl ?_
          exact jE_ret rfl ⟨jrI (by unfold jtw; rw [if_neg (fun z => by omega)]), jREL_c hR hC1 hf1 hM2 hf2⟩
  · refine jm_Ev.bl 1 (pc' := 13) (A' := [jR 0, jI o, jI w]) (st' := [jI (-101)]) (hp' := hp) rfl ?_
    have hf1 : jFr hp hp [31, 32, 33, 34, 35, 36, 37, 38, 39, 40, 41, 42] := jFr.rf
    have hC1 := rL
    have rM1 := jMC_c rM hf1
    have kk1 := jKm_c rD hf1
    refine jE_ret rfl ⟨_, rfl, by omega, ⟨(hf1 82 (by simp)).trans rX.1, (hf1 85 (by simp)).trans rX.2⟩, ?_⟩
    show jm_Ev 176 0 [jR 56, jI o, jI w] [] hp _
    refine jm_Ev.bl 2 (pc' := 2) (A' := [jR 56, jI o, jI w]) (st' := [jI o, jR 56]) (hp' := hp) rfl ?_
    refine jE_call (vs := [jR 56, jI o]) (r := []) (nx := 5) rfl (c_m_isOutline hp rM1 o ho) (fun rv2 h2 hh2 => ?_)
    obtain ⟨rfl, hM2, e10, hf2⟩ := hh2
    rw [kk1.2] at e10 ⊢
    refine jE_ifd_eq rfl (fun m5 => ?_) (fun m5 => ?_)
    · refine jm_Ev.bl 1 (pc' := 19) (A' := [jR 56, jI o, jI w]) (st' := [jI (-101)]) (hp' := h2) rfl ?_
      exact jE_ret rfl ⟨rfl, jREL_c hR hC1 hf1 hM2 hf2⟩
    · exact absurd m5 (fun z => c8 (by omega))
theorem k_point (xs ls : Int → Int) (n : Int) (hp : jm_H) (hR : jREL xs ls n hp) (hn : n ≤ 1000000) (o m w : Int) (ho : jR32 o) (hm : jR32 m) (hw : jR32 w) : jm_Ev 100 0 [jR 0, jI o, jI m, jI w] [] hp (jSam 179 [jR 56, jI o, jI m, jI w] xs ls n) := by
  obtain ⟨rP, rD, rC, rS, rR, rK, r5, rL, rM, rX⟩ := id hR
  have hO0 : hp 20 0 = ((jO0 hp).length : Int) := rL.2.2.1.1
  have hl15 := jInv_15 rL.1 rL.2.1
  have eLN : (if 0 ≤ o ∧ o < hp 20 0 then hp 22 o else 0) = jln (jO0 hp) o := by
    rw [hO0]
    by_cases z : 0 ≤ o ∧ o < ((jO0 hp).length : Int)
    · rw [if_pos z]
      obtain ⟨i, q, rfl, hq⟩ := joq z
      rw [jln_some hq]
      exact (rL.2.2.1.2 i q hq).2.1
    · rw [if_neg z, jln_none z]
  have hlr := jln_r rL.1 rL.2.1 o
  refine jm_Ev.bl 4 (pc' := 6) (A' := [jR 0, jI o, jI m, jI w]) (st' := [jI m, jI o, jR 20]) (hp' := hp) rfl ?_
  refine jE_callI (vs := [jR 20, jI o, jI m]) (r := []) (nx := 9) (v := jI (jb (decide (0 ≤ m ∧ m < jln (jO0 hp) o)))) (hp1 := hp) rfl (eLN ▸ c_o_hasPoint hp (by omega) o m ho hm (by rw [eLN]; exact ⟨by omega, by omega⟩)) ?_
  refine jE_ifd_ne rfl (fun c9 => ?_) (fun c9 => ?_)
  · obtain ⟨i, q, rfl, hq⟩ := joq (show 0 ≤ o ∧ o < ((jO0 hp).length : Int) by by_cases z : 0 ≤ o ∧ o < ((jO0 hp).length : Int); exact z; rw [jln_none z] at c9; omega)
    have hiq := (List.getElem?_eq_some_iff.mp hq).1
    rw [jln_some hq] at *
    refine jm_Ev.bl 1 (pc' := 16) (A' := [jR 0, jI (i : Int), jI m, jI w]) (st' := [jI w]) (hp' := hp) rfl ?_
    refine jE_if_lt rfl (by omega) (fun c16 => ?_) (fun c16 => ?_)
    · refine jm_Ev.bl 1 (pc' := 26) (A' := [jR 0, jI (i : Int), jI m, jI w]) (st' := [jI (-102)]) (hp' := hp) rfl ?_
      have hf1 : jFr hp hp [31, 32, 33, 34, 35, 36, 37, 38, 39, 40, 41, 42] := jFr.rf
      have hC1 := rL
      have rM1 := jMC_c rM hf1
      have kk1 := jKm_c rD hf1
      refine jE_ret rfl ⟨_, rfl, by omega, ⟨(hf1 82 (by simp)).trans rX.1, (hf1 85 (by simp)).trans rX.2⟩, ?_⟩
      show jm_Ev 179 0 [jR 56, jI (i : Int), jI m, jI w] [] hp _
      refine jm_Ev.bl 3 (pc' := 3) (A' := [jR 56, jI (i : Int), jI m, jI w]) (st' := [jI m, jI (i : Int), jR 56]) (hp' := hp) rfl ?_
      refine jE_call (vs := [jR 56, jI (i : Int), jI m]) (r := []) (nx := 6) rfl (c_m_isPoint hp rM1 (i : Int) m ho hm) (fun rv3 h2 hh2 => ?_)
      obtain ⟨rfl, hM2, e10, hf2⟩ := hh2
      rw [kk1.2] at e10 ⊢
      rw [jln_some hq] at e10 ⊢
      refine jE_ifd_eq rfl (fun m6 => ?_) (fun m6 => ?_)
      · refine jm_Ev.bl 1 (pc' := 21) (A' := [jR 56, jI (i : Int), jI m, jI w]) (st' := [jI (-101)]) (hp' := h2) rfl ?_
        exact absurd c9 m6
      · refine jm_Ev.bl 4 (pc' := 13) (A' := [jR 56, jI (i : Int), jI m, jI w]) (st' := [jI w, jI m, jI (i : Int), jR 56]) (hp' := h2) rfl ?_
        refine jE_callI (vs := [jR 56, jI (i : Int), jI m, jI w]) (r := []) (nx := 16) (v := jI (jtn (jK0 hp) q m w)) (hp1 := h2) rfl (c_m_tellPoint h2 (jK0 hp) (jO0 hp) rL.1 rL.2.1 (jML_c kk1 hM2 (e10 m6) hf2) i q hq m m6 w hw) ?_
        refine jm_Ev.bl 1 (pc' := 21) (A' := [jR 56, jI (i : Int), jI m, jI w]) (st' := [jI (jtn (jK0 hp) q m w)]) (hp' := h2) rfl ?_
        exact jE_ret rfl ⟨jrI (by unfold jtn; rw [if_neg (fun z => by omega)]), jREL_c hR hC1 hf1 hM2 hf2⟩
    · refine jm_Ev.bl 2 (pc' := 21) (A' := [jR 0, jI (i : Int), jI m, jI w]) (st' := [jI 5, jI w]) (hp' := hp) rfl ?_
      refine jE_icmp_lt rfl (by omega) (by omega) (fun c21 => ?_) (fun c21 => ?_)
      · refine jm_Ev.bl 4 (pc' := 31) (A' := [jR 0, jI (i : Int), jI m, jI w]) (st' := [jI w, jI m, jI (i : Int), jR 0]) (hp' := hp) rfl ?_
        refine jE_call (vs := [jR 0, jI (i : Int), jI m, jI w]) (r := []) (nx := 34) rfl (c_x_pointAnswer hp (jK0 hp) (jO0 hp) rL i q hq m c9 w (by omega)) (fun rv31 h1 hh => ?_)
        obtain ⟨rfl, hC1, hf1⟩ := hh
        have rM1 := jMC_c rM hf1
        have kk1 := jKm_c rD hf1
        refine jE_ret rfl ⟨_, rfl, jtp_r rL.1 rL.2.1 hq c9.1 c9.2 w, ⟨(hf1 82 (by simp)).trans rX.1, (hf1 85 (by simp)).trans rX.2⟩, ?_⟩
        show jm_Ev 179 0 [jR 56, jI (i : Int), jI m, jI w] [] h1 _
        refine jm_Ev.bl 3 (pc' := 3) (A' := [jR 56, jI (i : Int), jI m, jI w]) (st' := [jI m, jI (i : Int), jR 56]) (hp' := h1) rfl ?_
        refine jE_call (vs := [jR 56, jI (i : Int), jI m]) (r := []) (nx := 6) rfl (c_m_isPoint h1 rM1 (i : Int) m ho hm) (fun rv3 h2 hh2 => ?_)
        obtain ⟨rfl, hM2, e10, hf2⟩ := hh2
        rw [kk1.2] at e10 ⊢
        rw [jln_some hq] at e10 ⊢
        refine jE_ifd_eq rfl (fun m6 => ?_) (fun m6 => ?_)
        · refine jm_Ev.bl 1 (pc' := 21) (A' := [jR 56, jI (i : Int), jI m, jI w]) (st' := [jI (-101)]) (hp' := h2) rfl ?_
          exact absurd c9 m6
        · refine jm_Ev.bl 4 (pc' := 13) (A' := [jR 56, jI (i : Int), jI m, jI w]) (st' := [jI w, jI m, jI (i : Int), jR 56]) (hp' := h2) rfl ?_
          refine jE_callI (vs := [jR 56, jI (i : Int), jI m, jI w]) (r := []) (nx := 16) (v := jI (jtn (jK0 hp) q m w)) (hp1 := h2) rfl (c_m_tellPoint h2 (jK0 hp) (jO0 hp) rL.1 rL.2.1 (jML_c kk1 hM2 (e10 m6) hf2) i q hq m m6 w hw) ?_
          refine jm_Ev.bl 1 (pc' := 21) (A' := [jR 56, jI (i : Int), jI m, jI w]) (st' := [jI (jtn (jK0 hp) q m w)]) (hp' := h2) rfl ?_
          exact jE_ret rfl ⟨jrI (by unfold jtn; rw [if_pos ⟨by omega, by omega⟩]), jREL_c hR hC1 hf1 hM2 hf2⟩
      · refine jm_Ev.bl 1 (pc' := 26) (A' := [jR 0, jI (i : Int), jI m, jI w]) (st' := [jI (-102)]) (hp' := hp) rfl ?_
        have hf1 : jFr hp hp [31, 32, 33, 34, 35, 36, 37, 38, 39, 40, 41, 42] := jFr.rf
        have hC1 := rL
        have rM1 := jMC_c rM hf1
        have kk1 := jKm_c rD hf1
        refine jE_ret rfl ⟨_, rfl, by omega, ⟨(hf1 82 (by simp)).trans rX.1, (hf1 85 (by simp)).trans rX.2⟩, ?_⟩
        show jm_Ev 179 0 [jR 56, jI (i : Int), jI m, jI w] [] hp _
        refine jm_Ev.bl 3 (pc' := 3) (A' := [jR 56, jI (i : Int), jI m, jI w]) (st' := [jI m, jI (i : Int), jR 56]) (hp' := hp) rfl ?_
        refine jE_call (vs := [jR 56, jI (i : Int), jI m]) (r := []) (nx := 6) rfl (c_m_isPoint hp rM1 (i : Int) m ho hm) (fun rv3 h2 hh2 => ?_)
        obtain ⟨rfl, hM2, e10, hf2⟩ := hh2
        rw [kk1.2] at e10 ⊢
        rw [jln_some hq] at e10 ⊢
        refine jE_ifd_eq rfl (fun m6 => ?_) (fun m6 => ?_)
        · refine jm_Ev.bl 1 (pc' := 21) (A' := [jR 56, jI (i : Int), jI m, jI w]) (st' := [jI (-101)]) (hp' := h2) rfl ?_
          exact absurd c9 m6
        · refine jm_Ev.bl 4 (pc' := 13) (A' := [jR 56, jI (i : Int), jI m, jI w]) (st' := [jI w, jI m, jI (i : Int), jR 56]) (hp' := h2) rfl ?_
          refine jE_callI (vs := [jR 56, jI (i : Int), jI m, jI w]) (r := []) (nx := 16) (v := jI (jtn (jK0 hp) q m w)) (hp1 := h2) rfl (c_m_tellPoint h2 (jK0 hp) (jO0 hp) rL.1 rL.2.1 (jML_c kk1 hM2 (e10 m6) hf2) i q hq m m6 w hw) ?_
          refine jm_Ev.bl 1 (pc' := 21) (A' := [jR 56, jI (i : Int), jI m, jI w]) (st' := [jI (jtn (jK0 hp) q m w)]) (hp' := h2) rfl ?_
          exact jE_ret rfl ⟨jrI (by unfold jtn; rw [if_neg (fun z => by omega)]), jREL_c hR hC1 hf1 hM2 hf2⟩
  · refine jm_Ev.bl 1 (pc' := 14) (A' := [jR 0, jI o, jI m, jI w]) (st' := [jI (-101)]) (hp' := hp) rfl ?_
    have hf1 : jFr hp hp [31, 32, 33, 34, 35, 36, 37, 38, 39, 40, 41, 42] := jFr.rf
    have hC1 := rL
    have rM1 := jMC_c rM hf1
    have kk1 := jKm_c rD hf1
    refine jE_ret rfl ⟨_, rfl, by omega, ⟨(hf1 82 (by simp)).trans rX.1, (hf1 85 (by simp)).trans rX.2⟩, ?_⟩
    show jm_Ev 179 0 [jR 56, jI o, jI m, jI w] [] hp _
    refine jm_Ev.bl 3 (pc' := 3) (A' := [jR 56, jI o, jI m, jI w]) (st' := [jI m, jI o, jR 56]) (hp' := hp) rfl ?_
    refine jE_call (vs := [jR 56, jI o, jI m]) (r := []) (nx := 6) rfl (c_m_isPoint hp rM1 o m ho hm) (fun rv3 h2 hh2 => ?_)
    obtain ⟨rfl, hM2, e10, hf2⟩ := hh2
    rw [kk1.2] at e10 ⊢
    refine jE_ifd_eq rfl (fun m6 => ?_) (fun m6 => ?_)
    · refine jm_Ev.bl 1 (pc' := 21) (A' := [jR 56, jI o, jI m, jI w]) (st' := [jI (-101)]) (hp' := h2) rfl ?_
      exact jE_ret rfl ⟨rfl, jREL_c hR hC1 hf1 hM2 hf2⟩
    · exact absurd m6 c9
theorem k_joined (xs ls : Int → Int) (n : Int) (hp : jm_H) (hR : jREL xs ls n hp) (hn : n ≤ 1000000) (o a b : Int) (ho : jR32 o) (ha : jR32 a) (hb : jR32 b) : jm_Ev 101 0 [jR 0, jI o, jI a, jI b] [] hp (jSam 181 [jR 56, jI o, jI a, jI b] xs ls n) := by
  obtain ⟨rP, rD, rC, rS, rR, rK, r5, rL, rM, rX⟩ := id hR
  have hO0 : hp 20 0 = ((jO0 hp).length : Int) := rL.2.2.1.1
  have hl15 := jInv_15 rL.1 rL.2.1
  have eLN : (if 0 ≤ o ∧ o < hp 20 0 then hp 22 o else 0) = jln (jO0 hp) o := by
    rw [hO0]
    by_cases z : 0 ≤ o ∧ o < ((jO0 hp).length : Int)
    · rw [if_pos z]
      obtain ⟨i, q, rfl, hq⟩ := joq z
      rw [jln_some hq]
      exact (rL.2.2.1.2 i q hq).2.1
    · rw [if_neg z, jln_none z]
  have hlr := jln_r rL.1 rL.2.1 o
  refine jm_Ev.bl 5 (pc' := 7) (A' := [jR 0, jI o, jI a, jI b]) (st' := [jI b, jI a, jI o, jR 20]) (hp' := hp) rfl ?_
  refine jE_callI (vs := [jR 20, jI o, jI a, jI b]) (r := []) (nx := 10) (v := jI (jb (decide ((0 ≤ a ∧ a < jln (jO0 hp) o) ∧ (0 ≤ b ∧ b < jln (jO0 hp) o) ∧ a ≠ b)))) (hp1 := hp) rfl (eLN ▸ c_o_hasPair hp (by omega) o a b ho ha hb (by rw [eLN]; exact ⟨by omega, by omega⟩)) ?_
  refine jE_ifd_ne rfl (fun c10 => ?_) (fun c10 => ?_)
  · obtain ⟨i, q, rfl, hq⟩ := joq (show 0 ≤ o ∧ o < ((jO0 hp).length : Int) by by_cases z : 0 ≤ o ∧ o < ((jO0 hp).length : Int); exact z; rw [jln_none z] at c10; omega)
    have hiq := (List.getElem?_eq_some_iff.mp hq).1
    rw [jln_some hq] at *
    have hW := jOw rL.1 rL.2.1 hq
    have hV := jVo_of_20 rL.1 rL.2.1 rL.2.2.1 hq
    have hpb := jpb_n hW c10.1.1 c10.1.2 c10.2.1.1 c10.2.1.2 c10.2.2
    have hpr := jpb_r hW c10.1.1 c10.1.2 c10.2.1.1 c10.2.1.2 c10.2.2
    refine jm_Ev.bl 5 (pc' := 23) (A' := [jR 0, jI (i : Int), jI a, jI b]) (st' := [jI b, jI a, jI (i : Int), jR 20]) (hp' := hp) rfl ?_
    refine jE_callI (vs := [jR 20, jI (i : Int), jI a, jI b]) (r := []) (nx := 26) (v := jI (jb (jcan q.length (jpx q) (jpy q) (jpl_ (jK0 hp) q) (jpm (jK0 hp) q) a b))) (hp1 := hp) rfl (c_o_canJoin_20 hp i (((jO0 hp).take i).flatten.length : Int) q.length (jpx q) (jpy q) (jpl_ (jK0 hp) q) (jpm (jK0 hp) q) hV hW a b c10.1 c10.2.1 c10.2.2) ?_
    refine jE_ifb_eq rfl (fun c26 => ?_) (fun c26 => ?_)
    · refine jm_Ev.bl 1 (pc' := 34) (A' := [jR 0, jI (i : Int), jI a, jI b]) (st' := [jI 0]) (hp' := hp) rfl ?_
      have hf1 : jFr hp hp [31, 32, 33, 34, 35, 36, 37, 38, 39, 40, 41, 42] := jFr.rf
      have hC1 := rL
      have rM1 := jMC_c rM hf1
      have kk1 := jKm_c rD hf1
      refine jE_ret rfl ⟨_, rfl, by omega, ⟨(hf1 82 (by simp)).trans rX.1, (hf1 85 (by simp)).trans rX.2⟩, ?_⟩
      show jm_Ev 181 0 [jR 56, jI (i : Int), jI a, jI b] [] hp _
      refine jm_Ev.bl 4 (pc' := 4) (A' := [jR 56, jI (i : Int), jI a, jI b]) (st' := [jI b, jI a, jI (i : Int), jR 56]) (hp' := hp) rfl ?_
      refine jE_call (vs := [jR 56, jI (i : Int), jI a, jI b]) (r := []) (nx := 7) rfl (c_m_areTwo hp rM1 (i : Int) a b ho ha hb) (fun rv4 h2 hh2 => ?_)
      obtain ⟨rfl, hM2, e10, hf2⟩ := hh2
      rw [kk1.2] at e10 ⊢
      rw [jln_some hq] at e10 ⊢
      refine jE_ifd_ne rfl (fun m7 => ?_) (fun m7 => ?_)
      · refine jm_Ev.bl 4 (pc' := 17) (A' := [jR 56, jI (i : Int), jI a, jI b]) (st' := [jI b, jI a, jI (i : Int), jR 56]) (hp' := h2) rfl ?_
        refine jE_callI (vs := [jR 56, jI (i : Int), jI a, jI b]) (r := []) (nx := 20) (v := jI (jpb q.length (jpx q) (jpy q) (jpl_ (jK0 hp) q) (jpm (jK0 hp) q) a b)) (hp1 := h2) rfl (c_m_bits h2 i (((jO0 hp).take i).flatten.length : Int) q.length (jpx q) (jpy q) (jpl_ (jK0 hp) q) (jpm (jK0 hp) q) (jVm_of rL.1 rL.2.1 (jML_c kk1 hM2 (e10 m7) hf2).1 (jML_c kk1 hM2 (e10 m7) hf2).2.1 hq) hW a b m7.1 m7.2.1 m7.2.2) ?_
        refine jm_Ev.bl 1 (pc' := 21) (A' := [jR 56, jI (i : Int), jI a, jI b]) (st' := [jI (-1), jI (jpb q.length (jpx q) (jpy q) (jpl_ (jK0 hp) q) (jpm (jK0 hp) q) a b)]) (hp' := h2) rfl ?_
        refine jE_icmp_ne rfl (by omega) (by omega) (fun m21 => ?_) (fun m21 => ?_)
        · refine jm_Ev.bl 1 (pc' := 29) (A' := [jR 56, jI (i : Int), jI a, jI b]) (st' := [jI 1]) (hp' := h2) rfl ?_
          exact absurd (hpb.2 c26) m21
        · refine jm_Ev.bl 2 (pc' := 29) (A' := [jR 56, jI (i : Int), jI a, jI b]) (st' := [jI 0]) (hp' := h2) rfl ?_
          exact jE_ret rfl ⟨rfl, jREL_c hR hC1 hf1 hM2 hf2⟩
      · refine jm_Ev.bl 1 (pc' := 12) (A' := [jR 56, jI (i : Int), jI a, jI b]) (st' := [jI (-101)]) (hp' := h2) rfl ?_
        exact absurd c10 m7
    · refine jm_Ev.bl 2 (pc' := 34) (A' := [jR 0, jI (i : Int), jI a, jI b]) (st' := [jI 1]) (hp' := hp) rfl ?_
      have hf1 : jFr hp hp [31, 32, 33, 34, 35, 36, 37, 38, 39, 40, 41, 42] := jFr.rf
      have hC1 := rL
      have rM1 := jMC_c rM hf1
      have kk1 := jKm_c rD hf1
      refine jE_ret rfl ⟨_, rfl, by omega, ⟨(hf1 82 (by simp)).trans rX.1, (hf1 85 (by simp)).trans rX.2⟩, ?_⟩
      show jm_Ev 181 0 [jR 56, jI (i : Int), jI a, jI b] [] hp _
      refine jm_Ev.bl 4 (pc' := 4) (A' := [jR 56, jI (i : Int), jI a, jI b]) (st' := [jI b, jI a, jI (i : Int), jR 56]) (hp' := hp) rfl ?_
      refine jE_call (vs := [jR 56, jI (i : Int), jI a, jI b]) (r := []) (nx := 7) rfl (c_m_areTwo hp rM1 (i : Int) a b ho ha hb) (fun rv4 h2 hh2 => ?_)
      obtain ⟨rfl, hM2, e10, hf2⟩ := hh2
      rw [kk1.2] at e10 ⊢
      rw [jln_some hq] at e10 ⊢
      refine jE_ifd_ne rfl (fun m7 => ?_) (fun m7 => ?_)
      · refine jm_Ev.bl 4 (pc' := 17) (A' := [jR 56, jI (i : Int), jI a, jI b]) (st' := [jI b, jI a, jI (i : Int), jR 56]) (hp' := h2) rfl ?_
        refine jE_callI (vs := [jR 56, jI (i : Int), jI a, jI b]) (r := []) (nx := 20) (v := jI (jpb q.length (jpx q) (jpy q) (jpl_ (jK0 hp) q) (jpm (jK0 hp) q) a b)) (hp1 := h2) rfl (c_m_bits h2 i (((jO0 hp).take i).flatten.length : Int) q.length (jpx q) (jpy q) (jpl_ (jK0 hp) q) (jpm (jK0 hp) q) (jVm_of rL.1 rL.2.1 (jML_c kk1 hM2 (e10 m7) hf2).1 (jML_c kk1 hM2 (e10 m7) hf2).2.1 hq) hW a b m7.1 m7.2.1 m7.2.2) ?_
        refine jm_Ev.bl 1 (pc' := 21) (A' := [jR 56, jI (i : Int), jI a, jI b]) (st' := [jI (-1), jI (jpb q.length (jpx q) (jpy q) (jpl_ (jK0 hp) q) (jpm (jK0 hp) q) a b)]) (hp' := h2) rfl ?_
        refine jE_icmp_ne rfl (by omega) (by omega) (fun m21 => ?_) (fun m21 => ?_)
        · refine jm_Ev.bl 1 (pc' := 29) (A' := [jR 56, jI (i : Int), jI a, jI b]) (st' := [jI 1]) (hp' := h2) rfl ?_
          exact jE_ret rfl ⟨rfl, jREL_c hR hC1 hf1 hM2 hf2⟩
        · refine jm_Ev.bl 2 (pc' := 29) (A' := [jR 56, jI (i : Int), jI a, jI b]) (st' := [jI 0]) (hp' := h2) rfl ?_
          exact absurd m21 (by have := (hpb.1 c26).1; omega)
      · refine jm_Ev.bl 1 (pc' := 12) (A' := [jR 56, jI (i : Int), jI a, jI b]) (st' := [jI (-101)]) (hp' := h2) rfl ?_
        exact absurd c10 m7
  · refine jm_Ev.bl 1 (pc' := 15) (A' := [jR 0, jI o, jI a, jI b]) (st' := [jI (-101)]) (hp' := hp) rfl ?_
    have hf1 : jFr hp hp [31, 32, 33, 34, 35, 36, 37, 38, 39, 40, 41, 42] := jFr.rf
    have hC1 := rL
    have rM1 := jMC_c rM hf1
    have kk1 := jKm_c rD hf1
    refine jE_ret rfl ⟨_, rfl, by omega, ⟨(hf1 82 (by simp)).trans rX.1, (hf1 85 (by simp)).trans rX.2⟩, ?_⟩
    show jm_Ev 181 0 [jR 56, jI o, jI a, jI b] [] hp _
    refine jm_Ev.bl 4 (pc' := 4) (A' := [jR 56, jI o, jI a, jI b]) (st' := [jI b, jI a, jI o, jR 56]) (hp' := hp) rfl ?_
    refine jE_call (vs := [jR 56, jI o, jI a, jI b]) (r := []) (nx := 7) rfl (c_m_areTwo hp rM1 o a b ho ha hb) (fun rv4 h2 hh2 => ?_)
    obtain ⟨rfl, hM2, e10, hf2⟩ := hh2
    rw [kk1.2] at e10 ⊢
    refine jE_ifd_ne rfl (fun m7 => ?_) (fun m7 => ?_)
    · exact absurd m7 c10
    · refine jm_Ev.bl 1 (pc' := 12) (A' := [jR 56, jI o, jI a, jI b]) (st' := [jI (-101)]) (hp' := h2) rfl ?_
      exact jE_ret rfl ⟨rfl, jREL_c hR hC1 hf1 hM2 hf2⟩
theorem k_penalty (xs ls : Int → Int) (n : Int) (hp : jm_H) (hR : jREL xs ls n hp) (hn : n ≤ 1000000) (o a b : Int) (ho : jR32 o) (ha : jR32 a) (hb : jR32 b) : jm_Ev 102 0 [jR 0, jI o, jI a, jI b] [] hp (jSam 182 [jR 56, jI o, jI a, jI b] xs ls n) := by
  obtain ⟨rP, rD, rC, rS, rR, rK, r5, rL, rM, rX⟩ := id hR
  have hO0 : hp 20 0 = ((jO0 hp).length : Int) := rL.2.2.1.1
  have hl15 := jInv_15 rL.1 rL.2.1
  have eLN : (if 0 ≤ o ∧ o < hp 20 0 then hp 22 o else 0) = jln (jO0 hp) o := by
    rw [hO0]
    by_cases z : 0 ≤ o ∧ o < ((jO0 hp).length : Int)
    · rw [if_pos z]
      obtain ⟨i, q, rfl, hq⟩ := joq z
      rw [jln_some hq]
      exact (rL.2.2.1.2 i q hq).2.1
    · rw [if_neg z, jln_none z]
  have hlr := jln_r rL.1 rL.2.1 o
  refine jm_Ev.bl 5 (pc' := 7) (A' := [jR 0, jI o, jI a, jI b]) (st' := [jI b, jI a, jI o, jR 20]) (hp' := hp) rfl ?_
  refine jE_callI (vs := [jR 20, jI o, jI a, jI b]) (r := []) (nx := 10) (v := jI (jb (decide ((0 ≤ a ∧ a < jln (jO0 hp) o) ∧ (0 ≤ b ∧ b < jln (jO0 hp) o) ∧ a ≠ b)))) (hp1 := hp) rfl (eLN ▸ c_o_hasPair hp (by omega) o a b ho ha hb (by rw [eLN]; exact ⟨by omega, by omega⟩)) ?_
  refine jE_ifd_ne rfl (fun c10 => ?_) (fun c10 => ?_)
  · obtain ⟨i, q, rfl, hq⟩ := joq (show 0 ≤ o ∧ o < ((jO0 hp).length : Int) by by_cases z : 0 ≤ o ∧ o < ((jO0 hp).length : Int); exact z; rw [jln_none z] at c10; omega)
    have hiq := (List.getElem?_eq_some_iff.mp hq).1
    rw [jln_some hq] at *
    have hW := jOw rL.1 rL.2.1 hq
    have hV := jVo_of_20 rL.1 rL.2.1 rL.2.2.1 hq
    have hpb := jpb_n hW c10.1.1 c10.1.2 c10.2.1.1 c10.2.1.2 c10.2.2
    have hpr := jpb_r hW c10.1.1 c10.1.2 c10.2.1.1 c10.2.1.2 c10.2.2
    refine jm_Ev.bl 5 (pc' := 23) (A' := [jR 0, jI (i : Int), jI a, jI b]) (st' := [jI b, jI a, jI (i : Int), jR 20]) (hp' := hp) rfl ?_
    refine jE_callI (vs := [jR 20, jI (i : Int), jI a, jI b]) (r := []) (nx := 26) (v := jI (jb (jcan q.length (jpx q) (jpy q) (jpl_ (jK0 hp) q) (jpm (jK0 hp) q) a b))) (hp1 := hp) rfl (c_o_canJoin_20 hp i (((jO0 hp).take i).flatten.length : Int) q.length (jpx q) (jpy q) (jpl_ (jK0 hp) q) (jpm (jK0 hp) q) hV hW a b c10.1 c10.2.1 c10.2.2) ?_
    refine jE_ifb_ne rfl (fun c26 => ?_) (fun c26 => ?_)
    · have eF : (jfrac (jss q.length (jpx q) (jpy q) a b (jstp2 q.length a b - 1).toNat) (jsqd (jpx q) (jpy q) a b)).toNat = (jpb q.length (jpx q) (jpy q) (jpl_ (jK0 hp) q) (jpm (jK0 hp) q) a b).toNat := by unfold jpb; rw [if_pos c26]
      refine jm_Ev.bl 5 (pc' := 38) (A' := [jR 0, jI (i : Int), jI a, jI b]) (st' := [jI b, jI a, jI (i : Int), jR 20]) (hp' := hp) rfl ?_
      refine jE_callI (vs := [jR 20, jI (i : Int), jI a, jI b]) (r := []) (nx := 41) (v := jF ((jpb q.length (jpx q) (jpy q) (jpl_ (jK0 hp) q) (jpm (jK0 hp) q) a b).toNat)) (hp1 := hp) rfl (eF ▸ c_o_penaltyOf_20 hp i (((jO0 hp).take i).flatten.length : Int) q.length (jpx q) (jpy q) (jpl_ (jK0 hp) q) (jpm (jK0 hp) q) hV hW a b c10.1 c10.2.1 c10.2.2 c26) ?_
      refine jE_callI (vs := [jF ((jpb q.length (jpx q) (jpy q) (jpl_ (jK0 hp) q) (jpm (jK0 hp) q) a b).toNat)]) (r := []) (nx := 44) (v := jI (jpb q.length (jpx q) (jpy q) (jpl_ (jK0 hp) q) (jpm (jK0 hp) q) a b)) (hp1 := hp) rfl (c_bitsOf hp (jpb q.length (jpx q) (jpy q) (jpl_ (jK0 hp) q) (jpm (jK0 hp) q) a b) (jfn_mono (hpb.1 c26).2 (by omega))) ?_
      have hf1 : jFr hp hp [31, 32, 33, 34, 35, 36, 37, 38, 39, 40, 41, 42] := jFr.rf
      have hC1 := rL
      have rM1 := jMC_c rM hf1
      have kk1 := jKm_c rD hf1
      refine jE_ret rfl ⟨_, rfl, hpr, ⟨(hf1 82 (by simp)).trans rX.1, (hf1 85 (by simp)).trans rX.2⟩, ?_⟩
      show jm_Ev 182 0 [jR 56, jI (i : Int), jI a, jI b] [] hp _
      refine jm_Ev.bl 4 (pc' := 4) (A' := [jR 56, jI (i : Int), jI a, jI b]) (st' := [jI b, jI a, jI (i : Int), jR 56]) (hp' := hp) rfl ?_
      refine jE_call (vs := [jR 56, jI (i : Int), jI a, jI b]) (r := []) (nx := 7) rfl (c_m_areTwo hp rM1 (i : Int) a b ho ha hb) (fun rv4 h2 hh2 => ?_)
      obtain ⟨rfl, hM2, e10, hf2⟩ := hh2
      rw [kk1.2] at e10 ⊢
      rw [jln_some hq] at e10 ⊢
      refine jE_ifd_eq rfl (fun m7 => ?_) (fun m7 => ?_)
      · refine jm_Ev.bl 1 (pc' := 22) (A' := [jR 56, jI (i : Int), jI a, jI b]) (st' := [jI (-101)]) (hp' := h2) rfl ?_
        exact absurd c10 m7
      · refine jm_Ev.bl 4 (pc' := 14) (A' := [jR 56, jI (i : Int), jI a, jI b]) (st' := [jI b, jI a, jI (i : Int), jR 56]) (hp' := h2) rfl ?_
        refine jE_callI (vs := [jR 56, jI (i : Int), jI a, jI b]) (r := []) (nx := 17) (v := jI (jpb q.length (jpx q) (jpy q) (jpl_ (jK0 hp) q) (jpm (jK0 hp) q) a b)) (hp1 := h2) rfl (c_m_bits h2 i (((jO0 hp).take i).flatten.length : Int) q.length (jpx q) (jpy q) (jpl_ (jK0 hp) q) (jpm (jK0 hp) q) (jVm_of rL.1 rL.2.1 (jML_c kk1 hM2 (e10 m7) hf2).1 (jML_c kk1 hM2 (e10 m7) hf2).2.1 hq) hW a b m7.1 m7.2.1 m7.2.2) ?_
        refine jm_Ev.bl 1 (pc' := 22) (A' := [jR 56, jI (i : Int), jI a, jI b]) (st' := [jI (jpb q.length (jpx q) (jpy q) (jpl_ (jK0 hp) q) (jpm (jK0 hp) q) a b)]) (hp' := h2) rfl ?_
        exact jE_ret rfl ⟨jrI (rfl), jREL_c hR hC1 hf1 hM2 hf2⟩
    · refine jm_Ev.bl 1 (pc' := 30) (A' := [jR 0, jI (i : Int), jI a, jI b]) (st' := [jI (-1)]) (hp' := hp) rfl ?_
      have hf1 : jFr hp hp [31, 32, 33, 34, 35, 36, 37, 38, 39, 40, 41, 42] := jFr.rf
      have hC1 := rL
      have rM1 := jMC_c rM hf1
      have kk1 := jKm_c rD hf1
      refine jE_ret rfl ⟨_, rfl, by omega, ⟨(hf1 82 (by simp)).trans rX.1, (hf1 85 (by simp)).trans rX.2⟩, ?_⟩
      show jm_Ev 182 0 [jR 56, jI (i : Int), jI a, jI b] [] hp _
      refine jm_Ev.bl 4 (pc' := 4) (A' := [jR 56, jI (i : Int), jI a, jI b]) (st' := [jI b, jI a, jI (i : Int), jR 56]) (hp' := hp) rfl ?_
      refine jE_call (vs := [jR 56, jI (i : Int), jI a, jI b]) (r := []) (nx := 7) rfl (c_m_areTwo hp rM1 (i : Int) a b ho ha hb) (fun rv4 h2 hh2 => ?_)
      obtain ⟨rfl, hM2, e10, hf2⟩ := hh2
      rw [kk1.2] at e10 ⊢
      rw [jln_some hq] at e10 ⊢
      refine jE_ifd_eq rfl (fun m7 => ?_) (fun m7 => ?_)
      · refine jm_Ev.bl 1 (pc' := 22) (A' := [jR 56, jI (i : Int), jI a, jI b]) (st' := [jI (-101)]) (hp' := h2) rfl ?_
        exact absurd c10 m7
      · refine jm_Ev.bl 4 (pc' := 14) (A' := [jR 56, jI (i : Int), jI a, jI b]) (st' := [jI b, jI a, jI (i : Int), jR 56]) (hp' := h2) rfl ?_
        refine jE_callI (vs := [jR 56, jI (i : Int), jI a, jI b]) (r := []) (nx := 17) (v := jI (jpb q.length (jpx q) (jpy q) (jpl_ (jK0 hp) q) (jpm (jK0 hp) q) a b)) (hp1 := h2) rfl (c_m_bits h2 i (((jO0 hp).take i).flatten.length : Int) q.length (jpx q) (jpy q) (jpl_ (jK0 hp) q) (jpm (jK0 hp) q) (jVm_of rL.1 rL.2.1 (jML_c kk1 hM2 (e10 m7) hf2).1 (jML_c kk1 hM2 (e10 m7) hf2).2.1 hq) hW a b m7.1 m7.2.1 m7.2.2) ?_
        refine jm_Ev.bl 1 (pc' := 22) (A' := [jR 56, jI (i : Int), jI a, jI b]) (st' := [jI (jpb q.length (jpx q) (jpy q) (jpl_ (jK0 hp) q) (jpm (jK0 hp) q) a b)]) (hp' := h2) rfl ?_
        exact jE_ret rfl ⟨jrI (hpb.2 c26), jREL_c hR hC1 hf1 hM2 hf2⟩
  · refine jm_Ev.bl 1 (pc' := 15) (A' := [jR 0, jI o, jI a, jI b]) (st' := [jI (-101)]) (hp' := hp) rfl ?_
    have hf1 : jFr hp hp [31, 32, 33, 34, 35, 36, 37, 38, 39, 40, 41, 42] := jFr.rf
    have hC1 := rL
    have rM1 := jMC_c rM hf1
    have kk1 := jKm_c rD hf1
    refine jE_ret rfl ⟨_, rfl, by omega, ⟨(hf1 82 (by simp)).trans rX.1, (hf1 85 (by simp)).trans rX.2⟩, ?_⟩
    show jm_Ev 182 0 [jR 56, jI o, jI a, jI b] [] hp _
    refine jm_Ev.bl 4 (pc' := 4) (A' := [jR 56, jI o, jI a, jI b]) (st' := [jI b, jI a, jI o, jR 56]) (hp' := hp) rfl ?_
    refine jE_call (vs := [jR 56, jI o, jI a, jI b]) (r := []) (nx := 7) rfl (c_m_areTwo hp rM1 o a b ho ha hb) (fun rv4 h2 hh2 => ?_)
    obtain ⟨rfl, hM2, e10, hf2⟩ := hh2
    rw [kk1.2] at e10 ⊢
    refine jE_ifd_eq rfl (fun m7 => ?_) (fun m7 => ?_)
    · refine jm_Ev.bl 1 (pc' := 22) (A' := [jR 56, jI o, jI a, jI b]) (st' := [jI (-101)]) (hp' := h2) rfl ?_
      exact jE_ret rfl ⟨rfl, jREL_c hR hC1 hf1 hM2 hf2⟩
    · exact absurd m7 c10
theorem k_corner (xs ls : Int → Int) (n : Int) (hp : jm_H) (hR : jREL xs ls n hp) (hn : n ≤ 1000000) (o c : Int) (ho : jR32 o) (hc : jR32 c) : jm_Ev 103 0 [jR 0, jI o, jI c] [] hp (jSam 184 [jR 56, jI o, jI c] xs ls n) := by
  obtain ⟨rP, rD, rC, rS, rR, rK, r5, rL, rM, rX⟩ := id hR
  have hO0 : hp 20 0 = ((jO0 hp).length : Int) := rL.2.2.1.1
  have hl15 := jInv_15 rL.1 rL.2.1
  refine jm_Ev.bl 3 (pc' := 5) (A' := [jR 0, jI o, jI c]) (st' := [jI o, jR 20]) (hp' := hp) rfl ?_
  refine jE_callI (vs := [jR 20, jI o]) (r := []) (nx := 8) (v := jI (jb (decide (0 ≤ o ∧ o < hp 20 0)))) (hp1 := hp) rfl (c_o_has_20 hp (by omega) o ho) ?_
  refine jE_ifd_eq rfl (fun c8 => ?_) (fun c8 => ?_)
  · refine jm_Ev.bl 1 (pc' := 29) (A' := [jR 0, jI o, jI c]) (st' := [jI (-101)]) (hp' := hp) rfl ?_
    have hf1 : jFr hp hp [31, 32, 33, 34, 35, 36, 37, 38, 39, 40, 41, 42] := jFr.rf
    have hC1 := rL
    have rM1 := jMC_c rM hf1
    have kk1 := jKm_c rD hf1
    refine jE_ret rfl ⟨_, rfl, by omega, ⟨(hf1 82 (by simp)).trans rX.1, (hf1 85 (by simp)).trans rX.2⟩, ?_⟩
    show jm_Ev 184 0 [jR 56, jI o, jI c] [] hp _
    refine jm_Ev.bl 2 (pc' := 2) (A' := [jR 56, jI o, jI c]) (st' := [jI o, jR 56]) (hp' := hp) rfl ?_
    refine jE_call (vs := [jR 56, jI o]) (r := []) (nx := 5) rfl (c_m_isOutline hp rM1 o ho) (fun rv2 h2 hh2 => ?_)
    obtain ⟨rfl, hM2, e10, hf2⟩ := hh2
    rw [kk1.2] at e10 ⊢
    refine jE_ifd_ne rfl (fun m5 => ?_) (fun m5 => ?_)
    · exact absurd m5 (fun z => c8 (by omega))
    · refine jm_Ev.bl 1 (pc' := 10) (A' := [jR 56, jI o, jI c]) (st' := [jI (-101)]) (hp' := h2) rfl ?_
      exact jE_ret rfl ⟨rfl, jREL_c hR hC1 hf1 hM2 hf2⟩
  · obtain ⟨i, q, rfl, hq⟩ := joq (show 0 ≤ o ∧ o < ((jO0 hp).length : Int) by omega)
    have hiq := (List.getElem?_eq_some_iff.mp hq).1
    have hlq := jlq_r (jOP rL.1 rL.2.1 hq)
    have hos := jOs rL.1 rL.2.1 hq
    refine jm_Ev.bl 1 (pc' := 12) (A' := [jR 0, jI (i : Int), jI c]) (st' := [jI c]) (hp' := hp) rfl ?_
    refine jE_if_lt rfl (by omega) (fun c12 => ?_) (fun c12 => ?_)
    · refine jm_Ev.bl 1 (pc' := 29) (A' := [jR 0, jI (i : Int), jI c]) (st' := [jI (-101)]) (hp' := hp) rfl ?_
      have hf1 : jFr hp hp [31, 32, 33, 34, 35, 36, 37, 38, 39, 40, 41, 42] := jFr.rf
      have hC1 := rL
      have rM1 := jMC_c rM hf1
      have kk1 := jKm_c rD hf1
      refine jE_ret rfl ⟨_, rfl, by omega, ⟨(hf1 82 (by simp)).trans rX.1, (hf1 85 (by simp)).trans rX.2⟩, ?_⟩
      show jm_Ev 184 0 [jR 56, jI (i : Int), jI c] [] hp _
      refine jm_Ev.bl 2 (pc' := 2) (A' := [jR 56, jI (i : Int), jI c]) (st' := [jI (i : Int), jR 56]) (hp' := hp) rfl ?_
      refine jE_call (vs := [jR 56, jI (i : Int)]) (r := []) (nx := 5) rfl (c_m_isOutline hp rM1 (i : Int) ho) (fun rv2 h2 hh2 => ?_)
      obtain ⟨rfl, hM2, e10, hf2⟩ := hh2
      rw [kk1.2] at e10 ⊢
      refine jE_ifd_ne rfl (fun m5 => ?_) (fun m5 => ?_)
      · have hL2 := jML_c kk1 hM2 (e10 m5) hf2
        refine jm_Ev.bl 1 (pc' := 12) (A' := [jR 56, jI (i : Int), jI c]) (st' := [jI c]) (hp' := h2) rfl ?_
        refine jE_i2l rfl (by omega) ?_
        refine jm_Ev.bl 4 (pc' := 19) (A' := [jR 56, jI (i : Int), jI c]) (st' := [jI (i : Int), jR 71, jL 0, jL c]) (hp' := h2) rfl ?_
        refine jE_iald (n := 32) (f := h2 71) rfl rfl (by omega) ?_
        refine jE_top (w := (jlq (jK0 hp) q)) ((hL2.2.2 i q hq).1) ?_
        refine jm_Ev.bl 2 (pc' := 22) (A' := [jR 56, jI (i : Int), jI c]) (st' := [jI ((jlq (jK0 hp) q) - 1), jL 0, jL c]) (hp' := h2) rfl ?_
        refine jE_i2l rfl (by omega) ?_
        refine jE_callI (vs := [jL c, jL 0, jL ((jlq (jK0 hp) q) - 1)]) (r := []) (nx := 26) (v := jI (jb (decide (0 ≤ c ∧ c ≤ ((jlq (jK0 hp) q) - 1))))) (hp1 := h2) rfl (c_m_in h2 c 0 ((jlq (jK0 hp) q) - 1) (by omega) (by omega) (by omega)) ?_
        refine jE_ifd_eq rfl (fun m26 => ?_) (fun m26 => ?_)
        · refine jm_Ev.bl 1 (pc' := 40) (A' := [jR 56, jI (i : Int), jI c]) (st' := [jI (-101)]) (hp' := h2) rfl ?_
          exact jE_ret rfl ⟨rfl, jREL_c hR hC1 hf1 hM2 hf2⟩
        · refine jm_Ev.bl 3 (pc' := 32) (A' := [jR 56, jI (i : Int), jI c]) (st' := [jI c, jI (i : Int), jR 56]) (hp' := h2) rfl ?_
          refine jE_callI (vs := [jR 56, jI (i : Int), jI c]) (r := []) (nx := 35) (v := jI (jkq (jK0 hp) q c)) (hp1 := h2) rfl (c_m_cornerOf h2 (jK0 hp) q i (((jO0 hp).take i).flatten.length : Int) (jVm_of rL.1 rL.2.1 hL2.1 hL2.2.1 hq) (jOw rL.1 rL.2.1 hq) (jOP rL.1 rL.2.1 hq) (hL2.2.2 i q hq).2.2 c (by omega)) ?_
          refine jm_Ev.bl 1 (pc' := 40) (A' := [jR 56, jI (i : Int), jI c]) (st' := [jI (jkq (jK0 hp) q c)]) (hp' := h2) rfl ?_
          omega
      · refine jm_Ev.bl 1 (pc' := 10) (A' := [jR 56, jI (i : Int), jI c]) (st' := [jI (-101)]) (hp' := h2) rfl ?_
        exact jE_ret rfl ⟨rfl, jREL_c hR hC1 hf1 hM2 hf2⟩
    · refine jm_Ev.bl 4 (pc' := 21) (A' := [jR 0, jI (i : Int), jI c]) (st' := [jI (i : Int), jR 33, jI c]) (hp' := hp) rfl ?_
      refine jE_call (vs := [jR 33, jI (i : Int)]) (r := [jI c]) (nx := 24) rfl (c_b_fewestOf hp (jK0 hp) (jO0 hp) rL i q hq) (fun rv21 h1 hh => ?_)
      obtain ⟨rfl, hC1, hf0⟩ := hh
      refine jE_icmp_lt rfl (by omega) (by omega) (fun c24 => ?_) (fun c24 => ?_)
      · have hkr := jkq_r (jOP rL.1 rL.2.1 hq) (n := c) (by omega) (by omega)
        refine jm_Ev.bl 3 (pc' := 35) (A' := [jR 0, jI (i : Int), jI c]) (st' := [jI (i : Int), jR 33]) (hp' := h1) rfl ?_
        refine jE_call (vs := [jR 33, jI (i : Int)]) (r := []) (nx := 38) rfl (c_b_solve h1 (jK0 hp) (jO0 hp) hC1 i q hq) (fun rv35 h9 hh9 => ?_)
        obtain ⟨rfl, hC9, _, hsv, hf9⟩ := hh9
        refine jm_Ev.bl 5 (pc' := 47) (A' := [jR 0, jI (i : Int), jI c]) (st' := [jI (i : Int), jR 20, jR 33]) (hp' := h9) rfl ?_
        refine jE_callI (vs := [jR 20, jI (i : Int)]) (r := [jR 33]) (nx := 50) (v := jI (((jO0 hp).take i).flatten.length : Int)) (hp1 := h9) rfl (((hC9.2.2.1.2 i q hq).1) ▸ c_o_startOf_20 h9 i (by omega) (by omega)) ?_
        refine jm_Ev.bl 2 (pc' := 52) (A' := [jR 0, jI (i : Int), jI c]) (st' := [jI ((((jO0 hp).take i).flatten.length : Int) + c), jR 33]) (hp' := h9) rfl ?_
        refine jE_callI (vs := [jR 33, jI ((((jO0 hp).take i).flatten.length : Int) + c)]) (r := []) (nx := 55) (v := jI (jkq (jK0 hp) q c)) (hp1 := h9) rfl ((hsv.2.2.1 c (by omega) (by omega)) ▸ c_b_cornerAt h9 ((((jO0 hp).take i).flatten.length : Int) + c) (by omega)) ?_
        have hf1 := hf0.tr hf9 (V := [31, 32, 33, 34, 35, 36, 37, 38, 39, 40, 41, 42]) (by simp) (by simp)
        have hC1 := hC9
        have rM1 := jMC_c rM hf1
        have kk1 := jKm_c rD hf1
        refine jE_ret rfl ⟨_, rfl, by omega, ⟨(hf1 82 (by simp)).trans rX.1, (hf1 85 (by simp)).trans rX.2⟩, ?_⟩
        show jm_Ev 184 0 [jR 56, jI (i : Int), jI c] [] h9 _
        refine jm_Ev.bl 2 (pc' := 2) (A' := [jR 56, jI (i : Int), jI c]) (st' := [jI (i : Int), jR 56]) (hp' := h9) rfl ?_
        refine jE_call (vs := [jR 56, jI (i : Int)]) (r := []) (nx := 5) rfl (c_m_isOutline h9 rM1 (i : Int) ho) (fun rv2 h2 hh2 => ?_)
        obtain ⟨rfl, hM2, e10, hf2⟩ := hh2
        rw [kk1.2] at e10 ⊢
        refine jE_ifd_ne rfl (fun m5 => ?_) (fun m5 => ?_)
        · have hL2 := jML_c kk1 hM2 (e10 m5) hf2
          refine jm_Ev.bl 1 (pc' := 12) (A' := [jR 56, jI (i : Int), jI c]) (st' := [jI c]) (hp' := h2) rfl ?_
          refine jE_i2l rfl (by omega) ?_
          refine jm_Ev.bl 4 (pc' := 19) (A' := [jR 56, jI (i : Int), jI c]) (st' := [jI (i : Int), jR 71, jL 0, jL c]) (hp' := h2) rfl ?_
          refine jE_iald (n := 32) (f := h2 71) rfl rfl (by omega) ?_
          refine jE_top (w := (jlq (jK0 hp) q)) ((hL2.2.2 i q hq).1) ?_
          refine jm_Ev.bl 2 (pc' := 22) (A' := [jR 56, jI (i : Int), jI c]) (st' := [jI ((jlq (jK0 hp) q) - 1), jL 0, jL c]) (hp' := h2) rfl ?_
          refine jE_i2l rfl (by omega) ?_
          refine jE_callI (vs := [jL c, jL 0, jL ((jlq (jK0 hp) q) - 1)]) (r := []) (nx := 26) (v := jI (jb (decide (0 ≤ c ∧ c ≤ ((jlq (jK0 hp) q) - 1))))) (hp1 := h2) rfl (c_m_in h2 c 0 ((jlq (jK0 hp) q) - 1) (by omega) (by omega) (by omega)) ?_
          refine jE_ifd_eq rfl (fun m26 => ?_) (fun m26 => ?_)
          · refine jm_Ev.bl 1 (pc' := 40) (A' := [jR 56, jI (i : Int), jI c]) (st' := [jI (-101)]) (hp' := h2) rfl ?_
            exact absurd (show 0 ≤ c ∧ c ≤ jlq (jK0 hp) q - 1 by omega) m26
          · refine jm_Ev.bl 3 (pc' := 32) (A' := [jR 56, jI (i : Int), jI c]) (st' := [jI c, jI (i : Int), jR 56]) (hp' := h2) rfl ?_
            refine jE_callI (vs := [jR 56, jI (i : Int), jI c]) (r := []) (nx := 35) (v := jI (jkq (jK0 hp) q c)) (hp1 := h2) rfl (c_m_cornerOf h2 (jK0 hp) q i (((jO0 hp).take i).flatten.length : Int) (jVm_of rL.1 rL.2.1 hL2.1 hL2.2.1 hq) (jOw rL.1 rL.2.1 hq) (jOP rL.1 rL.2.1 hq) (hL2.2.2 i q hq).2.2 c (by omega)) ?_
            refine jm_Ev.bl 1 (pc' := 40) (A' := [jR 56, jI (i : Int), jI c]) (st' := [jI (jkq (jK0 hp) q c)]) (hp' := h2) rfl ?_
            exact jE_ret rfl ⟨rfl, jREL_c hR hC1 hf1 hM2 hf2⟩
        · refine jm_Ev.bl 1 (pc' := 10) (A' := [jR 56, jI (i : Int), jI c]) (st' := [jI (-101)]) (hp' := h2) rfl ?_
          exact absurd (show 0 ≤ (i : Int) ∧ (i : Int) < ((jO0 hp).length : Int) by omega) m5
      · refine jm_Ev.bl 1 (pc' := 29) (A' := [jR 0, jI (i : Int), jI c]) (st' := [jI (-101)]) (hp' := h1) rfl ?_
        have hf1 := hf0.wk (V := [31, 32, 33, 34, 35, 36, 37, 38, 39, 40, 41, 42]) (by simp)
        have rM1 := jMC_c rM hf1
        have kk1 := jKm_c rD hf1
        refine jE_ret rfl ⟨_, rfl, by omega, ⟨(hf1 82 (by simp)).trans rX.1, (hf1 85 (by simp)).trans rX.2⟩, ?_⟩
        show jm_Ev 184 0 [jR 56, jI (i : Int), jI c] [] h1 _
        refine jm_Ev.bl 2 (pc' := 2) (A' := [jR 56, jI (i : Int), jI c]) (st' := [jI (i : Int), jR 56]) (hp' := h1) rfl ?_
        refine jE_call (vs := [jR 56, jI (i : Int)]) (r := []) (nx := 5) rfl (c_m_isOutline h1 rM1 (i : Int) ho) (fun rv2 h2 hh2 => ?_)
        obtain ⟨rfl, hM2, e10, hf2⟩ := hh2
        rw [kk1.2] at e10 ⊢
        refine jE_ifd_ne rfl (fun m5 => ?_) (fun m5 => ?_)
        · have hL2 := jML_c kk1 hM2 (e10 m5) hf2
          refine jm_Ev.bl 1 (pc' := 12) (A' := [jR 56, jI (i : Int), jI c]) (st' := [jI c]) (hp' := h2) rfl ?_
          refine jE_i2l rfl (by omega) ?_
          refine jm_Ev.bl 4 (pc' := 19) (A' := [jR 56, jI (i : Int), jI c]) (st' := [jI (i : Int), jR 71, jL 0, jL c]) (hp' := h2) rfl ?_
          refine jE_iald (n := 32) (f := h2 71) rfl rfl (by omega) ?_
          refine jE_top (w := (jlq (jK0 hp) q)) ((hL2.2.2 i q hq).1) ?_
          refine jm_Ev.bl 2 (pc' := 22) (A' := [jR 56, jI (i : Int), jI c]) (st' := [jI ((jlq (jK0 hp) q) - 1), jL 0, jL c]) (hp' := h2) rfl ?_
          refine jE_i2l rfl (by omega) ?_
          refine jE_callI (vs := [jL c, jL 0, jL ((jlq (jK0 hp) q) - 1)]) (r := []) (nx := 26) (v := jI (jb (decide (0 ≤ c ∧ c ≤ ((jlq (jK0 hp) q) - 1))))) (hp1 := h2) rfl (c_m_in h2 c 0 ((jlq (jK0 hp) q) - 1) (by omega) (by omega) (by omega)) ?_
          refine jE_ifd_eq rfl (fun m26 => ?_) (fun m26 => ?_)
          · refine jm_Ev.bl 1 (pc' := 40) (A' := [jR 56, jI (i : Int), jI c]) (st' := [jI (-101)]) (hp' := h2) rfl ?_
            exact jE_ret rfl ⟨rfl, jREL_c hR hC1 hf1 hM2 hf2⟩
          · refine jm_Ev.bl 3 (pc' := 32) (A' := [jR 56, jI (i : Int), jI c]) (st' := [jI c, jI (i : Int), jR 56]) (hp' := h2) rfl ?_
            refine jE_callI (vs := [jR 56, jI (i : Int), jI c]) (r := []) (nx := 35) (v := jI (jkq (jK0 hp) q c)) (hp1 := h2) rfl (c_m_cornerOf h2 (jK0 hp) q i (((jO0 hp).take i).flatten.length : Int) (jVm_of rL.1 rL.2.1 hL2.1 hL2.2.1 hq) (jOw rL.1 rL.2.1 hq) (jOP rL.1 rL.2.1 hq) (hL2.2.2 i q hq).2.2 c (by omega)) ?_
            refine jm_Ev.bl 1 (pc' := 40) (A' := [jR 56, jI (i : Int), jI c]) (st' := [jI (jkq (jK0 hp) q c)]) (hp' := h2) rfl ?_
            omega
        · refine jm_Ev.bl 1 (pc' := 10) (A' := [jR 56, jI (i : Int), jI c]) (st' := [jI (-101)]) (hp' := h2) rfl ?_
          exact jE_ret rfl ⟨rfl, jREL_c hR hC1 hf1 hM2 hf2⟩
