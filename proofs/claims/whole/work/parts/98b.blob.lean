/-! call by call: blob -/
theorem c_p_read_y (hp : jm_H) (hP : jPg (hp 1 1) (hp 2)) (hG : jG hp 5 6) (W H : Int) (hb : jblob (hp 2) (hp 1 1) W H) : jm_Ev 80 0 [jR 1, jR 5, jU, jU, jU, jU] [] hp (fun rv h => rv = some (jI 1) ∧ jFr hp h [5, 6] ∧ jG h 5 6 ∧ h 5 1 = W ∧ h 5 2 = H ∧ ∀ j, 0 ≤ j → j < W * H → h 6 j = jkb (hp 2 (j + j / W))) := by
  refine jm_Ev.mono (c_p_read hp hP hG) (fun rv h hh => ?_)
  obtain ⟨a, b, c⟩ := hh
  rcases c with ⟨W', H', c1, c2, c3, c4, c5⟩ | ⟨c1, _⟩
  · obtain ⟨rfl, rfl⟩ := jblob_u hb c1
    exact ⟨c2, a, b, c3, c4, c5⟩
  · exact absurd hb (c1 W H)
theorem c_p_read_n (hp : jm_H) (hP : jPg (hp 1 1) (hp 2)) (hG : jG hp 5 6) (hb : ∀ W H, ¬ jblob (hp 2) (hp 1 1) W H) : jm_Ev 80 0 [jR 1, jR 5, jU, jU, jU, jU] [] hp (fun rv h => rv = some (jI 0) ∧ jFr hp h [5, 6] ∧ jG h 5 6) := by
  refine jm_Ev.mono (c_p_read hp hP hG) (fun rv h hh => ?_)
  obtain ⟨a, b, c⟩ := hh
  rcases c with ⟨W', H', c1, _⟩ | ⟨_, c2⟩
  · exact absurd c1 (hb W' H')
  · exact ⟨c2, a, b⟩
theorem c_m_blob_y (hp : jm_H) (hP : jPg (hp 56 1) (hp 57)) (hM : jMG hp) (W H : Int) (hb : jblob (hp 57) (hp 56 1) W H) : jm_Ev 141 0 [jR 56, jU, jU, jU] [] hp (fun rv h => rv = some (jI (jcnt (h 58) (W * H).toNat)) ∧ jMG h ∧ h 56 6 = W ∧ h 56 7 = H ∧ (∀ j, 0 ≤ j → j < W * H → h 58 j = jkb (hp 57 (j + j / W))) ∧ h 56 30 = 0 ∧ h 56 8 = hp 56 8 + 1 ∧ h 56 1 = 0 ∧ h 56 10 = 1 ∧ (∀ j, 0 ≤ j → j < 15 → h 74 j = -1) ∧ jFq hp h [58, 74] [1, 2, 3, 4, 5, 6, 7, 8, 10, 30]) := by
  refine jm_Ev.mono (c_m_blob hp hP hM) (fun rv h hh => ?_)
  rcases hh with ⟨W', H', c1, c2⟩ | ⟨c1, _⟩
  · obtain ⟨rfl, rfl⟩ := jblob_u hb c1
    exact c2
  · exact absurd hb (c1 W H)
theorem c_m_blob_n (hp : jm_H) (hP : jPg (hp 56 1) (hp 57)) (hM : jMG hp) (hb : ∀ W H, ¬ jblob (hp 57) (hp 56 1) W H) : jm_Ev 141 0 [jR 56, jU, jU, jU] [] hp (fun rv h => rv = some (jI (-103)) ∧ jFq hp h [] [2, 3, 4, 5]) := by
  refine jm_Ev.mono (c_m_blob hp hP hM) (fun rv h hh => ?_)
  rcases hh with ⟨W', H', c1, _⟩ | ⟨_, c2, c3⟩
  · exact absurd c1 (hb W' H')
  · exact ⟨c2, c3⟩
theorem k_blob_n (xs ls : Int → Int) (n : Int) (hp : jm_H) (hR : jREL xs ls n hp) (hn : n ≤ 1000000) (hb : ∀ W H, ¬ jblob (hp 2) (hp 1 1) W H) : jm_Ev 96 0 [jR 0] [] hp (jSam 141 [jR 56] xs ls n) := by
  obtain ⟨rP, rD, rC, rS, rR, rK, r5, rL, rM, rX⟩ := id hR
  refine jm_Ev.bl 4 (pc' := 8) (A' := [jR 0]) (st' := [jR 5, jR 1]) (hp' := hp) rfl ?_
  refine jE_call (vs := [jR 1, jR 5]) (r := []) (nx := 11) rfl (c_p_read_n hp rP.1 r5 hb) (fun rv8 h1 hh1 => ?_)
  obtain ⟨rfl, hf1, hG1⟩ := hh1
  refine jE_if_ne rfl (by omega) (fun c11 => absurd c11 (by omega)) (fun _ => ?_)
  refine jm_Ev.bl 1 (pc' := 16) (A' := [jR 0]) (st' := [jI (-103)]) (hp' := h1) rfl ?_
  have rM1 : jMC h1 := jMC_fr rM hf1.q (by intro q hq z; simp at z <;> omega) (by simp)
  have e57 : h1 57 = hp 57 := hf1 57 (by simp)
  have e1 : h1 56 1 = hp 1 1 := (congrFun (hf1 56 (by simp)) 1).trans rP.2.1
  have p1 : jPg (h1 56 1) (h1 57) := by rw [e1, e57, ← rP.2.1]; exact jpg_m rP
  have nb : ∀ W H, ¬ jblob (h1 57) (h1 56 1) W H := fun W H z => by
    rw [e1, e57] at z
    exact hb W H (jblob_cg rP.1.1 (fun j a b => rP.2.2 j a b) z)
  refine jE_ret rfl ⟨_, rfl, by omega, ⟨(hf1 82 (by simp)).trans rX.1, (hf1 85 (by simp)).trans rX.2⟩, jm_Ev.mono (c_m_blob_n h1 p1 rM1.1 nb) (fun rv h2 hh => ?_)⟩
  obtain ⟨rfl, hf2⟩ := hh
  have hz : jFq hp h2 [5, 6] [2, 3, 4, 5] := hf1.q.tr hf2 (by simp) (by simp) (by simp) (by simp)
  have h55 : jR5 h2 := by unfold jR5 jG; rw [hf2.pl 5 (by simp) (by simp), hf2.pl 6 (by simp) (by simp)]; exact hG1
  exact ⟨rfl, ⟨jRP_fr rP hz (by simp) (by simp), jRD_fr rD hz (by simp) (by simp), jRC_fr (show n ≤ n + 1 by omega) rC hz (by simp) (by simp), jRS_fr rS hz (by simp) (by simp), jRR_fr rR hz (by simp), jRK_fr rK hz (by simp) (by simp), h55, jRL_fr rL hz (by intro q hq z; simp at z <;> omega), jMC_fr rM hz (by intro q hq z; simp at z <;> omega) (by simp), jRX_fr rX hz (by simp)⟩⟩
theorem k_blob_y (xs ls : Int → Int) (n : Int) (hp : jm_H) (hR : jREL xs ls n hp) (hn : n ≤ 1000000) (W H : Int) (hb : jblob (hp 2) (hp 1 1) W H) : jm_Ev 96 0 [jR 0] [] hp (jSam 141 [jR 56] xs ls n) := by
  obtain ⟨rP, rD, rC, rS, rR, rK, r5, rL, rM, rX⟩ := id hR
  refine jm_Ev.bl 4 (pc' := 8) (A' := [jR 0]) (st' := [jR 5, jR 1]) (hp' := hp) rfl ?_
  refine jE_call (vs := [jR 1, jR 5]) (r := []) (nx := 11) rfl (c_p_read_y hp rP.1 r5 W H hb) (fun rv8 h1 hh1 => ?_)
  obtain ⟨rfl, hf1, hG1, a1, a2, a3⟩ := hh1
  refine jE_if_ne rfl (by have := rC.1; omega) (fun _ => ?_) (fun c11 => absurd c11 (by omega))
  refine jm_Ev.bl 4 (pc' := 25) (A' := [jR 0]) (st' := [jR 5, jR 3]) (hp' := h1) rfl ?_
  refine jE_call (vs := [jR 3, jR 5]) (r := []) (nx := 28) rfl (c_g_copy_3_5 h1) (fun rv25 h2 hh2 => ?_)
  obtain ⟨rfl, b1, b2, b3, hf2⟩ := hh2
  rw [a1] at b1
  rw [a2] at b2
  have g5 := hG1
  unfold jG at g5
  rw [a1, a2] at g5
  have wh := jm_mulb g5.1 g5.2.1 g5.2.2.1 g5.2.2.2.1
  have hG2 : jG h2 3 4 := by
    unfold jG
    rw [b1, b2]
    exact ⟨g5.1, g5.2.1, g5.2.2.1, g5.2.2.2.1, fun j a b => by rw [b3 j a b]; exact g5.2.2.2.2 j a b⟩
  have hf12 : jFr hp h2 [3, 4, 5, 6] := hf1.tr hf2 (by simp) (by simp)
  have e013 : h2 0 13 = hp 0 13 := congrFun (hf12 0 (by simp)) 13
  refine jm_Ev.bl 18 (pc' := 60) (A' := [jR 0]) (st' := [jR 0]) (hp' := (jm_hs (jm_hs (jm_hs (jm_hs h2 1 1 0) 0 13 ((h2 0 13) + 1)) 9 3 0) 0 12 0)) rfl ?_
  refine jE_call (vs := [jR 0]) (r := []) (nx := 63) rfl (c_x_dotsChanged (jm_hs (jm_hs (jm_hs (jm_hs h2 1 1 0) 0 13 (h2 0 13 + 1)) 9 3 0) 0 12 0) hG2) (fun rv60 h3 hh3 => ?_)
  obtain ⟨rfl, h19, hC3, hf3⟩ := hh3
  have f4 : jFr hp (jm_hs (jm_hs (jm_hs (jm_hs h2 1 1 0) 0 13 (h2 0 13 + 1)) 9 3 0) 0 12 0) [0, 1, 3, 4, 5, 6, 9] := (((((hf12.wk (V := [0, 1, 3, 4, 5, 6, 9]) (by simp)).set (by simp)).set (by simp)).set (by simp)).set (by simp))
  have hfz : jFr hp h3 [0, 1, 3, 4, 5, 6, 9, 19, 20, 21, 22, 23, 24, 25, 26, 27, 28, 29, 30, 31, 34, 35] := f4.tr hf3 (by simp) (by simp)
  have e3 : h3 3 = h2 3 := hf3 3 (by simp)
  have e4 : h3 4 = h2 4 := hf3 4 (by simp)
  have hG3 : jG h3 3 4 := by unfold jG; rw [e3, e4]; exact hG2
  have eCd : jcnt (h3 4) (h3 3 1 * h3 3 2).toNat = (jcnt (h2 4) (W * H).toNat) := by rw [e3, e4, b1, b2]
  have ccr := jcnt_r (h2 4) (W * H).toNat
  refine jm_Ev.bl 2 (pc' := 67) (A' := [jR 0]) (st' := [jR 3]) (hp' := h3) rfl ?_
  refine jE_callI (vs := [jR 3]) (r := []) (nx := 70) (v := jI (jcnt (h2 4) (W * H).toNat)) (hp1 := h3) rfl (eCd ▸ c_g_dots_3 h3 hG3) ?_
  have bi := jblob_i rP.1.1 hb
  have rM3 : jMC h3 := jMC_fr rM hfz.q (by intro q hq z; simp at z <;> omega) (by simp)
  have e57 : h3 57 = hp 57 := hfz 57 (by simp)
  have e1 : h3 56 1 = hp 1 1 := (congrFun (hfz 56 (by simp)) 1).trans rP.2.1
  have p1 : jPg (h3 56 1) (h3 57) := by rw [e1, e57, ← rP.2.1]; exact jpg_m rP
  have hb3 : jblob (h3 57) (h3 56 1) W H := by rw [e1, e57]; exact jblob_cg rP.1.1 (fun j a b => (rP.2.2 j a b).symm) hb
  refine jE_ret rfl ⟨_, rfl, ⟨by omega, by omega⟩, ⟨(hfz 82 (by simp)).trans rX.1, (hfz 85 (by simp)).trans rX.2⟩, jm_Ev.mono (c_m_blob_y h3 p1 rM3.1 W H hb3) (fun rv h5 hh => ?_)⟩
  obtain ⟨rfl, hM5, u6, u7, u58, u30, u8, u1, u10, u74, hf5⟩ := hh
  have ec : ∀ j, 0 ≤ j → j < W * H → h5 58 j = h2 4 j := fun j a b => by
    have t := bi.2.2 j a b
    rw [u58 j a b, b3 j a (by omega), a3 j a b, e57, rP.2.2 _ t.1 t.2]
  have hz : jFq hp h5 [0, 1, 3, 4, 5, 6, 9, 19, 20, 21, 22, 23, 24, 25, 26, 27, 28, 29, 30, 31, 34, 35, 58, 74] [1, 2, 3, 4, 5, 6, 7, 8, 10, 30] := hfz.q.tr hf5 (by simp) (by simp) (by simp) (by simp)
  have y3 : h5 3 = h2 3 := (hf5.pl 3 (by simp) (by simp)).trans e3
  have y4 : h5 4 = h2 4 := (hf5.pl 4 (by simp) (by simp)).trans e4
  have y0 : h5 0 = (jm_hs (jm_hs (jm_hs (jm_hs h2 1 1 0) 0 13 (h2 0 13 + 1)) 9 3 0) 0 12 0) 0 := (hf5.pl 0 (by simp) (by simp)).trans (hf3 0 (by simp))
  have y1 : h5 1 = (jm_hs (jm_hs (jm_hs (jm_hs h2 1 1 0) 0 13 (h2 0 13 + 1)) 9 3 0) 0 12 0) 1 := (hf5.pl 1 (by simp) (by simp)).trans (hf3 1 (by simp))
  have y9 : h5 9 = (jm_hs (jm_hs (jm_hs (jm_hs h2 1 1 0) 0 13 (h2 0 13 + 1)) 9 3 0) 0 12 0) 9 := (hf5.pl 9 (by simp) (by simp)).trans (hf3 9 (by simp))
  have y13 : h5 0 13 = hp 0 13 + 1 := by rw [y0, ← e013]; rfl
  have y12 : h5 0 12 = 0 := by rw [y0]; rfl
  have y14 : h5 0 14 = hp 0 14 := by rw [y0]; exact congrFun (hf12 0 (by simp)) 14
  have y11 : h5 1 1 = 0 := by rw [y1]; rfl
  have y93 : h5 9 3 = 0 := by rw [y9]; rfl
  have y8 : h5 56 8 = hp 0 13 + 1 := by rw [u8, show h3 56 8 = hp 56 8 from congrFun (hfz 56 (by simp)) 8, rC.2.1]
  have hP5 : jRP h5 := ⟨⟨by rw [y11]; omega, by rw [y11]; omega, fun j a b => by rw [y11] at b; omega⟩, by rw [u1, y11], fun j a b => by rw [y11] at b; omega⟩
  have hD : jRD h5 := by
    refine ⟨by unfold jG; rw [y3, y4]; exact hG2, by rw [y3, b1]; exact u6, by rw [y3, b2]; exact u7, by rw [y3, y4, b1, b2]; exact ec, by rw [y3, b1, b2]; omega, ?_⟩
    rw [y3, y4, b1, b2]
    intro _
    obtain ⟨_, q, q0, q1, q2⟩ := hb
    exact (jcnt_pos _).mpr ⟨q, q0, by omega, by rw [b3 q q0 (by omega), a3 q q0 q1]; exact q2⟩
  have hC : jRC (n + 1) h5 := by
    have c1 := rC.1
    refine ⟨by rw [y13]; omega, by rw [y8, y13], by rw [y13, y3, b1]; omega, by rw [y14]; exact rC.2.2.2.1, by rw [y14, hz.fd 29 (by simp) (by simp)]; exact rC.2.2.2.2⟩
  have hS : jRS h5 := by
    refine ⟨⟨by rw [y93]; omega, by rw [y93]; omega, ?_, ?_, ?_⟩, by rw [u30, y93], fun j a b => by rw [y93] at b; omega⟩
    · rw [hz.pl 10 (by simp) (by simp)]; exact rS.1.2.2.1
    · rw [hz.pl 11 (by simp) (by simp)]; exact rS.1.2.2.2.1
    · rw [hz.pl 12 (by simp) (by simp)]; exact rS.1.2.2.2.2
  have hK : jRK h5 := by
    have k33 : h5 56 33 = hp 56 33 := hz.fd 33 (by simp) (by simp)
    have kr := rK.2.2.2.1
    refine ⟨Or.inl y12, ?_, ?_, ?_, ?_, ?_⟩
    · unfold jSn; rw [hz.pl 13 (by simp) (by simp), hz.pl 14 (by simp) (by simp), hz.pl 15 (by simp) (by simp), hz.pl 16 (by simp) (by simp)]; exact rK.2.1
    · unfold jG; rw [hz.pl 7 (by simp) (by simp), hz.pl 8 (by simp) (by simp)]; exact rK.2.2.1
    · rw [k33, y13]; omega
    · rw [k33, y13, y12]; omega
    · rw [y12]; intro z; omega
  have h55 : jR5 h5 := by
    have y5 : h5 5 = h1 5 := (hf5.pl 5 (by simp) (by simp)).trans ((hf3 5 (by simp)).trans (hf2 5 (by simp)))
    have y6 : h5 6 = h1 6 := (hf5.pl 6 (by simp) (by simp)).trans ((hf3 6 (by simp)).trans (hf2 6 (by simp)))
    unfold jR5 jG; rw [y5, y6]; exact hG1
  have hL : jRL h5 := by
    have k0 : jK0 h5 = jK0 (jm_hs (jm_hs (jm_hs (jm_hs h2 1 1 0) 0 13 (h2 0 13 + 1)) 9 3 0) 0 12 0) := by unfold jK0; rw [y3, y4]; rfl
    have k1 : jO0 h5 = jO0 (jm_hs (jm_hs (jm_hs (jm_hs h2 1 1 0) 0 13 (h2 0 13 + 1)) 9 3 0) 0 12 0) := by unfold jO0; rw [k0]
    unfold jRL
    rw [k0, k1]
    exact jCl_m hC3 hf5 (by intro q hq z; simp at z <;> omega)
  have hRR : jRR h5 := jRR_0 (fun k a b => by rw [show h5 19 = h3 19 from hf5.pl 19 (by simp) (by simp)]; exact h19 k a b) u74
  have hMM : jMC h5 := ⟨hM5, Or.inr u10, fun z => by omega⟩
  exact ⟨jrI (jcnt_cg _ (fun j a b => ec j a (by omega))), ⟨hP5, hD, hC, hS, hRR, hK, h55, hL, hMM, jRX_fr rX hz (by simp)⟩⟩
theorem k_blob (xs ls : Int → Int) (n : Int) (hp : jm_H) (hR : jREL xs ls n hp) (hn : n ≤ 1000000) : jm_Ev 96 0 [jR 0] [] hp (jSam 141 [jR 56] xs ls n) := by
  by_cases h : ∃ W H, jblob (hp 2) (hp 1 1) W H
  · obtain ⟨W, H, hb⟩ := h
    exact k_blob_y xs ls n hp hR hn W H hb
  · exact k_blob_n xs ls n hp hR hn (fun W H z => h ⟨W, H, z⟩)
