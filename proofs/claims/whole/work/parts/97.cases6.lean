/-! call by call: turn, mirror, weight, drawn -/
theorem jne {nw nh : Int} {d : Int → Int} {F : Int → Int → Int} (hc : ∀ x y, 0 ≤ x → x < nw → 0 ≤ y → y < nh → d (y * nw + x) = F x y) {x y : Int} (x0 : 0 ≤ x) (x1 : x < nw) (y0 : 0 ≤ y) (y1 : y < nh) (hf : F x y ≠ -1) : 0 < jcnt d (nw * nh).toNat := by
  have a : 0 ≤ y * nw := Int.mul_nonneg y0 (by omega)
  have b : (y + 1) * nw ≤ nh * nw := Int.mul_le_mul_of_nonneg_right (by omega) (by omega)
  rw [Int.add_mul, Int.mul_comm nh nw] at b
  exact (jcnt_pos _).mpr ⟨y * nw + x, by omega, by omega, by rw [hc x y x0 x1 y0 y1]; exact hf⟩
theorem jcell {nw nh : Int} {d e : Int → Int} {F : Int → Int → Int} (hw : 0 < nw) (hd : ∀ x y, 0 ≤ x → x < nw → 0 ≤ y → y < nh → d (y * nw + x) = F x y) (he : ∀ x y, 0 ≤ x → x < nw → 0 ≤ y → y < nh → e (y * nw + x) = F x y) (j : Int) (j0 : 0 ≤ j) (j1 : j < nw * nh) : d j = e j := by
  have q := jxy hw j0 j1
  rw [q.2.2.2.2, hd _ _ q.1 q.2.1 q.2.2.1 q.2.2.2.1, he _ _ q.1 q.2.1 q.2.2.1 q.2.2.2.1]
theorem jpos {w h : Int} {d : Int → Int} (hw : 0 < w) (hc : 0 < jcnt d (w * h).toNat) (hwh : 0 ≤ w * h) : ∃ x y, 0 ≤ x ∧ x < w ∧ 0 ≤ y ∧ y < h ∧ jgk w h d x y ≠ -1 := by
  obtain ⟨j, a, b, c⟩ := (jcnt_pos _).mp hc
  have q := jxy (W := w) (H := h) (k := j) hw a (by omega)
  exact ⟨j % w, j / w, q.1, q.2.1, q.2.2.1, q.2.2.2.1, by rw [jgk_in q.1 q.2.1 q.2.2.1 q.2.2.2.1, ← q.2.2.2.2]; exact c⟩
theorem jFq.dr {hp h : jm_H} {S : List Nat} {F : List Int} {k : Nat} (hf : jFq hp h (k :: S) F) (e : h k = hp k) : jFq hp h S F := fun q hq j hj => by
  by_cases z : q = k
  · subst z; rw [e]
  · exact hf q (by simp; exact ⟨z, hq⟩) j hj
theorem k_turn (xs ls : Int → Int) (n : Int) (hp : jm_H) (hR : jREL xs ls n hp) (hn : n ≤ 1000000) : jm_Ev 106 0 [jR 0] [] hp (jSam 193 [jR 56] xs ls n) := by
  obtain ⟨rP, rD, rC, rS, rR, rK, r5, rL, rM, rX⟩ := id hR
  have wh := jwh rD.1
  have gw1 := rD.1.1
  have gw2 := rD.1.2.1
  have gw3 := rD.1.2.2.1
  have gw4 := rD.1.2.2.2.1
  refine jm_Ev.bl 2 (pc' := 4) (A' := [jR 0]) (st' := [jI (hp 0 13)]) (hp' := hp) rfl ?_
  refine jE_if_ne rfl (by have := rC.1; omega) (fun c4 => ?_) (fun c4 => ?_)
  · refine jm_Ev.bl 4 (pc' := 18) (A' := [jR 0]) (st' := [jR 3, jR 5]) (hp' := hp) rfl ?_
    refine jE_call (vs := [jR 5, jR 3]) (r := []) (nx := 21) rfl (c_g_copy_5_3 hp) (fun rv18 h1 hh1 => ?_)
    obtain ⟨rfl, a1, a2, a3, hf1⟩ := hh1
    have hG1 : jG h1 5 6 := ⟨by rw [a1]; exact rD.1.1, by rw [a1]; exact rD.1.2.1, by rw [a2]; exact rD.1.2.2.1, by rw [a2]; exact rD.1.2.2.2.1, fun j j0 j1 => by rw [a3 j j0 j1]; exact rD.1.2.2.2.2 j j0 j1⟩
    have eKc : jgk (h1 5 1) (h1 5 2) (h1 6) = jK0 hp := by rw [a1, a2]; exact jgk_cg (fun j j0 j1 => a3 j j0 (by omega))
    refine jm_Ev.bl 4 (pc' := 29) (A' := [jR 0]) (st' := [jR 5, jR 3]) (hp' := h1) rfl ?_
    refine jE_call (vs := [jR 3, jR 5]) (r := []) (nx := 32) rfl (c_g_turnFrom2 h1 hG1) (fun rv29 h2 hh2 => ?_)
    obtain ⟨rfl, b1, b2, b3, b4, hf2⟩ := hh2
    rw [eKc] at b3
    rw [a1, a2] at *
    have hG2 : jG h2 3 4 := ⟨by omega, by omega, by omega, by omega, b4⟩
    refine jm_Ev.bl 1 (pc' := 33) (A' := [jR 0]) (st' := [jR 0]) (hp' := h2) rfl ?_
    refine jE_call (vs := [jR 0]) (r := []) (nx := 36) rfl (c_x_dotsChanged h2 hG2) (fun rv33 h3 hh3 => ?_)
    obtain ⟨rfl, h19, hC3, hf3⟩ := hh3
    refine jm_Ev.bl 1 (pc' := 37) (A' := [jR 0]) (st' := [jR 0]) (hp' := h3) rfl ?_
    refine jE_call (vs := [jR 0]) (r := []) (nx := 40) rfl (c_x_allCorners h3 (jK0 h2) (jO0 h2) hC3) (fun rv37 h4 hh4 => ?_)
    obtain ⟨rfl, hC4, hf4⟩ := hh4
    have hfz : jFr hp h4 [3, 4, 5, 6, 19, 20, 21, 22, 23, 24, 25, 26, 27, 28, 29, 30, 31, 32, 33, 34, 35, 36, 37, 38, 39, 40, 41, 42] := (hf1.tr hf2 (V := [3, 4, 5, 6]) (by simp) (by simp)).tr (hf3.tr hf4 (V := [19, 20, 21, 22, 23, 24, 25, 26, 27, 28, 29, 30, 31, 32, 33, 34, 35, 36, 37, 38, 39, 40, 41, 42]) (by simp) (by simp)) (by simp) (by simp)
    have rM4 : jMC h4 := jMC_fr rM hfz.q (by intro q hq z; simp at z <;> omega) (by simp)
    have f6 : h4 56 6 = hp 3 1 := (congrFun (hfz 56 (by simp)) 6).trans rD.2.1
    have f7 : h4 56 7 = hp 3 2 := (congrFun (hfz 56 (by simp)) 7).trans rD.2.2.1
    have eKm : jgk (hp 3 1) (hp 3 2) (h4 58) = jK0 hp := jgk_cg (fun j j0 j1 => by rw [hfz 58 (by simp)]; exact rD.2.2.2.1 j j0 j1)
    have car := jalc_60 hC4.1 hC4.2.1
    refine jE_ret rfl ⟨_, rfl, ⟨by omega, by omega⟩, ⟨(hfz 82 (by simp)).trans rX.1, (hfz 85 (by simp)).trans rX.2⟩, ?_⟩
    have q0 : ¬ hp 3 1 = 0 := fun z => c4 (rC.2.2.1.mpr z)
    have q1 : ¬ hp 3 2 = 0 := fun z => q0 (rD.2.2.2.2.1.mpr z)
    have tm := c_m_turn h4 rM4.1 (by rw [f6]; exact q0) (by rw [f7]; have := rD.1.2.2.1; omega)
    rw [f6, f7, eKm] at tm
    refine jm_Ev.mono tm (fun rv h5 hh => ?_)
    obtain ⟨⟨v, rfl, hv⟩, g6, g7, g58, g74, hM5, hf5⟩ := hh
    have nw0 : 0 < hp 3 2 := by have := rD.1.1; have := rD.1.2.2.1; omega
    have ec : ∀ j, 0 ≤ j → j < hp 3 2 * hp 3 1 → h5 58 j = h2 4 j := fun j j0 j1 => jcell nw0 (F := (fun x y => jK0 hp y (hp 3 2 - 1 - x))) g58 b3 j j0 j1
    have hz : jFq hp h5 [3, 4, 5, 6, 19, 20, 21, 22, 23, 24, 25, 26, 27, 28, 29, 30, 31, 32, 33, 34, 35, 36, 37, 38, 39, 40, 41, 42, 58, 73, 74, 59, 60, 61, 62, 63, 64, 65, 66, 67, 68, 69, 70, 71, 72] [6, 7, 10, 11, 26] := hfz.q.tr hf5 (by simp) (by simp) (by simp) (by simp)
    have g3 : h5 3 = h2 3 := (hf5.pl 3 (by simp) (by simp)).trans ((hf4 3 (by simp)).trans (hf3 3 (by simp)))
    have g4 : h5 4 = h2 4 := (hf5.pl 4 (by simp) (by simp)).trans ((hf4 4 (by simp)).trans (hf3 4 (by simp)))
    have g5 : h5 5 = h1 5 := (hf5.pl 5 (by simp) (by simp)).trans ((hf4 5 (by simp)).trans ((hf3 5 (by simp)).trans (hf2 5 (by simp))))
    have g6' : h5 6 = h1 6 := (hf5.pl 6 (by simp) (by simp)).trans ((hf4 6 (by simp)).trans ((hf3 6 (by simp)).trans (hf2 6 (by simp))))
    have g0 : h5 0 = hp 0 := hz.pl 0 (by simp) (by simp)
    have hD : jRD h5 := by
      refine ⟨by unfold jG; rw [g3, g4]; exact hG2, by rw [g3, g6, b1], by rw [g3, g7, b2], ?_, ?_, ?_⟩
      · rw [g3, g4, b1, b2]; exact ec
      · rw [g3, b1, b2]; exact ⟨fun z => by omega, fun z => by omega⟩
      · rw [g3, g4, b1, b2]
        intro _
        obtain ⟨x, y, x0, x1, y0, y1, hxy⟩ := jpos (w := hp 3 1) (h := hp 3 2) (d := hp 4) (by have := rD.1.1; omega) (rD.2.2.2.2.2 q0) wh.1
        exact jne (F := (fun x y => jK0 hp y (hp 3 2 - 1 - x))) b3 (x := hp 3 2 - 1 - y) (y := x) (by omega) (by omega) (by omega) (by omega) (by show jK0 hp _ _ ≠ -1; rw [show hp 3 2 - 1 - (hp 3 2 - 1 - y) = y by omega]; exact hxy)
    have hC : jRC (n + 1) h5 := by
      refine ⟨by rw [g0]; exact ⟨rC.1.1, by have := rC.1.2; omega⟩, by rw [g0, hz.fd 8 (by simp) (by simp)]; exact rC.2.1, ?_, by rw [g0]; exact rC.2.2.2.1, by rw [g0, hz.fd 29 (by simp) (by simp)]; exact rC.2.2.2.2⟩
      rw [g0, g3, b1]
      exact ⟨fun z => absurd z c4, fun z => by omega⟩
    have hL : jRL h5 := by
      have k0 : jK0 h5 = jK0 h2 := by unfold jK0; rw [g3, g4]
      have k1 : jO0 h5 = jO0 h2 := by unfold jO0; rw [k0]
      unfold jRL
      rw [k0, k1]
      exact jCl_m hC4 hf5 (by intro q hq z; simp at z <;> omega)
    have hRR : jRR h5 := jRR_0 (fun k a b => by rw [show h5 19 = h3 19 from (hf5.pl 19 (by simp) (by simp)).trans (hf4 19 (by simp))]; exact h19 k a b) g74
    have h55 : jR5 h5 := by unfold jR5 jG; rw [g5, g6']; exact hG1
    have eKK : jgk (hp 3 2) (hp 3 1) (h5 58) = jK0 h2 := by unfold jK0; rw [b1, b2]; exact jgk_cg ec
    refine ⟨jrI ?_, ⟨jRP_fr rP hz (by simp) (by simp), hD, hC, jRS_fr rS hz (by simp) (by simp), hRR, jRK_fr rK hz (by simp) (by simp), h55, hL, hM5, jRX_fr rX hz (by simp)⟩⟩
    rw [hv, eKK]
    rfl
  · refine jm_Ev.bl 1 (pc' := 9) (A' := [jR 0]) (st' := [jI (-103)]) (hp' := hp) rfl ?_
    refine jE_ret rfl ⟨_, rfl, by omega, rX, ?_⟩
    have w0 : hp 56 6 = 0 := by rw [rD.2.1]; exact rC.2.2.1.mp c4
    refine jm_Ev.mono (c_m_turn_0 hp rM.1 w0) (fun rv h hh => ?_)
    obtain ⟨rfl, rfl⟩ := hh
    exact ⟨rfl, ⟨jRP_fr rP (jFq.rf (S := []) (F := [])) (by simp) (by simp), jRD_fr rD (jFq.rf (S := []) (F := [])) (by simp) (by simp), jRC_fr (show n ≤ n + 1 by omega) rC (jFq.rf (S := []) (F := [])) (by simp) (by simp), jRS_fr rS (jFq.rf (S := []) (F := [])) (by simp) (by simp), jRR_fr rR (jFq.rf (S := []) (F := [])) (by simp), jRK_fr rK (jFq.rf (S := []) (F := [])) (by simp) (by simp), jR5_fr r5 (jFq.rf (S := []) (F := [])) (by simp), jRL_fr rL (jFq.rf (S := []) (F := [])) (by intro q hq z; simp at z <;> omega), jMC_fr rM (jFq.rf (S := []) (F := [])) (by intro q hq z; simp at z <;> omega) (by simp), jRX_fr rX (jFq.rf (S := []) (F := [])) (by simp)⟩⟩
theorem k_mirror (xs ls : Int → Int) (n : Int) (hp : jm_H) (hR : jREL xs ls n hp) (hn : n ≤ 1000000) : jm_Ev 107 0 [jR 0] [] hp (jSam 194 [jR 56] xs ls n) := by
  obtain ⟨rP, rD, rC, rS, rR, rK, r5, rL, rM, rX⟩ := id hR
  have wh := jwh rD.1
  have gw1 := rD.1.1
  have gw2 := rD.1.2.1
  have gw3 := rD.1.2.2.1
  have gw4 := rD.1.2.2.2.1
  refine jm_Ev.bl 2 (pc' := 4) (A' := [jR 0]) (st' := [jI (hp 0 13)]) (hp' := hp) rfl ?_
  refine jE_if_ne rfl (by have := rC.1; omega) (fun c4 => ?_) (fun c4 => ?_)
  · refine jm_Ev.bl 4 (pc' := 18) (A' := [jR 0]) (st' := [jR 3, jR 5]) (hp' := hp) rfl ?_
    refine jE_call (vs := [jR 5, jR 3]) (r := []) (nx := 21) rfl (c_g_copy_5_3 hp) (fun rv18 h1 hh1 => ?_)
    obtain ⟨rfl, a1, a2, a3, hf1⟩ := hh1
    have hG1 : jG h1 5 6 := ⟨by rw [a1]; exact rD.1.1, by rw [a1]; exact rD.1.2.1, by rw [a2]; exact rD.1.2.2.1, by rw [a2]; exact rD.1.2.2.2.1, fun j j0 j1 => by rw [a3 j j0 j1]; exact rD.1.2.2.2.2 j j0 j1⟩
    have eKc : jgk (h1 5 1) (h1 5 2) (h1 6) = jK0 hp := by rw [a1, a2]; exact jgk_cg (fun j j0 j1 => a3 j j0 (by omega))
    refine jm_Ev.bl 4 (pc' := 29) (A' := [jR 0]) (st' := [jR 5, jR 3]) (hp' := h1) rfl ?_
    refine jE_call (vs := [jR 3, jR 5]) (r := []) (nx := 32) rfl (c_g_mirrorFrom2 h1 hG1) (fun rv29 h2 hh2 => ?_)
    obtain ⟨rfl, b1, b2, b3, b4, hf2⟩ := hh2
    rw [eKc] at b3
    rw [a1, a2] at *
    have hG2 : jG h2 3 4 := ⟨by omega, by omega, by omega, by omega, b4⟩
    refine jm_Ev.bl 1 (pc' := 33) (A' := [jR 0]) (st' := [jR 0]) (hp' := h2) rfl ?_
    refine jE_call (vs := [jR 0]) (r := []) (nx := 36) rfl (c_x_dotsChanged h2 hG2) (fun rv33 h3 hh3 => ?_)
    obtain ⟨rfl, h19, hC3, hf3⟩ := hh3
    refine jm_Ev.bl 1 (pc' := 37) (A' := [jR 0]) (st' := [jR 0]) (hp' := h3) rfl ?_
    refine jE_call (vs := [jR 0]) (r := []) (nx := 40) rfl (c_x_allCorners h3 (jK0 h2) (jO0 h2) hC3) (fun rv37 h4 hh4 => ?_)
    obtain ⟨rfl, hC4, hf4⟩ := hh4
    have hfz : jFr hp h4 [3, 4, 5, 6, 19, 20, 21, 22, 23, 24, 25, 26, 27, 28, 29, 30, 31, 32, 33, 34, 35, 36, 37, 38, 39, 40, 41, 42] := (hf1.tr hf2 (V := [3, 4, 5, 6]) (by simp) (by simp)).tr (hf3.tr hf4 (V := [19, 20, 21, 22, 23, 24, 25, 26, 27, 28, 29, 30, 31, 32, 33, 34, 35, 36, 37, 38, 39, 40, 41, 42]) (by simp) (by simp)) (by simp) (by simp)
    have rM4 : jMC h4 := jMC_fr rM hfz.q (by intro q hq z; simp at z <;> omega) (by simp)
    have f6 : h4 56 6 = hp 3 1 := (congrFun (hfz 56 (by simp)) 6).trans rD.2.1
    have f7 : h4 56 7 = hp 3 2 := (congrFun (hfz 56 (by simp)) 7).trans rD.2.2.1
    have eKm : jgk (hp 3 1) (hp 3 2) (h4 58) = jK0 hp := jgk_cg (fun j j0 j1 => by rw [hfz 58 (by simp)]; exact rD.2.2.2.1 j j0 j1)
    have car := jalc_60 hC4.1 hC4.2.1
    refine jE_ret rfl ⟨_, rfl, ⟨by omega, by omega⟩, ⟨(hfz 82 (by simp)).trans rX.1, (hfz 85 (by simp)).trans rX.2⟩, ?_⟩
    have q0 : ¬ hp 3 1 = 0 := fun z => c4 (rC.2.2.1.mpr z)
    have q1 : ¬ hp 3 2 = 0 := fun z => q0 (rD.2.2.2.2.1.mpr z)
    have tm := c_m_mirror h4 rM4.1 (by rw [f6]; exact q0) (by rw [f7]; have := rD.1.2.2.1; omega)
    rw [f6, f7, eKm] at tm
    refine jm_Ev.mono tm (fun rv h5 hh => ?_)
    obtain ⟨⟨v, rfl, hv⟩, g6, g7, g58, g74, hM5, hf5⟩ := hh
    have nw0 : 0 < hp 3 1 := by have := rD.1.1; have := rD.1.2.2.1; omega
    have ec : ∀ j, 0 ≤ j → j < hp 3 1 * hp 3 2 → h5 58 j = h2 4 j := fun j j0 j1 => jcell nw0 (F := (fun x y => jK0 hp (hp 3 1 - 1 - x) y)) g58 b3 j j0 j1
    have hz : jFq hp h5 [3, 4, 5, 6, 19, 20, 21, 22, 23, 24, 25, 26, 27, 28, 29, 30, 31, 32, 33, 34, 35, 36, 37, 38, 39, 40, 41, 42, 58, 73, 74, 59, 60, 61, 62, 63, 64, 65, 66, 67, 68, 69, 70, 71, 72] [6, 7, 10, 11, 26] := hfz.q.tr hf5 (by simp) (by simp) (by simp) (by simp)
    have g3 : h5 3 = h2 3 := (hf5.pl 3 (by simp) (by simp)).trans ((hf4 3 (by simp)).trans (hf3 3 (by simp)))
    have g4 : h5 4 = h2 4 := (hf5.pl 4 (by simp) (by simp)).trans ((hf4 4 (by simp)).trans (hf3 4 (by simp)))
    have g5 : h5 5 = h1 5 := (hf5.pl 5 (by simp) (by simp)).trans ((hf4 5 (by simp)).trans ((hf3 5 (by simp)).trans (hf2 5 (by simp))))
    have g6' : h5 6 = h1 6 := (hf5.pl 6 (by simp) (by simp)).trans ((hf4 6 (by simp)).trans ((hf3 6 (by simp)).trans (hf2 6 (by simp))))
    have g0 : h5 0 = hp 0 := hz.pl 0 (by simp) (by simp)
    have hD : jRD h5 := by
      refine ⟨by unfold jG; rw [g3, g4]; exact hG2, by rw [g3, g6, b1], by rw [g3, g7, b2], ?_, ?_, ?_⟩
      · rw [g3, g4, b1, b2]; exact ec
      · rw [g3, b1, b2]; exact ⟨fun z => by omega, fun z => by omega⟩
      · rw [g3, g4, b1, b2]
        intro _
        obtain ⟨x, y, x0, x1, y0, y1, hxy⟩ := jpos (w := hp 3 1) (h := hp 3 2) (d := hp 4) (by have := rD.1.1; omega) (rD.2.2.2.2.2 q0) wh.1
        exact jne (F := (fun x y => jK0 hp (hp 3 1 - 1 - x) y)) b3 (x := hp 3 1 - 1 - x) (y := y) (by omega) (by omega) (by omega) (by omega) (by show jK0 hp _ _ ≠ -1; rw [show hp 3 1 - 1 - (hp 3 1 - 1 - x) = x by omega]; exact hxy)
    have hC : jRC (n + 1) h5 := by
      refine ⟨by rw [g0]; exact ⟨rC.1.1, by have := rC.1.2; omega⟩, by rw [g0, hz.fd 8 (by simp) (by simp)]; exact rC.2.1, ?_, by rw [g0]; exact rC.2.2.2.1, by rw [g0, hz.fd 29 (by simp) (by simp)]; exact rC.2.2.2.2⟩
      rw [g0, g3, b1]
      exact ⟨fun z => absurd z c4, fun z => by omega⟩
    have hL : jRL h5 := by
      have k0 : jK0 h5 = jK0 h2 := by unfold jK0; rw [g3, g4]
      have k1 : jO0 h5 = jO0 h2 := by unfold jO0; rw [k0]
      unfold jRL
      rw [k0, k1]
      exact jCl_m hC4 hf5 (by intro q hq z; simp at z <;> omega)
    have hRR : jRR h5 := jRR_0 (fun k a b => by rw [show h5 19 = h3 19 from (hf5.pl 19 (by simp) (by simp)).trans (hf4 19 (by simp))]; exact h19 k a b) g74
    have h55 : jR5 h5 := by unfold jR5 jG; rw [g5, g6']; exact hG1
    have eKK : jgk (hp 3 1) (hp 3 2) (h5 58) = jK0 h2 := by unfold jK0; rw [b1, b2]; exact jgk_cg ec
    refine ⟨jrI ?_, ⟨jRP_fr rP hz (by simp) (by simp), hD, hC, jRS_fr rS hz (by simp) (by simp), hRR, jRK_fr rK hz (by simp) (by simp), h55, hL, hM5, jRX_fr rX hz (by simp)⟩⟩
    rw [hv, eKK]
    rfl
  · refine jm_Ev.bl 1 (pc' := 9) (A' := [jR 0]) (st' := [jI (-103)]) (hp' := hp) rfl ?_
    refine jE_ret rfl ⟨_, rfl, by omega, rX, ?_⟩
    have w0 : hp 56 6 = 0 := by rw [rD.2.1]; exact rC.2.2.1.mp c4
    refine jm_Ev.mono (c_m_mirror_0 hp rM.1 w0) (fun rv h hh => ?_)
    obtain ⟨rfl, rfl⟩ := hh
    exact ⟨rfl, ⟨jRP_fr rP (jFq.rf (S := []) (F := [])) (by simp) (by simp), jRD_fr rD (jFq.rf (S := []) (F := [])) (by simp) (by simp), jRC_fr (show n ≤ n + 1 by omega) rC (jFq.rf (S := []) (F := [])) (by simp) (by simp), jRS_fr rS (jFq.rf (S := []) (F := [])) (by simp) (by simp), jRR_fr rR (jFq.rf (S := []) (F := [])) (by simp), jRK_fr rK (jFq.rf (S := []) (F := [])) (by simp) (by simp), jR5_fr r5 (jFq.rf (S := []) (F := [])) (by simp), jRL_fr rL (jFq.rf (S := []) (F := [])) (by intro q hq z; simp at z <;> omega), jMC_fr rM (jFq.rf (S := []) (F := [])) (by intro q hq z; simp at z <;> omega) (by simp), jRX_fr rX (jFq.rf (S := []) (F := [])) (by simp)⟩⟩
theorem jwf_cg {w h : Int} {d e : Int → Int} (hd : ∀ j, 0 ≤ j → j < w * h → d j = e j) (n : Nat) (hn : (n : Int) ≤ w * h) : jwf w h d n = jwf w h e n := by
  induction n with
  | zero => rfl
  | succ n ih =>
    have a := ih (by omega)
    have b := hd n (by omega) (by omega)
    have c : jcor w h (jwd d n) = jcor w h (jwd e n) := jcor_cg (fun j j0 j1 => by unfold jwd; split; rfl; exact hd j j0 j1)
    unfold jwf
    rw [a, b, c]
theorem jRK_fr0 {hp h : jm_H} {S : List Nat} {F : List Int} (H : jRK hp) (hf : jFq hp h S F) (e12 : h 0 12 = hp 0 12) (e13 : h 0 13 = hp 0 13) (hS : ∀ q ∈ [7, 8, 13, 14, 15, 16, 76, 77, 56], q ∉ S) (hF : ∀ j ∈ [(33 : Int), (34 : Int), (35 : Int), (36 : Int)], j ∉ F) : jRK h := by
  have e7 : h 7 = hp 7 := hf.pl 7 (hS 7 (by simp)) (by omega)
  have e8 : h 8 = hp 8 := hf.pl 8 (hS 8 (by simp)) (by omega)
  have e13' : h 13 = hp 13 := hf.pl 13 (hS 13 (by simp)) (by omega)
  have e14 : h 14 = hp 14 := hf.pl 14 (hS 14 (by simp)) (by omega)
  have e15 : h 15 = hp 15 := hf.pl 15 (hS 15 (by simp)) (by omega)
  have e16 : h 16 = hp 16 := hf.pl 16 (hS 16 (by simp)) (by omega)
  have e76 : h 76 = hp 76 := hf.pl 76 (hS 76 (by simp)) (by omega)
  have e77 : h 77 = hp 77 := hf.pl 77 (hS 77 (by simp)) (by omega)
  have f33 : h 56 33 = hp 56 33 := hf.fd 33 (hS 56 (by simp)) (hF 33 (by simp))
  have f34 : h 56 34 = hp 56 34 := hf.fd 34 (hS 56 (by simp)) (hF 34 (by simp))
  have f35 : h 56 35 = hp 56 35 := hf.fd 35 (hS 56 (by simp)) (hF 35 (by simp))
  have f36 : h 56 36 = hp 56 36 := hf.fd 36 (hS 56 (by simp)) (hF 36 (by simp))
  unfold jRK jSn jsee jG at *
  simp only [e12, e13, e7, e8, e13', e14, e15, e16, e76, e77, f33, f34, f35, f36]
  exact H
theorem k_weight (xs ls : Int → Int) (n : Int) (hp : jm_H) (hR : jREL xs ls n hp) (hn : n ≤ 1000000) : jm_Ev 110 0 [jR 0] [] hp (jSam 198 [jR 56] xs ls n) := by
  obtain ⟨rP, rD, rC, rS, rR, rK, r5, rL, rM, rX⟩ := id hR
  have wh := jwh rD.1
  have ccr := jcnt_r (hp 4) (hp 3 1 * hp 3 2).toNat
  have wa := rC.2.2.2.1
  refine jm_Ev.bl 2 (pc' := 4) (A' := [jR 0]) (st' := [jI (hp 0 13)]) (hp' := hp) rfl ?_
  refine jE_if_eq rfl (by have := rC.1; have := rC.2.2.2.1; omega) (fun c4 => ?_) (fun c4 => ?_)
  · refine jm_Ev.bl 1 (pc' := 17) (A' := [jR 0]) (st' := [jI (-103)]) (hp' := hp) rfl ?_
    refine jE_ret rfl ⟨_, rfl, by omega, rX, ?_⟩
    refine jm_Ev.mono (c_m_weight_0 hp rM.1 (by rw [rD.2.1, rC.2.2.2.2]; exact Or.inl (rC.2.2.1.mp c4)) (by rw [rC.2.2.2.2]; exact rC.2.2.2.1)) (fun rv h hh => ?_)
    obtain ⟨rfl, rfl⟩ := hh
    exact ⟨rfl, ⟨jRP_fr rP (jFq.rf (S := []) (F := [])) (by simp) (by simp), jRD_fr rD (jFq.rf (S := []) (F := [])) (by simp) (by simp), jRC_fr (show n ≤ n + 1 by omega) rC (jFq.rf (S := []) (F := [])) (by simp) (by simp), jRS_fr rS (jFq.rf (S := []) (F := [])) (by simp) (by simp), jRR_fr rR (jFq.rf (S := []) (F := [])) (by simp), jRK_fr rK (jFq.rf (S := []) (F := [])) (by simp) (by simp), jR5_fr r5 (jFq.rf (S := []) (F := [])) (by simp), jRL_fr rL (jFq.rf (S := []) (F := [])) (by intro q hq z; simp at z <;> omega), jMC_fr rM (jFq.rf (S := []) (F := [])) (by intro q hq z; simp at z <;> omega) (by simp), jRX_fr rX (jFq.rf (S := []) (F := [])) (by simp)⟩⟩
  · refine jm_Ev.bl 3 (pc' := 12) (A' := [jR 0]) (st' := [jI 5, jI (hp 0 14)]) (hp' := hp) rfl ?_
    refine jE_icmp_lt rfl (by have := rC.1; have := rC.2.2.2.1; omega) (by have := rC.1; have := rC.2.2.2.1; omega) (fun c12 => ?_) (fun c12 => ?_)
    · have q0 : ¬ hp 3 1 = 0 := fun z => c4 (rC.2.2.1.mpr z)
      have cp := rD.2.2.2.2.2 q0
      refine jm_Ev.bl 8 (pc' := 32) (A' := [jR 0]) (st' := [jR 3]) (hp' := (jm_hs hp 0 14 ((hp 0 14) + 1))) rfl ?_
      refine jE_callI (vs := [jR 3]) (r := []) (nx := 35) (v := jI (jcnt (hp 4) (hp 3 1 * hp 3 2).toNat)) (hp1 := (jm_hs hp 0 14 ((hp 0 14) + 1))) rfl (c_g_dots_3 (jm_hs hp 0 14 (hp 0 14 + 1)) rD.1) ?_
      refine jm_Ev.bl 1 (pc' := 36) (A' := [jR 0]) (st' := [jI 1, jI (jcnt (hp 4) (hp 3 1 * hp 3 2).toNat)]) (hp' := (jm_hs hp 0 14 ((hp 0 14) + 1))) rfl ?_
      refine jE_icmp_ne rfl (by have := rC.1; have := rC.2.2.2.1; omega) (by have := rC.1; have := rC.2.2.2.1; omega) (fun c36 => ?_) (fun c36 => ?_)
      · refine jm_Ev.bl 1 (pc' := 44) (A' := [jR 0]) (st' := [jR 0]) (hp' := (jm_hs hp 0 14 ((hp 0 14) + 1))) rfl ?_
        refine jE_call (vs := [jR 0]) (r := []) (nx := 47) rfl (c_x_heavy (jm_hs hp 0 14 (hp 0 14 + 1)) rD.1 r5) (fun rv44 h1 hh1 => ?_)
        obtain ⟨rfl, hG1, hf1⟩ := hh1
        have jr := jwf_r (w := hp 3 1) (h := hp 3 2) (d := hp 4) rD.1.2.1 rD.1.2.2.2.1 (hp 3 1 * hp 3 2).toNat
        refine jE_ret rfl ⟨(jwf (hp 3 1) (hp 3 2) (hp 4) (hp 3 1 * hp 3 2).toNat).2, rfl, ⟨by omega, by omega⟩, ⟨(hf1 82 (by simp)).trans rX.1, (hf1 85 (by simp)).trans rX.2⟩, ?_⟩
        have hfz : jFr hp h1 [0, 5, 6, 43, 44, 45, 46, 47, 48, 49, 50, 51, 52, 53, 54, 55] := ((jFr.rf.set (k := 0) (j := 14) (v := hp 0 14 + 1) (S := [0]) (by simp)).tr hf1 (V := [0, 5, 6, 43, 44, 45, 46, 47, 48, 49, 50, 51, 52, 53, 54, 55]) (by simp) (by simp))
        have rM1 : jMC h1 := jMC_fr rM hfz.q (by intro q hq z; simp at z <;> omega) (by simp)
        have f6 : h1 56 6 = hp 3 1 := (congrFun (hfz 56 (by simp)) 6).trans rD.2.1
        have f7 : h1 56 7 = hp 3 2 := (congrFun (hfz 56 (by simp)) 7).trans rD.2.2.1
        have f29 : h1 56 29 = hp 0 14 := (congrFun (hfz 56 (by simp)) 29).trans rC.2.2.2.2
        have f58 : h1 58 = hp 58 := hfz 58 (by simp)
        have tm := c_m_weight h1 rM1.1 (by rw [f6]; exact q0) (by rw [f29]; omega) (by rw [f29]; omega)
        rw [f6, f7, f58] at tm
        refine jm_Ev.mono tm (fun rv h2 hh => ?_)
        obtain ⟨rfl, g29, g58, hM2, hf2⟩ := hh
        have hz : jFq hp h2 ([0, 5, 6, 43, 44, 45, 46, 47, 48, 49, 50, 51, 52, 53, 54, 55] ++ [59, 60, 61, 62, 63, 64, 65, 66, 67, 68, 69, 70, 71, 72]) [10, 11, 26, 29] := hfz.q.tr (hf2.dr g58) (by simp) (by simp) (by simp) (by simp)
        have z0 : h2 0 = h1 0 := hf2.pl 0 (by simp) (by simp)
        have z00 : h2 0 14 = hp 0 14 + 1 := by rw [z0]; exact congrFun (hf1 0 (by simp)) 14
        have z13 : h2 0 13 = hp 0 13 := by rw [z0]; exact congrFun (hf1 0 (by simp)) 13
        have z12 : h2 0 12 = hp 0 12 := by rw [z0]; exact congrFun (hf1 0 (by simp)) 12
        have hC : jRC (n + 1) h2 := by
          refine ⟨by rw [z13]; exact ⟨rC.1.1, by have := rC.1.2; omega⟩, by rw [z13, hz.fd 8 (by simp) (by simp)]; exact rC.2.1, by rw [z13, hz.pl 3 (by simp) (by simp)]; exact rC.2.2.1, by rw [z00]; omega, by rw [g29, z00, f29]⟩
        have hK : jRK h2 := jRK_fr0 rK hz z12 z13 (by simp) (by simp)
        have h55 : jR5 h2 := by unfold jR5 jG; rw [hf2.pl 5 (by simp) (by simp), hf2.pl 6 (by simp) (by simp)]; exact hG1
        refine ⟨jrI ?_, ⟨jRP_fr rP hz (by simp) (by simp), jRD_fr rD hz (by simp) (by simp), hC, jRS_fr rS hz (by simp) (by simp), jRR_fr rR hz (by simp), hK, h55, jRL_fr rL hz (by intro q hq z; simp at z <;> omega), hM2, jRX_fr rX hz (by simp)⟩⟩
        unfold jwgt
        rw [jcnt_cg (d := hp 58) (e := hp 4) _ (fun j a b => rD.2.2.2.1 j a (by omega))]
        rw [if_pos (by omega), jwf_cg rD.2.2.2.1 _ (by omega)]
      · refine jm_Ev.bl 2 (pc' := 47) (A' := [jR 0]) (st' := [jI (-1)]) (hp' := (jm_hs hp 0 14 ((hp 0 14) + 1))) rfl ?_
        refine jE_ret rfl ⟨_, rfl, by omega, rX, ?_⟩
        have hfz : jFr hp (jm_hs hp 0 14 (hp 0 14 + 1)) [0] := (jFr.rf.set (k := 0) (j := 14) (v := hp 0 14 + 1) (S := [0]) (by simp))
        have rM1 : jMC (jm_hs hp 0 14 (hp 0 14 + 1)) := jMC_fr rM hfz.q (by intro q hq z; simp at z <;> omega) (by simp)
        have f6 : (jm_hs hp 0 14 (hp 0 14 + 1)) 56 6 = hp 3 1 := (congrFun (hfz 56 (by simp)) 6).trans rD.2.1
        have f7 : (jm_hs hp 0 14 (hp 0 14 + 1)) 56 7 = hp 3 2 := (congrFun (hfz 56 (by simp)) 7).trans rD.2.2.1
        have f29 : (jm_hs hp 0 14 (hp 0 14 + 1)) 56 29 = hp 0 14 := (congrFun (hfz 56 (by simp)) 29).trans rC.2.2.2.2
        have f58 : (jm_hs hp 0 14 (hp 0 14 + 1)) 58 = hp 58 := hfz 58 (by simp)
        have tm := c_m_weight (jm_hs hp 0 14 (hp 0 14 + 1)) rM1.1 (by rw [f6]; exact q0) (by rw [f29]; omega) (by rw [f29]; omega)
        rw [f6, f7, f58] at tm
        refine jm_Ev.mono tm (fun rv h2 hh => ?_)
        obtain ⟨rfl, g29, g58, hM2, hf2⟩ := hh
        have hz : jFq hp h2 ([0] ++ [59, 60, 61, 62, 63, 64, 65, 66, 67, 68, 69, 70, 71, 72]) [10, 11, 26, 29] := hfz.q.tr (hf2.dr g58) (by simp) (by simp) (by simp) (by simp)
        have z0 : h2 0 = (jm_hs hp 0 14 (hp 0 14 + 1)) 0 := hf2.pl 0 (by simp) (by simp)
        have z00 : h2 0 14 = hp 0 14 + 1 := by rw [z0]; rfl
        have z13 : h2 0 13 = hp 0 13 := by rw [z0]; rfl
        have z12 : h2 0 12 = hp 0 12 := by rw [z0]; rfl
        have hC : jRC (n + 1) h2 := by
          refine ⟨by rw [z13]; exact ⟨rC.1.1, by have := rC.1.2; omega⟩, by rw [z13, hz.fd 8 (by simp) (by simp)]; exact rC.2.1, by rw [z13, hz.pl 3 (by simp) (by simp)]; exact rC.2.2.1, by rw [z00]; omega, by rw [g29, z00, f29]⟩
        have hK : jRK h2 := jRK_fr0 rK hz z12 z13 (by simp) (by simp)
        have h55 : jR5 h2 := by exact jR5_fr r5 hz (by simp)
        refine ⟨jrI ?_, ⟨jRP_fr rP hz (by simp) (by simp), jRD_fr rD hz (by simp) (by simp), hC, jRS_fr rS hz (by simp) (by simp), jRR_fr rR hz (by simp), hK, h55, jRL_fr rL hz (by intro q hq z; simp at z <;> omega), hM2, jRX_fr rX hz (by simp)⟩⟩
        unfold jwgt
        rw [jcnt_cg (d := hp 58) (e := hp 4) _ (fun j a b => rD.2.2.2.1 j a (by omega))]
        rw [if_neg (by omega)]
    · refine jm_Ev.bl 1 (pc' := 17) (A' := [jR 0]) (st' := [jI (-103)]) (hp' := hp) rfl ?_
      refine jE_ret rfl ⟨_, rfl, by omega, rX, ?_⟩
      refine jm_Ev.mono (c_m_weight_0 hp rM.1 (by rw [rD.2.1, rC.2.2.2.2]; right; have := rC.2.2.2.1; omega) (by rw [rC.2.2.2.2]; exact rC.2.2.2.1)) (fun rv h hh => ?_)
      obtain ⟨rfl, rfl⟩ := hh
      exact ⟨rfl, ⟨jRP_fr rP (jFq.rf (S := []) (F := [])) (by simp) (by simp), jRD_fr rD (jFq.rf (S := []) (F := [])) (by simp) (by simp), jRC_fr (show n ≤ n + 1 by omega) rC (jFq.rf (S := []) (F := [])) (by simp) (by simp), jRS_fr rS (jFq.rf (S := []) (F := [])) (by simp) (by simp), jRR_fr rR (jFq.rf (S := []) (F := [])) (by simp), jRK_fr rK (jFq.rf (S := []) (F := [])) (by simp) (by simp), jR5_fr r5 (jFq.rf (S := []) (F := [])) (by simp), jRL_fr rL (jFq.rf (S := []) (F := [])) (by intro q hq z; simp at z <;> omega), jMC_fr rM (jFq.rf (S := []) (F := [])) (by intro q hq z; simp at z <;> omega) (by simp), jRX_fr rX (jFq.rf (S := []) (F := [])) (by simp)⟩⟩
theorem jdrw_r {t s w : Int} (hs : jR32 s) : jR32 (jdrw t s w) := by
  unfold jdrw
  split
  · rename_i z
    have a := jdrc_r s t.toNat
    have b := jdrn_r s t.toNat
    have c := jsd_r (s := s) z.2.2.1 (by omega) (12 * t.toNat)
    unfold jdra
    repeat' split
    all_goals exact ⟨by omega, by omega⟩
  · exact ⟨by omega, by omega⟩
theorem k_drawn (xs ls : Int → Int) (n : Int) (hp : jm_H) (hR : jREL xs ls n hp) (hn : n ≤ 1000000) (t s w : Int) (ht : jR32 t) (hs : jR32 s) (hw : jR32 w) : jm_Ev 113 0 [jR 0, jI t, jI s, jI w, jU, jU, jU, jU] [] hp (jSam 206 [jR 56, jI t, jI s, jI w] xs ls n) := by
  obtain ⟨rP, rD, rC, rS, rR, rK, r5, rL, rM, rX⟩ := id hR
  have wh := jwh rD.1
  refine jm_Ev.mono (c_x_drawn hp t s w ht hs hw r5) (fun rv h1 hh => ?_)
  obtain ⟨rfl, hG1, hf1⟩ := hh
  have rM1 : jMC h1 := jMC_fr rM hf1.q (by intro q hq z; simp at z <;> omega) (by simp)
  refine ⟨_, rfl, jdrw_r hs, ⟨(hf1 82 (by simp)).trans rX.1, (hf1 85 (by simp)).trans rX.2⟩, jm_Ev.mono (c_m_drawn h1 rM1 t s w ht hs hw) (fun rv h2 hh => ?_)⟩
  obtain ⟨rfl, g58, g6, g7, hM2, hf2⟩ := hh
  have hz : jFq hp h2 ([5, 6, 43, 44, 45, 46, 47, 48, 49, 50, 51, 52, 53, 54, 55] ++ [58, 73, 59, 60, 61, 62, 63, 64, 65, 66, 67, 68, 69, 70, 71, 72]) [6, 7, 10, 11, 26, 32] := hf1.q.tr hf2 (by simp) (by simp) (by simp) (by simp)
  have e3 : h2 3 = hp 3 := hz.pl 3 (by simp) (by simp)
  have e4 : h2 4 = hp 4 := hz.pl 4 (by simp) (by simp)
  have hD : jRD h2 := by
    refine ⟨by unfold jG; rw [e3, e4]; exact rD.1, ?_, ?_, ?_, by rw [e3]; exact rD.2.2.2.2.1, by rw [e3, e4]; exact rD.2.2.2.2.2⟩
    · rw [g6, e3, hf1 56 (by simp)]; exact rD.2.1
    · rw [g7, e3, hf1 56 (by simp)]; exact rD.2.2.1
    · rw [e3, e4]
      intro j j0 j1
      rw [g58 j j0 (by omega), hf1 58 (by simp)]
      exact rD.2.2.2.1 j j0 j1
  have h55 : jR5 h2 := by unfold jR5 jG; rw [hf2.pl 5 (by simp) (by simp), hf2.pl 6 (by simp) (by simp)]; exact hG1
  exact ⟨rfl, ⟨jRP_fr rP hz (by simp) (by simp), hD, jRC_fr (show n ≤ n + 1 by omega) rC hz (by simp) (by simp), jRS_fr rS hz (by simp) (by simp), jRR_fr rR hz (by simp), jRK_fr rK hz (by simp) (by simp), h55, jRL_fr rL hz (by intro q hq z; simp at z <;> omega), hM2, jRX_fr rX hz (by simp)⟩⟩
