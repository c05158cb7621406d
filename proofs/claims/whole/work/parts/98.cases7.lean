/-! call by call: blob, image, restore -/
theorem jblob_i {c : Int → Int} {n W H : Int} (hn : 0 ≤ n) (h : jblob c n W H) : 0 < W ∧ 0 < H ∧ ∀ p, 0 ≤ p → p < W * H → 0 ≤ p + p / W ∧ p + p / W < n := by
  obtain ⟨⟨r, x, w, a, b, d, e, f⟩, q, q0, q1, _⟩ := h
  have t := jpst_w hn a b d
  subst e f
  have z := jpl q0 q1 b
  refine ⟨b, by omega, fun p p0 p1 => ?_⟩
  have y := jpl p0 p1 b
  omega
theorem jblob_cg {c d : Int → Int} {n W H : Int} (hn : 0 ≤ n) (hc : ∀ j, 0 ≤ j → j < n → c j = d j) (h : jblob c n W H) : jblob d n W H := by
  have i := jblob_i hn h
  obtain ⟨⟨r, x, w, a, b, e, f, g⟩, q, q0, q1, q2⟩ := h
  have s := (jflt_cg (c := c) (d := d) n.toNat (fun j j0 j1 => hc j j0 (by omega))).1
  have t := i.2.2 q q0 q1
  exact ⟨⟨r, x, w, by rw [← s]; exact a, b, e, f, g⟩, q, q0, q1, by rw [← hc _ t.1 t.2]; exact q2⟩
theorem jblob_u {c : Int → Int} {n W H W' H' : Int} (h : jblob c n W H) (g : jblob c n W' H') : W = W' ∧ H = H' := by
  obtain ⟨⟨r, x, w, a, b, e, f, g1⟩, _⟩ := h
  obtain ⟨⟨r', x', w', a', b', e', f', g1'⟩, _⟩ := g
  rw [a] at a'
  have := Option.some.inj a'
  injection this with i1 i2
  injection i2 with i2 i3
  omega
theorem k_image (xs ls : Int → Int) (n : Int) (hp : jm_H) (hR : jREL xs ls n hp) (hn : n ≤ 1000000) : jm_Ev 114 0 [jR 0] [] hp (jSam 207 [jR 56] xs ls n) := by
  obtain ⟨rP, rD, rC, rS, rR, rK, r5, rL, rM, rX⟩ := id hR
  have wh := jwh rD.1
  have ccr := jcnt_r (hp 4) (hp 3 1 * hp 3 2).toNat
  have gw1 := rD.1.1
  have gw2 := rD.1.2.1
  have gw3 := rD.1.2.2.1
  have gw4 := rD.1.2.2.2.1
  refine jm_Ev.bl 2 (pc' := 4) (A' := [jR 0]) (st' := [jI (hp 0 13)]) (hp' := hp) rfl ?_
  refine jE_if_ne rfl (by have := rC.1; omega) (fun c4 => ?_) (fun c4 => ?_)
  · refine jm_Ev.bl 4 (pc' := 18) (A' := [jR 0]) (st' := [jR 3, jR 7]) (hp' := hp) rfl ?_
    refine jE_call (vs := [jR 7, jR 3]) (r := []) (nx := 21) rfl (c_g_copy_7_3 hp) (fun rv18 h1 hh1 => ?_)
    obtain ⟨rfl, a1, a2, a3, hf1⟩ := hh1
    refine jm_Ev.bl 4 (pc' := 29) (A' := [jR 0]) (st' := [jR 9, jR 13]) (hp' := h1) rfl ?_
    refine jE_call (vs := [jR 13, jR 9]) (r := []) (nx := 32) rfl (c_s_copy_13 h1 (fun j j0 j1 => by rw [hf1 12 (by simp)]; exact rS.1.2.2.2.2 j j0 j1)) (fun rv29 h2 hh2 => ?_)
    obtain ⟨rfl, b1, b2, b3, b4, hf2⟩ := hh2
    rw [hf1 9 (by simp)] at b1
    rw [hf1 10 (by simp)] at b2
    rw [hf1 11 (by simp)] at b3
    rw [hf1 12 (by simp)] at b4
    have hf3 : jFr hp h2 [7, 8, 13, 14, 15, 16] := hf1.tr hf2 (by simp) (by simp)
    have c7 : h2 7 = h1 7 := hf2 7 (by simp)
    have c8 : h2 8 = h1 8 := hf2 8 (by simp)
    refine jm_Ev.bl 3 (pc' := 37) (A' := [jR 0]) (st' := []) (hp' := (jm_hs h2 0 12 1)) rfl ?_
    have hG4 : jG (jm_hs h2 0 12 1) 3 4 := by show jG h2 3 4; unfold jG; rw [hf3 3 (by simp), hf3 4 (by simp)]; exact rD.1
    have eCd : jcnt ((jm_hs h2 0 12 1) 4) ((jm_hs h2 0 12 1) 3 1 * (jm_hs h2 0 12 1) 3 2).toNat = (jcnt (hp 4) (hp 3 1 * hp 3 2).toNat) := by show jcnt (h2 4) (h2 3 1 * h2 3 2).toNat = _; rw [hf3 3 (by simp), hf3 4 (by simp)]
    refine jm_Ev.bl 2 (pc' := 41) (A' := [jR 0]) (st' := [jR 3]) (hp' := (jm_hs h2 0 12 1)) rfl ?_
    refine jE_callI (vs := [jR 3]) (r := []) (nx := 44) (v := jI (jcnt (hp 4) (hp 3 1 * hp 3 2).toNat)) (hp1 := (jm_hs h2 0 12 1)) rfl (eCd ▸ c_g_dots_3 (jm_hs h2 0 12 1) hG4) ?_
    refine jE_ret rfl ⟨_, rfl, ⟨by omega, by omega⟩, ⟨(hf3 82 (by simp)).trans rX.1, (hf3 85 (by simp)).trans rX.2⟩, ?_⟩
    have q0 : ¬ hp 3 1 = 0 := fun z => c4 (rC.2.2.1.mpr z)
    have q1 : ¬ hp 3 2 = 0 := fun z => q0 (rD.2.2.2.2.1.mpr z)
    have l6 : (jm_hs h2 0 12 1) 56 6 = hp 3 1 := (congrFun (hf3 56 (by simp)) 6).trans rD.2.1
    have hMI : jMG (jm_hs h2 0 12 1) := jMG_fr rM.1 ((hf3.q.wk (V := [0, 7, 8, 13, 14, 15, 16]) (E := []) (by simp) (by simp)).set (by simp)) (by simp) (by simp) (by simp) (by simp)
    show jm_Ev 207 0 [jR 56] [] (jm_hs h2 0 12 1) _
    refine jm_Ev.bl 1 (pc' := 1) (A' := [jR 56]) (st' := [jR 56]) (hp' := (jm_hs h2 0 12 1)) rfl ?_
    refine jE_callI (vs := [jR 56]) (r := []) (nx := 4) (v := jI (jb (decide (hp 3 1 = 0)))) (hp1 := (jm_hs h2 0 12 1)) rfl (l6 ▸ c_m_lacks (jm_hs h2 0 12 1) hMI) ?_
    refine jE_ifd_eq rfl (fun m4 => ?_) (fun m4 => ?_)
    · refine jm_Ev.bl 4 (pc' := 18) (A' := [jR 56]) (st' := [jR 76, jR 58]) (hp' := (jm_hs h2 0 12 1)) rfl ?_
      refine jE_call (vs := [jR 58, jR 76]) (r := []) (nx := 21) rfl (c_m_copy_58_76 (jm_hs h2 0 12 1)) (fun rv18 m1 mm1 => ?_)
      obtain ⟨rfl, d1, g1⟩ := mm1
      refine jm_Ev.bl 4 (pc' := 29) (A' := [jR 56]) (st' := [jR 77, jR 75]) (hp' := m1) rfl ?_
      refine jE_call (vs := [jR 75, jR 77]) (r := []) (nx := 32) rfl (c_m_copy_75_77 m1) (fun rv29 m2 mm2 => ?_)
      obtain ⟨rfl, d2, g2⟩ := mm2
      have g3 : jFq (jm_hs h2 0 12 1) m2 [76, 77] [] := g1.tr g2 (by simp) (by simp) (by simp) (by simp)
      have z6 : m2 56 6 = hp 3 1 := (g3.fd 6 (by simp) (by simp)).trans ((congrFun (hf3 56 (by simp)) 6).trans rD.2.1)
      have z7 : m2 56 7 = hp 3 2 := (g3.fd 7 (by simp) (by simp)).trans ((congrFun (hf3 56 (by simp)) 7).trans rD.2.2.1)
      have z30 : m2 56 30 = hp 9 3 := (g3.fd 30 (by simp) (by simp)).trans ((congrFun (hf3 56 (by simp)) 30).trans rS.2.1)
      have z8 : m2 56 8 = hp 0 13 := (g3.fd 8 (by simp) (by simp)).trans ((congrFun (hf3 56 (by simp)) 8).trans rC.2.1)
      have z58 : m2 58 = hp 58 := (g3.pl 58 (by simp) (by simp)).trans (hf3 58 (by simp))
      refine jm_Ev.bl 17 (pc' := 65) (A' := [jR 56]) (st' := [jR 56]) (hp' := (jm_hs (jm_hs (jm_hs (jm_hs m2 56 34 (m2 56 6)) 56 35 (m2 56 7)) 56 36 (m2 56 30)) 56 33 (m2 56 8))) rfl ?_
      refine jE_callI (vs := [jR 56]) (r := []) (nx := 68) (v := jI (jcnt (hp 4) (hp 3 1 * hp 3 2).toNat)) (hp1 := (jm_hs (jm_hs (jm_hs (jm_hs m2 56 34 (m2 56 6)) 56 35 (m2 56 7)) 56 36 (m2 56 30)) 56 33 (m2 56 8))) rfl ((show jcnt ((jm_hs (jm_hs (jm_hs (jm_hs m2 56 34 (m2 56 6)) 56 35 (m2 56 7)) 56 36 (m2 56 30)) 56 33 (m2 56 8)) 58) ((jm_hs (jm_hs (jm_hs (jm_hs m2 56 34 (m2 56 6)) 56 35 (m2 56 7)) 56 36 (m2 56 30)) 56 33 (m2 56 8)) 56 6 * (jm_hs (jm_hs (jm_hs (jm_hs m2 56 34 (m2 56 6)) 56 35 (m2 56 7)) 56 36 (m2 56 30)) 56 33 (m2 56 8)) 56 7).toNat = (jcnt (hp 4) (hp 3 1 * hp 3 2).toNat) by show jcnt (m2 58) (m2 56 6 * m2 56 7).toNat = _; rw [z58, z6, z7]; exact jcnt_cg _ (fun j a b => rD.2.2.2.1 j a (by omega))) ▸ c_m_dotMany (jm_hs (jm_hs (jm_hs (jm_hs m2 56 34 (m2 56 6)) 56 35 (m2 56 7)) 56 36 (m2 56 30)) 56 33 (m2 56 8)) (show jMG (jm_hs (jm_hs (jm_hs (jm_hs m2 56 34 (m2 56 6)) 56 35 (m2 56 7)) 56 36 (m2 56 30)) 56 33 (m2 56 8)) from ⟨by show 0 ≤ m2 56 6; omega, by show m2 56 6 ≤ 5; omega, by show 0 ≤ m2 56 7; omega, by show m2 56 7 ≤ 5; omega, fun j a b => by show -1 ≤ m2 58 j ∧ m2 58 j ≤ 4; rw [z58]; exact rM.1.2.2.2.2 j a b⟩)) ?_
      have hz : jFq hp (jm_hs (jm_hs (jm_hs (jm_hs m2 56 34 (m2 56 6)) 56 35 (m2 56 7)) 56 36 (m2 56 30)) 56 33 (m2 56 8)) [0, 7, 8, 13, 14, 15, 16, 76, 77] [33, 34, 35, 36] := ((((((hf3.q.wk (V := [0, 7, 8, 13, 14, 15, 16, 76, 77]) (E := [33, 34, 35, 36]) (by simp) (by simp)).set (k := 0) (j := 12) (v := 1) (by simp)).tr g3 (V := [0, 7, 8, 13, 14, 15, 16, 76, 77]) (E := [33, 34, 35, 36]) (by simp) (by simp) (by simp) (by simp)).sf (by simp)).sf (by simp)).sf (by simp)).sf (by simp)
      have y0 : (jm_hs (jm_hs (jm_hs (jm_hs m2 56 34 (m2 56 6)) 56 35 (m2 56 7)) 56 36 (m2 56 30)) 56 33 (m2 56 8)) 0 = (jm_hs h2 0 12 1) 0 := g3.pl 0 (by simp) (by simp)
      have y13 : (jm_hs (jm_hs (jm_hs (jm_hs m2 56 34 (m2 56 6)) 56 35 (m2 56 7)) 56 36 (m2 56 30)) 56 33 (m2 56 8)) 0 13 = hp 0 13 := by rw [y0]; exact congrFun (hf3 0 (by simp)) 13
      have y14 : (jm_hs (jm_hs (jm_hs (jm_hs m2 56 34 (m2 56 6)) 56 35 (m2 56 7)) 56 36 (m2 56 30)) 56 33 (m2 56 8)) 0 14 = hp 0 14 := by rw [y0]; exact congrFun (hf3 0 (by simp)) 14
      have y12 : (jm_hs (jm_hs (jm_hs (jm_hs m2 56 34 (m2 56 6)) 56 35 (m2 56 7)) 56 36 (m2 56 30)) 56 33 (m2 56 8)) 0 12 = 1 := by rw [y0]; rfl
      have y7 : (jm_hs (jm_hs (jm_hs (jm_hs m2 56 34 (m2 56 6)) 56 35 (m2 56 7)) 56 36 (m2 56 30)) 56 33 (m2 56 8)) 7 = h1 7 := (g3.pl 7 (by simp) (by simp)).trans c7
      have y8 : (jm_hs (jm_hs (jm_hs (jm_hs m2 56 34 (m2 56 6)) 56 35 (m2 56 7)) 56 36 (m2 56 30)) 56 33 (m2 56 8)) 8 = h1 8 := (g3.pl 8 (by simp) (by simp)).trans c8
      have y13p : (jm_hs (jm_hs (jm_hs (jm_hs m2 56 34 (m2 56 6)) 56 35 (m2 56 7)) 56 36 (m2 56 30)) 56 33 (m2 56 8)) 13 = h2 13 := g3.pl 13 (by simp) (by simp)
      have y14p : (jm_hs (jm_hs (jm_hs (jm_hs m2 56 34 (m2 56 6)) 56 35 (m2 56 7)) 56 36 (m2 56 30)) 56 33 (m2 56 8)) 14 = h2 14 := g3.pl 14 (by simp) (by simp)
      have y15p : (jm_hs (jm_hs (jm_hs (jm_hs m2 56 34 (m2 56 6)) 56 35 (m2 56 7)) 56 36 (m2 56 30)) 56 33 (m2 56 8)) 15 = h2 15 := g3.pl 15 (by simp) (by simp)
      have y16p : (jm_hs (jm_hs (jm_hs (jm_hs m2 56 34 (m2 56 6)) 56 35 (m2 56 7)) 56 36 (m2 56 30)) 56 33 (m2 56 8)) 16 = h2 16 := g3.pl 16 (by simp) (by simp)
      have y76 : ∀ j, 0 ≤ j → j < 25 → (jm_hs (jm_hs (jm_hs (jm_hs m2 56 34 (m2 56 6)) 56 35 (m2 56 7)) 56 36 (m2 56 30)) 56 33 (m2 56 8)) 76 j = hp 58 j := fun j a b => by
        show m2 76 j = _
        rw [g2.pl 76 (by simp) (by simp), d1 j a b]
        exact congrFun (hf3 58 (by simp)) j
      have y77 : ∀ j, 0 ≤ j → j < 18 → (jm_hs (jm_hs (jm_hs (jm_hs m2 56 34 (m2 56 6)) 56 35 (m2 56 7)) 56 36 (m2 56 30)) 56 33 (m2 56 8)) 77 j = hp 75 j := fun j a b => by
        show m2 77 j = _
        rw [d2 j a b, g1.pl 75 (by simp) (by simp)]
        exact congrFun (hf3 75 (by simp)) j
      have hC : jRC (n + 1) (jm_hs (jm_hs (jm_hs (jm_hs m2 56 34 (m2 56 6)) 56 35 (m2 56 7)) 56 36 (m2 56 30)) 56 33 (m2 56 8)) := by
        refine ⟨by rw [y13]; exact ⟨rC.1.1, by have := rC.1.2; omega⟩, by rw [y13]; exact z8, by rw [y13, hz.pl 3 (by simp) (by simp)]; exact rC.2.2.1, by rw [y14]; exact rC.2.2.2.1, by rw [y14, hz.fd 29 (by simp) (by simp)]; exact rC.2.2.2.2⟩
      have hK : jRK (jm_hs (jm_hs (jm_hs (jm_hs m2 56 34 (m2 56 6)) 56 35 (m2 56 7)) 56 36 (m2 56 30)) 56 33 (m2 56 8)) := by
        refine ⟨Or.inr y12, ?_, ?_, ?_, ?_, ?_⟩
        · unfold jSn
          rw [y13p, y14p, y15p, y16p, b1]
          exact ⟨rS.1.1, rS.1.2.1, fun j a b => by rw [b2 j a b]; exact rS.1.2.2.1 j a b, fun j a b => by rw [b3 j a b]; exact rS.1.2.2.2.1 j a b, fun j a b => by rw [b4 j a b]; exact rS.1.2.2.2.2 j a b⟩
        · unfold jG
          rw [y7, y8, a1, a2]
          exact ⟨rD.1.1, rD.1.2.1, rD.1.2.2.1, rD.1.2.2.2.1, fun j a b => by rw [a3 j a b]; exact rD.1.2.2.2.2 j a b⟩
        · rw [y13, show (jm_hs (jm_hs (jm_hs (jm_hs m2 56 34 (m2 56 6)) 56 35 (m2 56 7)) 56 36 (m2 56 30)) 56 33 (m2 56 8)) 56 33 = hp 0 13 from z8]; have := rC.1.1; omega
        · rw [y12, y13, show (jm_hs (jm_hs (jm_hs (jm_hs m2 56 34 (m2 56 6)) 56 35 (m2 56 7)) 56 36 (m2 56 30)) 56 33 (m2 56 8)) 56 33 = hp 0 13 from z8]; exact ⟨fun _ => rfl, fun _ => rfl⟩
        · intro _
          refine ⟨⟨by rw [y13]; exact c4, by rw [y7, a1]; exact q0, by rw [y7, a2]; exact q1, ?_⟩, ?_, ?_, ?_, ?_, ?_, ?_⟩
          · rw [y7, y8, a1, a2, jcnt_cg (d := h1 8) (e := hp 4) _ (fun j a b => a3 j a (by omega))]
            exact rD.2.2.2.2.2 q0
          · rw [y7, a1]; exact z6
          · rw [y7, a2]; exact z7
          · rw [y7, y8, a1, a2]
            intro j a b
            rw [y76 j a (by omega), a3 j a (by omega)]
            exact rD.2.2.2.1 j a b
          · intro j a b
            rw [y76 j a b]
            exact rM.1.2.2.2.2 j a b
          · rw [y13p, b1]; exact z30
          · rw [y13p, y14p, y15p, y16p, b1]
            intro j a b
            have s6 := rS.1.2.1
            rw [y77 _ (by omega) (by omega), y77 _ (by omega) (by omega), y77 _ (by omega) (by omega), b2 j a (by omega), b3 j a (by omega), b4 j a (by omega)]
            exact rS.2.2 j a b
      exact jE_ret rfl ⟨rfl, ⟨jRP_fr rP hz (by simp) (by simp), jRD_fr rD hz (by simp) (by simp), hC, jRS_fr rS hz (by simp) (by simp), jRR_fr rR hz (by simp), hK, jR5_fr r5 hz (by simp), jRL_fr rL hz (by intro q hq z; simp at z <;> omega), jMC_fr rM hz (by intro q hq z; simp at z <;> omega) (by simp), jRX_fr rX hz (by simp)⟩⟩
    · exact absurd m4 q0
  · refine jm_Ev.bl 1 (pc' := 9) (A' := [jR 0]) (st' := [jI (-103)]) (hp' := hp) rfl ?_
    refine jE_ret rfl ⟨_, rfl, by omega, rX, ?_⟩
    have w0 : hp 56 6 = 0 := by rw [rD.2.1]; exact rC.2.2.1.mp c4
    show jm_Ev 207 0 [jR 56] [] hp _
    refine jm_Ev.bl 1 (pc' := 1) (A' := [jR 56]) (st' := [jR 56]) (hp' := hp) rfl ?_
    refine jE_callI (vs := [jR 56]) (r := []) (nx := 4) (v := jI (jb (decide (hp 56 6 = 0)))) (hp1 := hp) rfl (c_m_lacks hp rM.1) ?_
    refine jE_ifd_eq rfl (fun m4 => ?_) (fun m4 => ?_)
    · exact absurd w0 m4
    · refine jm_Ev.bl 1 (pc' := 9) (A' := [jR 56]) (st' := [jI (-103)]) (hp' := hp) rfl ?_
      exact jE_ret rfl ⟨rfl, ⟨jRP_fr rP (jFq.rf (S := []) (F := [])) (by simp) (by simp), jRD_fr rD (jFq.rf (S := []) (F := [])) (by simp) (by simp), jRC_fr (show n ≤ n + 1 by omega) rC (jFq.rf (S := []) (F := [])) (by simp) (by simp), jRS_fr rS (jFq.rf (S := []) (F := [])) (by simp) (by simp), jRR_fr rR (jFq.rf (S := []) (F := [])) (by simp), jRK_fr rK (jFq.rf (S := []) (F := [])) (by simp) (by simp), jR5_fr r5 (jFq.rf (S := []) (F := [])) (by simp), jRL_fr rL (jFq.rf (S := []) (F := [])) (by intro q hq z; simp at z <;> omega), jMC_fr rM (jFq.rf (S := []) (F := [])) (by intro q hq z; simp at z <;> omega) (by simp), jRX_fr rX (jFq.rf (S := []) (F := [])) (by simp)⟩⟩
theorem k_restore (xs ls : Int → Int) (n : Int) (hp : jm_H) (hR : jREL xs ls n hp) (hn : n ≤ 1000000) : jm_Ev 115 0 [jR 0] [] hp (jSam 208 [jR 56] xs ls n) := by
  obtain ⟨rP, rD, rC, rS, rR, rK, r5, rL, rM, rX⟩ := id hR
  obtain ⟨kB, kS, kG, kR, kI, kX⟩ := id rK
  have wh7 := jm_mulb kG.1 kG.2.1 kG.2.2.1 kG.2.2.2.1
  have ccr := jcnt_r (hp 8) (hp 7 1 * hp 7 2).toNat
  have gw1 := kG.1
  have gw2 := kG.2.1
  have gw3 := kG.2.2.1
  have gw4 := kG.2.2.2.1
  refine jm_Ev.bl 2 (pc' := 4) (A' := [jR 0]) (st' := [jI (hp 0 12)]) (hp' := hp) rfl ?_
  refine jE_if_ne rfl (by omega) (fun c4 => ?_) (fun c4 => ?_)
  · have kk : hp 0 12 = 1 := by rcases kB with z | z; exact absurd z c4; exact z
    have kF := kX kk
    refine jm_Ev.bl 4 (pc' := 18) (A' := [jR 0]) (st' := [jR 7, jR 3]) (hp' := hp) rfl ?_
    refine jE_call (vs := [jR 3, jR 7]) (r := []) (nx := 21) rfl (c_g_copy_3_7 hp) (fun rv18 h1 hh1 => ?_)
    obtain ⟨rfl, a1, a2, a3, hf1⟩ := hh1
    refine jm_Ev.bl 4 (pc' := 29) (A' := [jR 0]) (st' := [jR 13, jR 9]) (hp' := h1) rfl ?_
    refine jE_call (vs := [jR 9, jR 13]) (r := []) (nx := 32) rfl (c_s_copy_9 h1 (fun j j0 j1 => by rw [hf1 16 (by simp)]; exact kS.2.2.2.2 j j0 j1)) (fun rv29 h2 hh2 => ?_)
    obtain ⟨rfl, b1, b2, b3, b4, hf2⟩ := hh2
    rw [hf1 13 (by simp)] at b1
    rw [hf1 14 (by simp)] at b2
    rw [hf1 15 (by simp)] at b3
    rw [hf1 16 (by simp)] at b4
    have c3 : h2 3 = h1 3 := hf2 3 (by simp)
    have c4' : h2 4 = h1 4 := hf2 4 (by simp)
    have hG2 : jG h2 3 4 := by
      unfold jG
      rw [c3, c4', a1, a2]
      exact ⟨kG.1, kG.2.1, kG.2.2.1, kG.2.2.2.1, fun j a b => by rw [a3 j a b]; exact kG.2.2.2.2 j a b⟩
    refine jm_Ev.bl 1 (pc' := 33) (A' := [jR 0]) (st' := [jR 0]) (hp' := h2) rfl ?_
    refine jE_call (vs := [jR 0]) (r := []) (nx := 36) rfl (c_x_dotsChanged h2 hG2) (fun rv33 h3 hh3 => ?_)
    obtain ⟨rfl, h19, hC3, hf3⟩ := hh3
    have hfz : jFr hp h3 [3, 4, 9, 10, 11, 12, 19, 20, 21, 22, 23, 24, 25, 26, 27, 28, 29, 30, 31, 34, 35] := (hf1.tr hf2 (V := [3, 4, 9, 10, 11, 12]) (by simp) (by simp)).tr hf3 (by simp) (by simp)
    have e3 : h3 3 = h1 3 := (hf3 3 (by simp)).trans c3
    have e4 : h3 4 = h1 4 := (hf3 4 (by simp)).trans c4'
    have hG3 : jG h3 3 4 := by unfold jG; rw [hf3 3 (by simp), hf3 4 (by simp)]; exact hG2
    have eCd : jcnt (h3 4) (h3 3 1 * h3 3 2).toNat = (jcnt (hp 8) (hp 7 1 * hp 7 2).toNat) := by rw [e3, e4, a1, a2]; exact jcnt_cg _ (fun j a b => a3 j a (by omega))
    refine jm_Ev.bl 2 (pc' := 40) (A' := [jR 0]) (st' := [jR 3]) (hp' := h3) rfl ?_
    refine jE_callI (vs := [jR 3]) (r := []) (nx := 43) (v := jI (jcnt (hp 8) (hp 7 1 * hp 7 2).toNat)) (hp1 := h3) rfl (eCd ▸ c_g_dots_3 h3 hG3) ?_
    refine jE_ret rfl ⟨_, rfl, ⟨by omega, by omega⟩, ⟨(hfz 82 (by simp)).trans rX.1, (hfz 85 (by simp)).trans rX.2⟩, ?_⟩
    have l33 : h3 56 33 = hp 0 13 := (congrFun (hfz 56 (by simp)) 33).trans (kI.mp kk)
    have l8 : h3 56 8 = hp 0 13 := (congrFun (hfz 56 (by simp)) 8).trans rC.2.1
    show jm_Ev 208 0 [jR 56] [] h3 _
    refine jm_Ev.bl 4 (pc' := 8) (A' := [jR 56]) (st' := [jI (h3 56 8), jI (h3 56 33)]) (hp' := h3) rfl ?_
    rw [l33, l8]
    refine jE_icmp_eq rfl (by have := rC.1; omega) (by have := rC.1; omega) (fun m8 => ?_) (fun m8 => ?_)
    · refine jm_Ev.bl 4 (pc' := 22) (A' := [jR 56]) (st' := [jR 58, jR 76]) (hp' := h3) rfl ?_
      refine jE_call (vs := [jR 76, jR 58]) (r := []) (nx := 25) rfl (c_m_copy_76_58 h3) (fun rv22 m1 mm1 => ?_)
      obtain ⟨rfl, d1, g1⟩ := mm1
      refine jm_Ev.bl 4 (pc' := 33) (A' := [jR 56]) (st' := [jR 75, jR 77]) (hp' := m1) rfl ?_
      refine jE_call (vs := [jR 77, jR 75]) (r := []) (nx := 36) rfl (c_m_copy_77_75 m1) (fun rv33 m2 mm2 => ?_)
      obtain ⟨rfl, d2, g2⟩ := mm2
      have g3 : jFq h3 m2 [58, 75] [] := g1.tr g2 (by simp) (by simp) (by simp) (by simp)
      have z34 : m2 56 34 = hp 7 1 := (g3.fd 34 (by simp) (by simp)).trans ((congrFun (hfz 56 (by simp)) 34).trans kF.2.1)
      have z35 : m2 56 35 = hp 7 2 := (g3.fd 35 (by simp) (by simp)).trans ((congrFun (hfz 56 (by simp)) 35).trans kF.2.2.1)
      have z36 : m2 56 36 = hp 13 3 := (g3.fd 36 (by simp) (by simp)).trans ((congrFun (hfz 56 (by simp)) 36).trans kF.2.2.2.2.2.1)
      refine jm_Ev.bl 13 (pc' := 61) (A' := [jR 56]) (st' := [jR 56]) (hp' := (jm_hs (jm_hs (jm_hs m2 56 6 (m2 56 34)) 56 7 (m2 56 35)) 56 30 (m2 56 36))) rfl ?_
      refine jE_call (vs := [jR 56]) (r := []) (nx := 64) rfl (c_m_changed (jm_hs (jm_hs (jm_hs m2 56 6 (m2 56 34)) 56 7 (m2 56 35)) 56 30 (m2 56 36))) (fun rv61 m3 mm3 => ?_)
      obtain ⟨rfl, _, t10, t74, g4⟩ := mm3
      have u6 : m3 56 6 = hp 7 1 := (g4.fd 6 (by simp) (by simp)).trans z34
      have u7 : m3 56 7 = hp 7 2 := (g4.fd 7 (by simp) (by simp)).trans z35
      have u30 : m3 56 30 = hp 13 3 := (g4.fd 30 (by simp) (by simp)).trans z36
      have u58 : ∀ j, 0 ≤ j → j < 25 → m3 58 j = hp 76 j := fun j a b => by
        rw [g4.pl 58 (by simp) (by simp)]
        show m2 58 j = _
        rw [g2.pl 58 (by simp) (by simp), d1 j a b]
        exact congrFun (hfz 76 (by simp)) j
      have u75 : ∀ j, 0 ≤ j → j < 18 → m3 75 j = hp 77 j := fun j a b => by
        rw [g4.pl 75 (by simp) (by simp)]
        show m2 75 j = _
        rw [d2 j a b, g1.pl 77 (by simp) (by simp)]
        exact congrFun (hfz 77 (by simp)) j
      have hM3 : jMG m3 := ⟨by omega, by omega, by omega, by omega, fun j a b => by rw [u58 j a b]; exact kF.2.2.2.2.1 j a b⟩
      have hzz : jFq h3 m3 [58, 74, 75] [6, 7, 10, 30] := ((((g3.wk (V := [58, 74, 75]) (E := [6, 7, 10, 30]) (by simp) (by simp)).sf (by simp)).sf (by simp)).sf (by simp)).tr g4 (by simp) (by simp) (by simp) (by simp)
      have hz : jFq hp m3 [3, 4, 9, 10, 11, 12, 19, 20, 21, 22, 23, 24, 25, 26, 27, 28, 29, 30, 31, 34, 35, 58, 74, 75] [6, 7, 10, 30] := hfz.q.tr hzz (by simp) (by simp) (by simp) (by simp)
      have eCm : jcnt (m3 58) (m3 56 6 * m3 56 7).toNat = (jcnt (hp 8) (hp 7 1 * hp 7 2).toNat) := by rw [u6, u7]; exact jcnt_cg _ (fun j a b => by rw [u58 j a (by omega)]; exact kF.2.2.2.1 j a (by omega))
      refine jm_Ev.bl 1 (pc' := 65) (A' := [jR 56]) (st' := [jR 56]) (hp' := m3) rfl ?_
      refine jE_callI (vs := [jR 56]) (r := []) (nx := 68) (v := jI (jcnt (hp 8) (hp 7 1 * hp 7 2).toNat)) (hp1 := m3) rfl (eCm ▸ c_m_dotMany m3 hM3) ?_
      have y3 : m3 3 = h1 3 := (hzz.pl 3 (by simp) (by simp)).trans e3
      have y4 : m3 4 = h1 4 := (hzz.pl 4 (by simp) (by simp)).trans e4
      have y0 : m3 0 = hp 0 := hz.pl 0 (by simp) (by simp)
      have y9 : m3 9 = h2 9 := (hzz.pl 9 (by simp) (by simp)).trans (hf3 9 (by simp))
      have y10 : m3 10 = h2 10 := (hzz.pl 10 (by simp) (by simp)).trans (hf3 10 (by simp))
      have y11 : m3 11 = h2 11 := (hzz.pl 11 (by simp) (by simp)).trans (hf3 11 (by simp))
      have y12 : m3 12 = h2 12 := (hzz.pl 12 (by simp) (by simp)).trans (hf3 12 (by simp))
      have hD : jRD m3 := by
        refine ⟨by unfold jG; rw [y3, y4, ← e3, ← e4]; exact hG3, by rw [y3, a1]; exact u6, by rw [y3, a2]; exact u7, ?_, ?_, ?_⟩
        · rw [y3, y4, a1, a2]
          intro j a b
          rw [u58 j a (by omega), a3 j a (by omega)]
          exact kF.2.2.2.1 j a b
        · rw [y3, a1, a2]; exact ⟨fun z => absurd z kF.1.2.1, fun z => absurd z kF.1.2.2.1⟩
        · rw [y3, y4, a1, a2, jcnt_cg (d := h1 4) (e := hp 8) _ (fun j a b => a3 j a (by omega))]
          intro _
          exact kF.1.2.2.2
      have hC : jRC (n + 1) m3 := by
        refine ⟨by rw [y0]; exact ⟨rC.1.1, by have := rC.1.2; omega⟩, by rw [y0, hz.fd 8 (by simp) (by simp)]; exact rC.2.1, ?_, by rw [y0]; exact rC.2.2.2.1, by rw [y0, hz.fd 29 (by simp) (by simp)]; exact rC.2.2.2.2⟩
        rw [y0, y3, a1]
        exact ⟨fun z => absurd z kF.1.1, fun z => absurd z kF.1.2.1⟩
      have hS : jRS m3 := by
        refine ⟨?_, ?_, ?_⟩
        · unfold jSn
          rw [y9, y10, y11, y12, b1]
          exact ⟨kS.1, kS.2.1, fun j a b => by rw [b2 j a b]; exact kS.2.2.1 j a b, fun j a b => by rw [b3 j a b]; exact kS.2.2.2.1 j a b, fun j a b => by rw [b4 j a b]; exact kS.2.2.2.2 j a b⟩
        · rw [y9, b1]; exact u30
        · rw [y9, y10, y11, y12, b1]
          intro j a b
          have s6 := kS.2.1
          rw [u75 _ (by omega) (by omega), u75 _ (by omega) (by omega), u75 _ (by omega) (by omega), b2 j a (by omega), b3 j a (by omega), b4 j a (by omega)]
          exact kF.2.2.2.2.2.2 j a b
      have hL : jRL m3 := by
        have k0 : jK0 m3 = jK0 h2 := by unfold jK0; rw [y3, y4, c3, c4']
        have k1 : jO0 m3 = jO0 h2 := by unfold jO0; rw [k0]
        unfold jRL
        rw [k0, k1]
        exact jCl_m hC3 hzz (by intro q hq z; simp at z <;> omega)
      have hRR : jRR m3 := jRR_0 (fun k a b => by rw [show m3 19 = h3 19 from hzz.pl 19 (by simp) (by simp)]; exact h19 k a b) t74
      have hMM : jMC m3 := ⟨hM3, Or.inr t10, fun z => by omega⟩
      exact jE_ret rfl ⟨rfl, ⟨jRP_fr rP hz (by simp) (by simp), hD, hC, hS, hRR, jRK_fr rK hz (by simp) (by simp), jR5_fr r5 hz (by simp), hL, hMM, jRX_fr rX hz (by simp)⟩⟩
    · exact absurd rfl m8
  · refine jm_Ev.bl 1 (pc' := 9) (A' := [jR 0]) (st' := [jI (-103)]) (hp' := hp) rfl ?_
    refine jE_ret rfl ⟨_, rfl, by omega, rX, ?_⟩
    show jm_Ev 208 0 [jR 56] [] hp _
    refine jm_Ev.bl 4 (pc' := 8) (A' := [jR 56]) (st' := [jI (hp 56 8), jI (hp 56 33)]) (hp' := hp) rfl ?_
    refine jE_icmp_eq rfl (by have := rC.2.1; have := rC.1; omega) (by have := rC.2.1; have := rC.1; omega) (fun m8 => ?_) (fun m8 => ?_)
    · exact absurd (kI.mpr (by rw [← rC.2.1]; exact m8)) (by omega)
    · refine jm_Ev.bl 1 (pc' := 13) (A' := [jR 56]) (st' := [jI (-103)]) (hp' := hp) rfl ?_
      exact jE_ret rfl ⟨rfl, ⟨jRP_fr rP (jFq.rf (S := []) (F := [])) (by simp) (by simp), jRD_fr rD (jFq.rf (S := []) (F := [])) (by simp) (by simp), jRC_fr (show n ≤ n + 1 by omega) rC (jFq.rf (S := []) (F := [])) (by simp) (by simp), jRS_fr rS (jFq.rf (S := []) (F := [])) (by simp) (by simp), jRR_fr rR (jFq.rf (S := []) (F := [])) (by simp), jRK_fr rK (jFq.rf (S := []) (F := [])) (by simp) (by simp), jR5_fr r5 (jFq.rf (S := []) (F := [])) (by simp), jRL_fr rL (jFq.rf (S := []) (F := [])) (by intro q hq z; simp at z <;> omega), jMC_fr rM (jFq.rf (S := []) (F := [])) (by intro q hq z; simp at z <;> omega) (by simp), jRX_fr rX (jFq.rf (S := []) (F := [])) (by simp)⟩⟩
