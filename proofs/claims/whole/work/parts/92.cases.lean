/-! call by call: letter, blank, fault, dot, as, racked, rack, see, forget -/
theorem k_letter_f (xs ls : Int → Int) (n : Int) (hp : jm_H) (hR : jREL xs ls n hp) (hn : n ≤ 1000000) (c : Int) (hc : jR32 c) (hs : hp 1 1 = 32) : jm_Ev 93 0 [jR 0, jI c] [] hp (jSam 134 [jR 56, jI c] xs ls n) := by
  obtain ⟨rP, rD, rC, rS, rR, rK, r5, rL, rM, rX⟩ := id hR
  have p1 := rP.1.1
  have p2 := rP.1.2.1
  refine jm_Ev.bl 2 (pc' := 2) (A' := [jR 0, jI c]) (st' := [jI 1, jI c]) (hp' := hp) rfl ?_
  refine jE_icmp_lt rfl (by omega) (by omega) (fun c2 => ?_) (fun c2 => ?_)
  · refine jm_Ev.bl 1 (pc' := 13) (A' := [jR 0, jI c]) (st' := [jI (-102)]) (hp' := hp) rfl ?_
    refine jE_ret rfl ⟨_, rfl, by omega, rX, ?_⟩
    show jm_Ev 134 0 [jR 56, jI c] [] hp _
    refine jm_Ev.bl 1 (pc' := 1) (A' := [jR 56, jI c]) (st' := [jI c]) (hp' := hp) rfl ?_
    refine jE_i2l rfl (by omega) ?_
    refine jm_Ev.bl 2 (pc' := 6) (A' := [jR 56, jI c]) (st' := [jL 126, jL 1, jL c]) (hp' := hp) rfl ?_
    refine jE_callI (vs := [jL c, jL 1, jL 126]) (r := []) (nx := 9) (v := jI (jb (decide (1 ≤ c ∧ c ≤ 126)))) (hp1 := hp) rfl (c_m_in hp c 1 126 (by omega) (by omega) (by omega)) ?_
    refine jE_ifd_ne rfl (fun m9 => ?_) (fun m9 => ?_)
    · refine jm_Ev.bl 2 (pc' := 19) (A' := [jR 56, jI c]) (st' := [jI (hp 56 1)]) (hp' := hp) rfl ?_
      rw [rP.2.1]
      refine jm_Ev.bl 1 (pc' := 21) (A' := [jR 56, jI c]) (st' := [jI 32, jI (hp 1 1)]) (hp' := hp) rfl ?_
      refine jE_icmp_ne rfl (by omega) (by omega) (fun m21 => ?_) (fun m21 => ?_)
      · omega
      · refine jm_Ev.bl 1 (pc' := 26) (A' := [jR 56, jI c]) (st' := [jI (-104)]) (hp' := hp) rfl ?_
        first | omega | exact jE_ret rfl ⟨rfl, ⟨jRP_fr rP (jFq.rf (S := []) (F := [])) (by simp) (by simp), jRD_fr rD (jFq.rf (S := []) (F := [])) (by simp) (by simp), jRC_fr (show n ≤ n + 1 by omega) rC (jFq.rf (S := []) (F := [])) (by simp) (by simp), jRS_fr rS (jFq.rf (S := []) (F := [])) (by simp) (by simp), jRR_fr rR (jFq.rf (S := []) (F := [])) (by simp), jRK_fr rK (jFq.rf (S := []) (F := [])) (by simp) (by simp), jR5_fr r5 (jFq.rf (S := []) (F := [])) (by simp), jRL_fr rL (jFq.rf (S := []) (F := [])) (by intro q hq z; simp at z <;> omega), jMC_fr rM (jFq.rf (S := []) (F := [])) (by intro q hq z; simp at z <;> omega) (by simp), jRX_fr rX (jFq.rf (S := []) (F := [])) (by simp)⟩⟩
    · refine jm_Ev.bl 1 (pc' := 14) (A' := [jR 56, jI c]) (st' := [jI (-102)]) (hp' := hp) rfl ?_
      first | omega | exact jE_ret rfl ⟨rfl, ⟨jRP_fr rP (jFq.rf (S := []) (F := [])) (by simp) (by simp), jRD_fr rD (jFq.rf (S := []) (F := [])) (by simp) (by simp), jRC_fr (show n ≤ n + 1 by omega) rC (jFq.rf (S := []) (F := [])) (by simp) (by simp), jRS_fr rS (jFq.rf (S := []) (F := [])) (by simp) (by simp), jRR_fr rR (jFq.rf (S := []) (F := [])) (by simp), jRK_fr rK (jFq.rf (S := []) (F := [])) (by simp) (by simp), jR5_fr r5 (jFq.rf (S := []) (F := [])) (by simp), jRL_fr rL (jFq.rf (S := []) (F := [])) (by intro q hq z; simp at z <;> omega), jMC_fr rM (jFq.rf (S := []) (F := [])) (by intro q hq z; simp at z <;> omega) (by simp), jRX_fr rX (jFq.rf (S := []) (F := [])) (by simp)⟩⟩
  · refine jm_Ev.bl 2 (pc' := 8) (A' := [jR 0, jI c]) (st' := [jI 126, jI c]) (hp' := hp) rfl ?_
    refine jE_icmp_le rfl (by omega) (by omega) (fun c8 => ?_) (fun c8 => ?_)
    · refine jm_Ev.bl 3 (pc' := 19) (A' := [jR 0, jI c]) (st' := [jI c, jR 1]) (hp' := hp) rfl ?_
      refine jE_callI (vs := [jR 1, jI c]) (r := []) (nx := 22) (v := jI 0) (hp1 := hp) rfl (c_p_append_full hp c hs) ?_
      refine jE_if_eq rfl (by omega) (fun _ => ?_) (fun c22 => absurd c22 (by omega))
      refine jm_Ev.bl 1 (pc' := 37) (A' := [jR 0, jI c]) (st' := [jI (-104)]) (hp' := hp) rfl ?_
      refine jE_ret rfl ⟨_, rfl, by omega, rX, ?_⟩
      show jm_Ev 134 0 [jR 56, jI c] [] hp _
      refine jm_Ev.bl 1 (pc' := 1) (A' := [jR 56, jI c]) (st' := [jI c]) (hp' := hp) rfl ?_
      refine jE_i2l rfl (by omega) ?_
      refine jm_Ev.bl 2 (pc' := 6) (A' := [jR 56, jI c]) (st' := [jL 126, jL 1, jL c]) (hp' := hp) rfl ?_
      refine jE_callI (vs := [jL c, jL 1, jL 126]) (r := []) (nx := 9) (v := jI (jb (decide (1 ≤ c ∧ c ≤ 126)))) (hp1 := hp) rfl (c_m_in hp c 1 126 (by omega) (by omega) (by omega)) ?_
      refine jE_ifd_ne rfl (fun m9 => ?_) (fun m9 => ?_)
      · refine jm_Ev.bl 2 (pc' := 19) (A' := [jR 56, jI c]) (st' := [jI (hp 56 1)]) (hp' := hp) rfl ?_
        rw [rP.2.1]
        refine jm_Ev.bl 1 (pc' := 21) (A' := [jR 56, jI c]) (st' := [jI 32, jI (hp 1 1)]) (hp' := hp) rfl ?_
        refine jE_icmp_ne rfl (by omega) (by omega) (fun m21 => ?_) (fun m21 => ?_)
        · omega
        · refine jm_Ev.bl 1 (pc' := 26) (A' := [jR 56, jI c]) (st' := [jI (-104)]) (hp' := hp) rfl ?_
          first | omega | exact jE_ret rfl ⟨rfl, ⟨jRP_fr rP (jFq.rf (S := []) (F := [])) (by simp) (by simp), jRD_fr rD (jFq.rf (S := []) (F := [])) (by simp) (by simp), jRC_fr (show n ≤ n + 1 by omega) rC (jFq.rf (S := []) (F := [])) (by simp) (by simp), jRS_fr rS (jFq.rf (S := []) (F := [])) (by simp) (by simp), jRR_fr rR (jFq.rf (S := []) (F := [])) (by simp), jRK_fr rK (jFq.rf (S := []) (F := [])) (by simp) (by simp), jR5_fr r5 (jFq.rf (S := []) (F := [])) (by simp), jRL_fr rL (jFq.rf (S := []) (F := [])) (by intro q hq z; simp at z <;> omega), jMC_fr rM (jFq.rf (S := []) (F := [])) (by intro q hq z; simp at z <;> omega) (by simp), jRX_fr rX (jFq.rf (S := []) (F := [])) (by simp)⟩⟩
      · refine jm_Ev.bl 1 (pc' := 14) (A' := [jR 56, jI c]) (st' := [jI (-102)]) (hp' := hp) rfl ?_
        first | omega | exact jE_ret rfl ⟨rfl, ⟨jRP_fr rP (jFq.rf (S := []) (F := [])) (by simp) (by simp), jRD_fr rD (jFq.rf (S := []) (F := [])) (by simp) (by simp), jRC_fr (show n ≤ n + 1 by omega) rC (jFq.rf (S := []) (F := [])) (by simp) (by simp), jRS_fr rS (jFq.rf (S := []) (F := [])) (by simp) (by simp), jRR_fr rR (jFq.rf (S := []) (F := [])) (by simp), jRK_fr rK (jFq.rf (S := []) (F := [])) (by simp) (by simp), jR5_fr r5 (jFq.rf (S := []) (F := [])) (by simp), jRL_fr rL (jFq.rf (S := []) (F := [])) (by intro q hq z; simp at z <;> omega), jMC_fr rM (jFq.rf (S := []) (F := [])) (by intro q hq z; simp at z <;> omega) (by simp), jRX_fr rX (jFq.rf (S := []) (F := [])) (by simp)⟩⟩
    · refine jm_Ev.bl 1 (pc' := 13) (A' := [jR 0, jI c]) (st' := [jI (-102)]) (hp' := hp) rfl ?_
      refine jE_ret rfl ⟨_, rfl, by omega, rX, ?_⟩
      show jm_Ev 134 0 [jR 56, jI c] [] hp _
      refine jm_Ev.bl 1 (pc' := 1) (A' := [jR 56, jI c]) (st' := [jI c]) (hp' := hp) rfl ?_
      refine jE_i2l rfl (by omega) ?_
      refine jm_Ev.bl 2 (pc' := 6) (A' := [jR 56, jI c]) (st' := [jL 126, jL 1, jL c]) (hp' := hp) rfl ?_
      refine jE_callI (vs := [jL c, jL 1, jL 126]) (r := []) (nx := 9) (v := jI (jb (decide (1 ≤ c ∧ c ≤ 126)))) (hp1 := hp) rfl (c_m_in hp c 1 126 (by omega) (by omega) (by omega)) ?_
      refine jE_ifd_ne rfl (fun m9 => ?_) (fun m9 => ?_)
      · refine jm_Ev.bl 2 (pc' := 19) (A' := [jR 56, jI c]) (st' := [jI (hp 56 1)]) (hp' := hp) rfl ?_
        rw [rP.2.1]
        refine jm_Ev.bl 1 (pc' := 21) (A' := [jR 56, jI c]) (st' := [jI 32, jI (hp 1 1)]) (hp' := hp) rfl ?_
        refine jE_icmp_ne rfl (by omega) (by omega) (fun m21 => ?_) (fun m21 => ?_)
        · omega
        · refine jm_Ev.bl 1 (pc' := 26) (A' := [jR 56, jI c]) (st' := [jI (-104)]) (hp' := hp) rfl ?_
          first | omega | exact jE_ret rfl ⟨rfl, ⟨jRP_fr rP (jFq.rf (S := []) (F := [])) (by simp) (by simp), jRD_fr rD (jFq.rf (S := []) (F := [])) (by simp) (by simp), jRC_fr (show n ≤ n + 1 by omega) rC (jFq.rf (S := []) (F := [])) (by simp) (by simp), jRS_fr rS (jFq.rf (S := []) (F := [])) (by simp) (by simp), jRR_fr rR (jFq.rf (S := []) (F := [])) (by simp), jRK_fr rK (jFq.rf (S := []) (F := [])) (by simp) (by simp), jR5_fr r5 (jFq.rf (S := []) (F := [])) (by simp), jRL_fr rL (jFq.rf (S := []) (F := [])) (by intro q hq z; simp at z <;> omega), jMC_fr rM (jFq.rf (S := []) (F := [])) (by intro q hq z; simp at z <;> omega) (by simp), jRX_fr rX (jFq.rf (S := []) (F := [])) (by simp)⟩⟩
      · refine jm_Ev.bl 1 (pc' := 14) (A' := [jR 56, jI c]) (st' := [jI (-102)]) (hp' := hp) rfl ?_
        first | omega | exact jE_ret rfl ⟨rfl, ⟨jRP_fr rP (jFq.rf (S := []) (F := [])) (by simp) (by simp), jRD_fr rD (jFq.rf (S := []) (F := [])) (by simp) (by simp), jRC_fr (show n ≤ n + 1 by omega) rC (jFq.rf (S := []) (F := [])) (by simp) (by simp), jRS_fr rS (jFq.rf (S := []) (F := [])) (by simp) (by simp), jRR_fr rR (jFq.rf (S := []) (F := [])) (by simp), jRK_fr rK (jFq.rf (S := []) (F := [])) (by simp) (by simp), jR5_fr r5 (jFq.rf (S := []) (F := [])) (by simp), jRL_fr rL (jFq.rf (S := []) (F := [])) (by intro q hq z; simp at z <;> omega), jMC_fr rM (jFq.rf (S := []) (F := [])) (by intro q hq z; simp at z <;> omega) (by simp), jRX_fr rX (jFq.rf (S := []) (F := [])) (by simp)⟩⟩
theorem k_letter_n (xs ls : Int → Int) (n : Int) (hp : jm_H) (hR : jREL xs ls n hp) (hn : n ≤ 1000000) (c : Int) (hc : jR32 c) (hs : hp 1 1 < 32) : jm_Ev 93 0 [jR 0, jI c] [] hp (jSam 134 [jR 56, jI c] xs ls n) := by
  obtain ⟨rP, rD, rC, rS, rR, rK, r5, rL, rM, rX⟩ := id hR
  have p1 := rP.1.1
  have p2 := rP.1.2.1
  refine jm_Ev.bl 2 (pc' := 2) (A' := [jR 0, jI c]) (st' := [jI 1, jI c]) (hp' := hp) rfl ?_
  refine jE_icmp_lt rfl (by omega) (by omega) (fun c2 => ?_) (fun c2 => ?_)
  · refine jm_Ev.bl 1 (pc' := 13) (A' := [jR 0, jI c]) (st' := [jI (-102)]) (hp' := hp) rfl ?_
    refine jE_ret rfl ⟨_, rfl, by omega, rX, ?_⟩
    show jm_Ev 134 0 [jR 56, jI c] [] hp _
    refine jm_Ev.bl 1 (pc' := 1) (A' := [jR 56, jI c]) (st' := [jI c]) (hp' := hp) rfl ?_
    refine jE_i2l rfl (by omega) ?_
    refine jm_Ev.bl 2 (pc' := 6) (A' := [jR 56, jI c]) (st' := [jL 126, jL 1, jL c]) (hp' := hp) rfl ?_
    refine jE_callI (vs := [jL c, jL 1, jL 126]) (r := []) (nx := 9) (v := jI (jb (decide (1 ≤ c ∧ c ≤ 126)))) (hp1 := hp) rfl (c_m_in hp c 1 126 (by omega) (by omega) (by omega)) ?_
    refine jE_ifd_ne rfl (fun m9 => ?_) (fun m9 => ?_)
    · refine jm_Ev.bl 2 (pc' := 19) (A' := [jR 56, jI c]) (st' := [jI (hp 56 1)]) (hp' := hp) rfl ?_
      rw [rP.2.1]
      refine jm_Ev.bl 1 (pc' := 21) (A' := [jR 56, jI c]) (st' := [jI 32, jI (hp 1 1)]) (hp' := hp) rfl ?_
      refine jE_icmp_ne rfl (by omega) (by omega) (fun m21 => ?_) (fun m21 => ?_)
      · omega
      · refine jm_Ev.bl 1 (pc' := 26) (A' := [jR 56, jI c]) (st' := [jI (-104)]) (hp' := hp) rfl ?_
        first | omega | exact jE_ret rfl ⟨rfl, ⟨jRP_fr rP (jFq.rf (S := []) (F := [])) (by simp) (by simp), jRD_fr rD (jFq.rf (S := []) (F := [])) (by simp) (by simp), jRC_fr (show n ≤ n + 1 by omega) rC (jFq.rf (S := []) (F := [])) (by simp) (by simp), jRS_fr rS (jFq.rf (S := []) (F := [])) (by simp) (by simp), jRR_fr rR (jFq.rf (S := []) (F := [])) (by simp), jRK_fr rK (jFq.rf (S := []) (F := [])) (by simp) (by simp), jR5_fr r5 (jFq.rf (S := []) (F := [])) (by simp), jRL_fr rL (jFq.rf (S := []) (F := [])) (by intro q hq z; simp at z <;> omega), jMC_fr rM (jFq.rf (S := []) (F := [])) (by intro q hq z; simp at z <;> omega) (by simp), jRX_fr rX (jFq.rf (S := []) (F := [])) (by simp)⟩⟩
    · refine jm_Ev.bl 1 (pc' := 14) (A' := [jR 56, jI c]) (st' := [jI (-102)]) (hp' := hp) rfl ?_
      first | omega | exact jE_ret rfl ⟨rfl, ⟨jRP_fr rP (jFq.rf (S := []) (F := [])) (by simp) (by simp), jRD_fr rD (jFq.rf (S := []) (F := [])) (by simp) (by simp), jRC_fr (show n ≤ n + 1 by omega) rC (jFq.rf (S := []) (F := [])) (by simp) (by simp), jRS_fr rS (jFq.rf (S := []) (F := [])) (by simp) (by simp), jRR_fr rR (jFq.rf (S := []) (F := [])) (by simp), jRK_fr rK (jFq.rf (S := []) (F := [])) (by simp) (by simp), jR5_fr r5 (jFq.rf (S := []) (F := [])) (by simp), jRL_fr rL (jFq.rf (S := []) (F := [])) (by intro q hq z; simp at z <;> omega), jMC_fr rM (jFq.rf (S := []) (F := [])) (by intro q hq z; simp at z <;> omega) (by simp), jRX_fr rX (jFq.rf (S := []) (F := [])) (by simp)⟩⟩
  · refine jm_Ev.bl 2 (pc' := 8) (A' := [jR 0, jI c]) (st' := [jI 126, jI c]) (hp' := hp) rfl ?_
    refine jE_icmp_le rfl (by omega) (by omega) (fun c8 => ?_) (fun c8 => ?_)
    · refine jm_Ev.bl 3 (pc' := 19) (A' := [jR 0, jI c]) (st' := [jI c, jR 1]) (hp' := hp) rfl ?_
      refine jE_callI (vs := [jR 1, jI c]) (r := []) (nx := 22) (v := jI 1) (hp1 := (jm_hs (jm_hs hp 2 (hp 1 1) c) 1 1 (hp 1 1 + 1))) rfl (c_p_append hp c (by omega) (by omega)) ?_
      refine jE_if_eq rfl (by omega) (fun c22 => absurd c22 (by omega)) (fun _ => ?_)
      refine jm_Ev.bl 4 (pc' := 37) (A' := [jR 0, jI c]) (st' := [jI ((jm_hs (jm_hs hp 2 (hp 1 1) c) 1 1 (hp 1 1 + 1)) 1 1)]) (hp' := (jm_hs (jm_hs hp 2 (hp 1 1) c) 1 1 (hp 1 1 + 1))) rfl ?_
      refine jE_ret rfl ⟨_, rfl, by show jR32 (hp 1 1 + 1); exact ⟨by omega, by omega⟩, rX, ?_⟩
      have e1 : (jm_hs (jm_hs hp 2 (hp 1 1) c) 1 1 (hp 1 1 + 1)) 56 1 = hp 1 1 := rP.2.1
      show jm_Ev 134 0 [jR 56, jI c] [] (jm_hs (jm_hs hp 2 (hp 1 1) c) 1 1 (hp 1 1 + 1)) _
      refine jm_Ev.bl 1 (pc' := 1) (A' := [jR 56, jI c]) (st' := [jI c]) (hp' := (jm_hs (jm_hs hp 2 (hp 1 1) c) 1 1 (hp 1 1 + 1))) rfl ?_
      refine jE_i2l rfl (by omega) ?_
      refine jm_Ev.bl 2 (pc' := 6) (A' := [jR 56, jI c]) (st' := [jL 126, jL 1, jL c]) (hp' := (jm_hs (jm_hs hp 2 (hp 1 1) c) 1 1 (hp 1 1 + 1))) rfl ?_
      refine jE_callI (vs := [jL c, jL 1, jL 126]) (r := []) (nx := 9) (v := jI (jb (decide (1 ≤ c ∧ c ≤ 126)))) (hp1 := (jm_hs (jm_hs hp 2 (hp 1 1) c) 1 1 (hp 1 1 + 1))) rfl (c_m_in (jm_hs (jm_hs hp 2 (hp 1 1) c) 1 1 (hp 1 1 + 1)) c 1 126 (by omega) (by omega) (by omega)) ?_
      refine jE_ifd_ne rfl (fun m9 => ?_) (fun m9 => ?_)
      · refine jm_Ev.bl 2 (pc' := 19) (A' := [jR 56, jI c]) (st' := [jI ((jm_hs (jm_hs hp 2 (hp 1 1) c) 1 1 (hp 1 1 + 1)) 56 1)]) (hp' := (jm_hs (jm_hs hp 2 (hp 1 1) c) 1 1 (hp 1 1 + 1))) rfl ?_
        rw [e1]
        refine jm_Ev.bl 1 (pc' := 21) (A' := [jR 56, jI c]) (st' := [jI 32, jI (hp 1 1)]) (hp' := (jm_hs (jm_hs hp 2 (hp 1 1) c) 1 1 (hp 1 1 + 1))) rfl ?_
        refine jE_icmp_ne rfl (by omega) (by omega) (fun m21 => ?_) (fun m21 => ?_)
        · refine jm_Ev.bl 4 (pc' := 35) (A' := [jR 56, jI c]) (st' := [jI ((jm_hs (jm_hs hp 2 (hp 1 1) c) 1 1 (hp 1 1 + 1)) 56 1), jR 57]) (hp' := (jm_hs (jm_hs hp 2 (hp 1 1) c) 1 1 (hp 1 1 + 1))) rfl ?_
          rw [e1]
          refine jm_Ev.bl 1 (pc' := 36) (A' := [jR 56, jI c]) (st' := [jI c, jI (hp 1 1), jR 57]) (hp' := (jm_hs (jm_hs hp 2 (hp 1 1) c) 1 1 (hp 1 1 + 1))) rfl ?_
          refine jE_iast (n := 32) rfl rfl (by omega) ?_
          refine jm_Ev.bl 3 (pc' := 42) (A' := [jR 56, jI c]) (st' := [jI ((jm_hs (jm_hs hp 2 (hp 1 1) c) 1 1 (hp 1 1 + 1)) 56 1), jR 56]) (hp' := (jm_hs (jm_hs (jm_hs hp 2 (hp 1 1) c) 1 1 (hp 1 1 + 1)) 57 (hp 1 1) c)) rfl ?_
          rw [e1]
          refine jm_Ev.bl 5 (pc' := 51) (A' := [jR 56, jI c]) (st' := [jI ((hp 1 1) + 1)]) (hp' := (jm_hs (jm_hs (jm_hs (jm_hs hp 2 (hp 1 1) c) 1 1 (hp 1 1 + 1)) 57 (hp 1 1) c) 56 1 ((hp 1 1) + 1))) rfl ?_
          have hz : jFq hp (jm_hs (jm_hs (jm_hs (jm_hs hp 2 (hp 1 1) c) 1 1 (hp 1 1 + 1)) 57 (hp 1 1) c) 56 1 (hp 1 1 + 1)) [1, 2, 57] [1] := ((((jFr.rf (hp := hp)).set (k := 2) (j := hp 1 1) (v := c) (by simp)).set (k := 1) (j := 1) (v := hp 1 1 + 1) (S := [1, 2]) (by simp)).q.wk (V := [1, 2, 57]) (E := [1]) (by simp) (by simp)).set (by simp) |>.sf (by simp)
          have hP : jRP (jm_hs (jm_hs (jm_hs (jm_hs hp 2 (hp 1 1) c) 1 1 (hp 1 1 + 1)) 57 (hp 1 1) c) 56 1 (hp 1 1 + 1)) := by
            refine ⟨⟨by show 0 ≤ hp 1 1 + 1; omega, by show hp 1 1 + 1 ≤ 32; omega, fun j j0 j1 => ?_⟩, rfl, fun j j0 j1 => ?_⟩
            · have j1 : j < hp 1 1 + 1 := j1
              show 1 ≤ jm_hs hp 2 (hp 1 1) c 2 j ∧ jm_hs hp 2 (hp 1 1) c 2 j ≤ 126
              rw [js_hs_eq]
              split
              · omega
              · exact rP.1.2.2 j j0 (by omega)
            · have j1 : j < hp 1 1 + 1 := j1
              show jm_hs (jm_hs (jm_hs hp 2 (hp 1 1) c) 1 1 (hp 1 1 + 1)) 57 (hp 1 1) c 57 j = jm_hs hp 2 (hp 1 1) c 2 j
              rw [js_hs_eq, js_hs_eq]
              split
              · rfl
              · exact rP.2.2 j j0 (by omega)
          exact jE_ret rfl ⟨rfl, ⟨hP, jRD_fr rD hz (by simp) (by simp), jRC_fr (show n ≤ n + 1 by omega) rC hz (by simp) (by simp), jRS_fr rS hz (by simp) (by simp), jRR_fr rR hz (by simp), jRK_fr rK hz (by simp) (by simp), jR5_fr r5 hz (by simp), jRL_fr rL hz (by intro q hq z; simp at z <;> omega), jMC_fr rM hz (by intro q hq z; simp at z <;> omega) (by simp), jRX_fr rX hz (by simp)⟩⟩
        · refine jm_Ev.bl 1 (pc' := 26) (A' := [jR 56, jI c]) (st' := [jI (-104)]) (hp' := (jm_hs (jm_hs hp 2 (hp 1 1) c) 1 1 (hp 1 1 + 1))) rfl ?_
          first | omega | exact jE_ret rfl ⟨rfl, ⟨jRP_fr rP (jFq.rf (S := []) (F := [])) (by simp) (by simp), jRD_fr rD (jFq.rf (S := []) (F := [])) (by simp) (by simp), jRC_fr (show n ≤ n + 1 by omega) rC (jFq.rf (S := []) (F := [])) (by simp) (by simp), jRS_fr rS (jFq.rf (S := []) (F := [])) (by simp) (by simp), jRR_fr rR (jFq.rf (S := []) (F := [])) (by simp), jRK_fr rK (jFq.rf (S := []) (F := [])) (by simp) (by simp), jR5_fr r5 (jFq.rf (S := []) (F := [])) (by simp), jRL_fr rL (jFq.rf (S := []) (F := [])) (by intro q hq z; simp at z <;> omega), jMC_fr rM (jFq.rf (S := []) (F := [])) (by intro q hq z; simp at z <;> omega) (by simp), jRX_fr rX (jFq.rf (S := []) (F := [])) (by simp)⟩⟩
      · refine jm_Ev.bl 1 (pc' := 14) (A' := [jR 56, jI c]) (st' := [jI (-102)]) (hp' := (jm_hs (jm_hs hp 2 (hp 1 1) c) 1 1 (hp 1 1 + 1))) rfl ?_
        first | omega | exact jE_ret rfl ⟨rfl, ⟨jRP_fr rP (jFq.rf (S := []) (F := [])) (by simp) (by simp), jRD_fr rD (jFq.rf (S := []) (F := [])) (by simp) (by simp), jRC_fr (show n ≤ n + 1 by omega) rC (jFq.rf (S := []) (F := [])) (by simp) (by simp), jRS_fr rS (jFq.rf (S := []) (F := [])) (by simp) (by simp), jRR_fr rR (jFq.rf (S := []) (F := [])) (by simp), jRK_fr rK (jFq.rf (S := []) (F := [])) (by simp) (by simp), jR5_fr r5 (jFq.rf (S := []) (F := [])) (by simp), jRL_fr rL (jFq.rf (S := []) (F := [])) (by intro q hq z; simp at z <;> omega), jMC_fr rM (jFq.rf (S := []) (F := [])) (by intro q hq z; simp at z <;> omega) (by simp), jRX_fr rX (jFq.rf (S := []) (F := [])) (by simp)⟩⟩
    · refine jm_Ev.bl 1 (pc' := 13) (A' := [jR 0, jI c]) (st' := [jI (-102)]) (hp' := hp) rfl ?_
      refine jE_ret rfl ⟨_, rfl, by omega, rX, ?_⟩
      show jm_Ev 134 0 [jR 56, jI c] [] hp _
      refine jm_Ev.bl 1 (pc' := 1) (A' := [jR 56, jI c]) (st' := [jI c]) (hp' := hp) rfl ?_
      refine jE_i2l rfl (by omega) ?_
      refine jm_Ev.bl 2 (pc' := 6) (A' := [jR 56, jI c]) (st' := [jL 126, jL 1, jL c]) (hp' := hp) rfl ?_
      refine jE_callI (vs := [jL c, jL 1, jL 126]) (r := []) (nx := 9) (v := jI (jb (decide (1 ≤ c ∧ c ≤ 126)))) (hp1 := hp) rfl (c_m_in hp c 1 126 (by omega) (by omega) (by omega)) ?_
      refine jE_ifd_ne rfl (fun m9 => ?_) (fun m9 => ?_)
      · refine jm_Ev.bl 2 (pc' := 19) (A' := [jR 56, jI c]) (st' := [jI (hp 56 1)]) (hp' := hp) rfl ?_
        rw [rP.2.1]
        refine jm_Ev.bl 1 (pc' := 21) (A' := [jR 56, jI c]) (st' := [jI 32, jI (hp 1 1)]) (hp' := hp) rfl ?_
        refine jE_icmp_ne rfl (by omega) (by omega) (fun m21 => ?_) (fun m21 => ?_)
        · omega
        · refine jm_Ev.bl 1 (pc' := 26) (A' := [jR 56, jI c]) (st' := [jI (-104)]) (hp' := hp) rfl ?_
          first | omega | exact jE_ret rfl ⟨rfl, ⟨jRP_fr rP (jFq.rf (S := []) (F := [])) (by simp) (by simp), jRD_fr rD (jFq.rf (S := []) (F := [])) (by simp) (by simp), jRC_fr (show n ≤ n + 1 by omega) rC (jFq.rf (S := []) (F := [])) (by simp) (by simp), jRS_fr rS (jFq.rf (S := []) (F := [])) (by simp) (by simp), jRR_fr rR (jFq.rf (S := []) (F := [])) (by simp), jRK_fr rK (jFq.rf (S := []) (F := [])) (by simp) (by simp), jR5_fr r5 (jFq.rf (S := []) (F := [])) (by simp), jRL_fr rL (jFq.rf (S := []) (F := [])) (by intro q hq z; simp at z <;> omega), jMC_fr rM (jFq.rf (S := []) (F := [])) (by intro q hq z; simp at z <;> omega) (by simp), jRX_fr rX (jFq.rf (S := []) (F := [])) (by simp)⟩⟩
      · refine jm_Ev.bl 1 (pc' := 14) (A' := [jR 56, jI c]) (st' := [jI (-102)]) (hp' := hp) rfl ?_
        first | omega | exact jE_ret rfl ⟨rfl, ⟨jRP_fr rP (jFq.rf (S := []) (F := [])) (by simp) (by simp), jRD_fr rD (jFq.rf (S := []) (F := [])) (by simp) (by simp), jRC_fr (show n ≤ n + 1 by omega) rC (jFq.rf (S := []) (F := [])) (by simp) (by simp), jRS_fr rS (jFq.rf (S := []) (F := [])) (by simp) (by simp), jRR_fr rR (jFq.rf (S := []) (F := [])) (by simp), jRK_fr rK (jFq.rf (S := []) (F := [])) (by simp) (by simp), jR5_fr r5 (jFq.rf (S := []) (F := [])) (by simp), jRL_fr rL (jFq.rf (S := []) (F := [])) (by intro q hq z; simp at z <;> omega), jMC_fr rM (jFq.rf (S := []) (F := [])) (by intro q hq z; simp at z <;> omega) (by simp), jRX_fr rX (jFq.rf (S := []) (F := [])) (by simp)⟩⟩
theorem k_letter (xs ls : Int → Int) (n : Int) (hp : jm_H) (hR : jREL xs ls n hp) (hn : n ≤ 1000000) (c : Int) (hc : jR32 c) : jm_Ev 93 0 [jR 0, jI c] [] hp (jSam 134 [jR 56, jI c] xs ls n) := by
  by_cases h : hp 1 1 = 32
  · exact k_letter_f xs ls n hp hR hn c hc h
  · exact k_letter_n xs ls n hp hR hn c hc (by have := hR.1.1.2.1; omega)
theorem k_blank (xs ls : Int → Int) (n : Int) (hp : jm_H) (hR : jREL xs ls n hp) (hn : n ≤ 1000000) : jm_Ev 94 0 [jR 0, jU] [] hp (jSam 135 [jR 56] xs ls n) := by
  obtain ⟨rP, rD, rC, rS, rR, rK, r5, rL, rM, rX⟩ := id hR
  have p1 := rP.1.1
  have p2 := rP.1.2.1
  refine jm_Ev.bl 9 (pc' := 17) (A' := [jR 0, jI (hp 1 1)]) (st' := [jI (hp 1 1)]) (hp' := (jm_hs hp 1 1 0)) rfl ?_
  refine jE_ret rfl ⟨_, rfl, ⟨by omega, by omega⟩, rX, ?_⟩
  show jm_Ev 135 0 [jR 56, jU] [] (jm_hs hp 1 1 0) _
  refine jm_Ev.bl 2 (pc' := 4) (A' := [jR 56, jU]) (st' := [jI ((jm_hs hp 1 1 0) 56 1)]) (hp' := (jm_hs hp 1 1 0)) rfl ?_
  rw [show (jm_hs hp 1 1 0) 56 1 = hp 1 1 from rP.2.1]
  refine jm_Ev.bl 5 (pc' := 11) (A' := [jR 56, jI (hp 1 1)]) (st' := [jI (hp 1 1)]) (hp' := (jm_hs (jm_hs hp 1 1 0) 56 1 0)) rfl ?_
  have hz : jFq hp (jm_hs (jm_hs hp 1 1 0) 56 1 0) [1] [1] := ((((jFr.rf (hp := hp)).set (k := 1) (j := 1) (v := 0) (S := [1]) (by simp)).q.wk (V := [1]) (E := [1]) (by simp) (by simp)).sf (by simp))
  exact jE_ret rfl ⟨rfl, ⟨⟨⟨by show (0 : Int) ≤ 0; omega, by show (0 : Int) ≤ 32; omega, fun j a b => absurd (show j < 0 from b) (by omega)⟩, rfl, fun j a b => absurd (show j < 0 from b) (by omega)⟩, jRD_fr rD hz (by simp) (by simp), jRC_fr (show n ≤ n + 1 by omega) rC hz (by simp) (by simp), jRS_fr rS hz (by simp) (by simp), jRR_fr rR hz (by simp), jRK_fr rK hz (by simp) (by simp), jR5_fr r5 hz (by simp), jRL_fr rL hz (by intro q hq z; simp at z <;> omega), jMC_fr rM hz (by intro q hq z; simp at z <;> omega) (by simp), jRX_fr rX hz (by simp)⟩⟩
theorem jflt_cg {c d : Int → Int} (n : Nat) (h : ∀ j : Int, 0 ≤ j → j < n → c j = d j) : jpst c n = jpst d n ∧ jflt c n = jflt d n := by
  induction n with
  | zero => exact ⟨rfl, rfl⟩
  | succ n ih =>
    have a := ih (fun j x y => h j x (by omega))
    have b := h n (by omega) (by omega)
    have e : jpst c (n + 1) = jpst d (n + 1) := by unfold jpst; rw [a.1, b]
    unfold jflt
    rw [e, a.2]
    exact ⟨rfl, rfl⟩
theorem jflt_rr (c : Int → Int) (n : Nat) : 0 ≤ jflt c n ∧ jflt c n ≤ n := by
  induction n with
  | zero => unfold jflt; omega
  | succ n ih => unfold jflt; split <;> (try split) <;> omega
theorem k_fault (xs ls : Int → Int) (n : Int) (hp : jm_H) (hR : jREL xs ls n hp) (hn : n ≤ 1000000) : jm_Ev 95 0 [jR 0] [] hp (jSam 140 [jR 56] xs ls n) := by
  obtain ⟨rP, rD, rC, rS, rR, rK, r5, rL, rM, rX⟩ := id hR
  have p1 := rP.1.1
  have p2 := rP.1.2.1
  have fr := jflt_rr (hp 2) (hp 1 1).toNat
  refine jm_Ev.bl 2 (pc' := 4) (A' := [jR 0]) (st' := [jR 1]) (hp' := hp) rfl ?_
  refine jE_callI (vs := [jR 1]) (r := []) (nx := 7) (v := jI (jflt (hp 2) (hp 1 1).toNat)) (hp1 := hp) rfl (c_p_fault hp rP.1) ?_
  refine jE_ret rfl ⟨_, rfl, ⟨by omega, by omega⟩, rX, ?_⟩
  show jm_Ev 140 0 [jR 56] [] hp _
  refine jm_Ev.bl 1 (pc' := 1) (A' := [jR 56]) (st' := [jR 56]) (hp' := hp) rfl ?_
  refine jE_call (vs := [jR 56]) (r := []) (nx := 4) rfl (c_m_faultOf hp (jpg_m rP)) (fun rv1 h2 hh => ?_)
  obtain ⟨rfl, hz, _⟩ := hh
  rw [rP.2.1, (jflt_cg (c := hp 57) (d := hp 2) (hp 1 1).toNat (fun j a b => rP.2.2 j a (by omega))).2]
  exact jE_ret rfl ⟨rfl, ⟨jRP_fr rP hz (by simp) (by simp), jRD_fr rD hz (by simp) (by simp), jRC_fr (show n ≤ n + 1 by omega) rC hz (by simp) (by simp), jRS_fr rS hz (by simp) (by simp), jRR_fr rR hz (by simp), jRK_fr rK hz (by simp) (by simp), jR5_fr r5 hz (by simp), jRL_fr rL hz (by intro q hq z; simp at z <;> omega), jMC_fr rM hz (by intro q hq z; simp at z <;> omega) (by simp), jRX_fr rX hz (by simp)⟩⟩
