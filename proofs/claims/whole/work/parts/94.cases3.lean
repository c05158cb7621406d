/-! call by call: see, outline, point, joined, penalty, corner -/
theorem jCl_m {h1 h2 : jm_H} {K : Int → Int → Int} {O : List (List jT)} {S : List Nat} {F : List Int} (H : jCl h1 K O) (hf : jFq h1 h2 S F) (hS : ∀ q, (20 ≤ q ∧ q ≤ 42) → q ∉ S) : jCl h2 K O := ⟨H.1, H.2.1, jCO_fr H.2.2.1 (fun q a b => hf.pl q (hS q (by omega)) (by omega)), jCa_fr H.2.2.2 (fun q a b => hf.pl q (hS q (by omega)) (by omega))⟩
/-- caches alone were changed -/
theorem jREL_c {xs ls : Int → Int} {n : Int} {hp h1 h2 : jm_H} (hR : jREL xs ls n hp) (hC : jCl h1 (jK0 hp) (jO0 hp)) (hf1 : jFr hp h1 [31, 32, 33, 34, 35, 36, 37, 38, 39, 40, 41, 42]) (hM2 : jMC h2) (hf2 : jFq h1 h2 [59, 60, 61, 62, 63, 64, 65, 66, 67, 68, 69, 70, 71, 72] [10, 11, 26]) : jREL xs ls (n + 1) h2 := by
  obtain ⟨rP, rD, rC, rS, rR, rK, r5, rL, rM, rX⟩ := id hR
  have hz : jFq hp h2 [31, 32, 33, 34, 35, 36, 37, 38, 39, 40, 41, 42, 59, 60, 61, 62, 63, 64, 65, 66, 67, 68, 69, 70, 71, 72] [10, 11, 26] := hf1.q.tr hf2 (by simp) (by simp) (by simp) (by simp)
  have hL : jRL h2 := jRL_c (jCl_m hC hf2 (by intro q hq z; simp at z <;> omega)) hz (by simp) (by simp)
  exact ⟨jRP_fr rP hz (by simp) (by simp), jRD_fr rD hz (by simp) (by simp), jRC_fr (show n ≤ n + 1 by omega) rC hz (by simp) (by simp), jRS_fr rS hz (by simp) (by simp), jRR_fr rR hz (by simp), jRK_fr rK hz (by simp) (by simp), jR5_fr r5 hz (by simp), hL, hM2, jRX_fr rX hz (by simp)⟩
theorem jKm_c {hp h1 : jm_H} (rD : jRD hp) (hf1 : jFr hp h1 [31, 32, 33, 34, 35, 36, 37, 38, 39, 40, 41, 42]) : jmK h1 = jK0 hp ∧ jmO h1 = jO0 hp := by
  have a := jmK_fr hf1.q (by simp) (by simp) (by simp) (by simp)
  have b := jKm rD
  exact ⟨a.1.trans b.1, a.2.trans b.2⟩
theorem jMC_c {hp h1 : jm_H} (rM : jMC hp) (hf1 : jFr hp h1 [31, 32, 33, 34, 35, 36, 37, 38, 39, 40, 41, 42]) : jMC h1 := jMC_fr rM hf1.q (by intro q hq z; simp at z <;> omega) (by simp)
theorem jML_c {hp h1 h2 : jm_H} (k1 : jmK h1 = jK0 hp ∧ jmO h1 = jO0 hp) (hM2 : jMC h2) (e : h2 56 10 = 0) (hf2 : jFq h1 h2 [59, 60, 61, 62, 63, 64, 65, 66, 67, 68, 69, 70, 71, 72] [10, 11, 26]) : jML h2 (jK0 hp) (jO0 hp) := by
  have a := jmK_fr hf2 (by simp) (by simp) (by simp) (by simp)
  have b := hM2.2.2 e
  rw [a.1, a.2, k1.1, k1.2] at b
  exact b
theorem k_see_f (xs ls : Int → Int) (n : Int) (hp : jm_H) (hR : jREL xs ls n hp) (hn : n ≤ 1000000) (p w b : Int) (hp32 : jR32 p) (hw : jR32 w) (hb : b = 0 ∨ b = 1) (hs : hp 9 3 = 6) : jm_Ev 111 0 [jR 0, jI p, jI w, jI b] [] hp (jSam 199 [jR 56, jI p, jI w, jI b] xs ls n) := by
  obtain ⟨rP, rD, rC, rS, rR, rK, r5, rL, rM, rX⟩ := id hR
  have wh := jwh rD.1
  have e67 : hp 56 6 * hp 56 7 = hp 3 1 * hp 3 2 := by rw [rD.2.1, rD.2.2.1]
  have s1 := rS.1.1
  have s2 := rS.1.2.1
  refine jm_Ev.bl 3 (pc' := 5) (A' := [jR 0, jI p, jI w, jI b]) (st' := [jI p, jR 3]) (hp' := hp) rfl ?_
  refine jE_callI (vs := [jR 3, jI p]) (r := []) (nx := 8) (v := jI (jb (decide (0 ≤ p ∧ p < hp 3 1 * hp 3 2)))) (hp1 := hp) rfl (c_g_has_3 hp rD.1 p hp32) ?_
  refine jE_ifd_ne rfl (fun c8 => ?_) (fun c8 => ?_)
  · refine jm_Ev.bl 1 (pc' := 15) (A' := [jR 0, jI p, jI w, jI b]) (st' := [jI w]) (hp' := hp) rfl ?_
    refine jE_if_lt rfl (by omega) (fun c15 => ?_) (fun c15 => ?_)
    · refine jm_Ev.bl 1 (pc' := 25) (A' := [jR 0, jI p, jI w, jI b]) (st' := [jI (-102)]) (hp' := hp) rfl ?_
      refine jE_ret rfl ⟨_, rfl, by omega, rX, ?_⟩
      have e30 : hp 56 30 = (hp 9 3) := rS.2.1
      show jm_Ev 199 0 [jR 56, jI p, jI w, jI b] [] hp _
      refine jm_Ev.bl 2 (pc' := 2) (A' := [jR 56, jI p, jI w, jI b]) (st' := [jI p, jR 56]) (hp' := hp) rfl ?_
      refine jE_callI (vs := [jR 56, jI p]) (r := []) (nx := 5) (v := jI (jb (decide (0 ≤ p ∧ p < hp 3 1 * hp 3 2)))) (hp1 := hp) rfl (e67 ▸ c_m_isPlace hp rM.1 p hp32) ?_
      refine jE_ifd_ne rfl (fun m5 => ?_) (fun m5 => ?_)
      · refine jm_Ev.bl 1 (pc' := 12) (A' := [jR 56, jI p, jI w, jI b]) (st' := [jI w]) (hp' := hp) rfl ?_
        refine jE_i2l rfl (by omega) ?_
        refine jm_Ev.bl 2 (pc' := 17) (A' := [jR 56, jI p, jI w, jI b]) (st' := [jL 3, jL 0, jL w]) (hp' := hp) rfl ?_
        refine jE_callI (vs := [jL w, jL 0, jL 3]) (r := []) (nx := 20) (v := jI (jb (decide (0 ≤ w ∧ w ≤ 3)))) (hp1 := hp) rfl (c_m_in hp w 0 3 (by omega) (by omega) (by omega)) ?_
        refine jE_ifd_ne rfl (fun m20 => ?_) (fun m20 => ?_)
        · refine jm_Ev.bl 2 (pc' := 30) (A' := [jR 56, jI p, jI w, jI b]) (st' := [jI (hp 56 30)]) (hp' := hp) rfl ?_
          rw [e30]
          refine jm_Ev.bl 1 (pc' := 32) (A' := [jR 56, jI p, jI w, jI b]) (st' := [jI 6, jI (hp 9 3)]) (hp' := hp) rfl ?_
          refine jE_icmp_ne rfl (by omega) (by omega) (fun m32 => ?_) (fun m32 => ?_)
          · refine jm_Ev.bl 5 (pc' := 47) (A' := [jR 56, jI p, jI w, jI b]) (st' := [jI (hp 56 30), jI 3, jR 75]) (hp' := hp) rfl ?_
            rw [e30]
            refine jm_Ev.bl 2 (pc' := 49) (A' := [jR 56, jI p, jI w, jI b]) (st' := [jI p, jI (3 * (hp 9 3)), jR 75]) (hp' := hp) rfl ?_
            refine jE_iast (n := 18) rfl rfl (by omega) ?_
            refine jm_Ev.bl 5 (pc' := 59) (A' := [jR 56, jI p, jI w, jI b]) (st' := [jI (hp 56 30), jI 3, jR 75]) (hp' := (jm_hs hp 75 (3 * (hp 9 3)) p)) rfl ?_
            rw [e30]
            refine jm_Ev.bl 4 (pc' := 63) (A' := [jR 56, jI p, jI w, jI b]) (st' := [jI w, jI ((3 * (hp 9 3)) + 1), jR 75]) (hp' := (jm_hs hp 75 (3 * (hp 9 3)) p)) rfl ?_
            refine jE_iast (n := 18) rfl rfl (by omega) ?_
            refine jm_Ev.bl 5 (pc' := 73) (A' := [jR 56, jI p, jI w, jI b]) (st' := [jI (hp 56 30), jI 3, jR 75]) (hp' := (jm_hs (jm_hs hp 75 (3 * (hp 9 3)) p) 75 ((3 * (hp 9 3)) + 1) w)) rfl ?_
            rw [e30]
            refine jm_Ev.bl 4 (pc' := 77) (A' := [jR 56, jI p, jI w, jI b]) (st' := [jI b, jI ((3 * (hp 9 3)) + 2), jR 75]) (hp' := (jm_hs (jm_hs hp 75 (3 * (hp 9 3)) p) 75 ((3 * (hp 9 3)) + 1) w)) rfl ?_
            refine jE_if_eq rfl (by omega) (fun m77 => ?_) (fun m77 => ?_)
            · refine jm_Ev.bl 1 (pc' := 85) (A' := [jR 56, jI p, jI w, jI b]) (st' := [jI 0, jI ((3 * (hp 9 3)) + 2), jR 75]) (hp' := (jm_hs (jm_hs hp 75 (3 * (hp 9 3)) p) 75 ((3 * (hp 9 3)) + 1) w)) rfl ?_
              refine jE_iast (n := 18) rfl rfl (by omega) ?_
              refine jm_Ev.bl 3 (pc' := 91) (A' := [jR 56, jI p, jI w, jI b]) (st' := [jI (hp 56 30), jR 56]) (hp' := (jm_hs (jm_hs (jm_hs hp 75 (3 * (hp 9 3)) p) 75 ((3 * (hp 9 3)) + 1) w) 75 ((3 * (hp 9 3)) + 2) 0)) rfl ?_
              rw [e30]
              refine jm_Ev.bl 5 (pc' := 100) (A' := [jR 56, jI p, jI w, jI b]) (st' := [jI ((hp 9 3) + 1)]) (hp' := (jm_hs (jm_hs (jm_hs (jm_hs hp 75 (3 * (hp 9 3)) p) 75 ((3 * (hp 9 3)) + 1) w) 75 ((3 * (hp 9 3)) + 2) 0) 56 30 ((hp 9 3) + 1))) rfl ?_
              omega
            · refine jm_Ev.bl 2 (pc' := 85) (A' := [jR 56, jI p, jI w, jI b]) (st' := [jI 1, jI ((3 * (hp 9 3)) + 2), jR 75]) (hp' := (jm_hs (jm_hs hp 75 (3 * (hp 9 3)) p) 75 ((3 * (hp 9 3)) + 1) w)) rfl ?_
              refine jE_iast (n := 18) rfl rfl (by omega) ?_
              refine jm_Ev.bl 3 (pc' := 91) (A' := [jR 56, jI p, jI w, jI b]) (st' := [jI (hp 56 30), jR 56]) (hp' := (jm_hs (jm_hs (jm_hs hp 75 (3 * (hp 9 3)) p) 75 ((3 * (hp 9 3)) + 1) w) 75 ((3 * (hp 9 3)) + 2) 1)) rfl ?_
              rw [e30]
              refine jm_Ev.bl 5 (pc' := 100) (A' := [jR 56, jI p, jI w, jI b]) (st' := [jI ((hp 9 3) + 1)]) (hp' := (jm_hs (jm_hs (jm_hs (jm_hs hp 75 (3 * (hp 9 3)) p) 75 ((3 * (hp 9 3)) + 1) w) 75 ((3 * (hp 9 3)) + 2) 1) 56 30 ((hp 9 3) + 1))) rfl ?_
              omega
          · refine jm_Ev.bl 1 (pc' := 37) (A' := [jR 56, jI p, jI w, jI b]) (st' := [jI (-104)]) (hp' := hp) rfl ?_
            omega
        · refine jm_Ev.bl 1 (pc' := 25) (A' := [jR 56, jI p, jI w, jI b]) (st' := [jI (-102)]) (hp' := hp) rfl ?_
          exact jE_ret rfl ⟨rfl, ⟨jRP_fr rP (jFq.rf (S := []) (F := [])) (by simp) (by simp), jRD_fr rD (jFq.rf (S := []) (F := [])) (by simp) (by simp), jRC_fr (show n ≤ n + 1 by omega) rC (jFq.rf (S := []) (F := [])) (by simp) (by simp), jRS_fr rS (jFq.rf (S := []) (F := [])) (by simp) (by simp), jRR_fr rR (jFq.rf (S := []) (F := [])) (by simp), jRK_fr rK (jFq.rf (S := []) (F := [])) (by simp) (by simp), jR5_fr r5 (jFq.rf (S := []) (F := [])) (by simp), jRL_fr rL (jFq.rf (S := []) (F := [])) (by intro q hq z; simp at z <;> omega), jMC_fr rM (jFq.rf (S := []) (F := [])) (by intro q hq z; simp at z <;> omega) (by simp), jRX_fr rX (jFq.rf (S := []) (F := [])) (by simp)⟩⟩
      · refine jm_Ev.bl 1 (pc' := 10) (A' := [jR 56, jI p, jI w, jI b]) (st' := [jI (-101)]) (hp' := hp) rfl ?_
        exact absurd c8 m5
    · refine jm_Ev.bl 2 (pc' := 20) (A' := [jR 0, jI p, jI w, jI b]) (st' := [jI 4, jI w]) (hp' := hp) rfl ?_
      refine jE_icmp_lt rfl (by omega) (by omega) (fun c20 => ?_) (fun c20 => ?_)
      · refine jm_Ev.bl 5 (pc' := 33) (A' := [jR 0, jI p, jI w, jI b]) (st' := [jI b, jI w, jI p, jR 9]) (hp' := hp) rfl ?_
        refine jE_callI (vs := [jR 9, jI p, jI w, jI b]) (r := []) (nx := 36) (v := jI 0) (hp1 := hp) rfl (c_s_add_full hp hs p w b) ?_
        refine jE_if_eq rfl (by omega) (fun _ => ?_) (fun c36 => absurd c36 (by omega))
        refine jm_Ev.bl 1 (pc' := 51) (A' := [jR 0, jI p, jI w, jI b]) (st' := [jI (-104)]) (hp' := hp) rfl ?_
        refine jE_ret rfl ⟨_, rfl, by omega, rX, ?_⟩
        have e30 : hp 56 30 = (hp 9 3) := rS.2.1
        show jm_Ev 199 0 [jR 56, jI p, jI w, jI b] [] hp _
        refine jm_Ev.bl 2 (pc' := 2) (A' := [jR 56, jI p, jI w, jI b]) (st' := [jI p, jR 56]) (hp' := hp) rfl ?_
        refine jE_callI (vs := [jR 56, jI p]) (r := []) (nx := 5) (v := jI (jb (decide (0 ≤ p ∧ p < hp 3 1 * hp 3 2)))) (hp1 := hp) rfl (e67 ▸ c_m_isPlace hp rM.1 p hp32) ?_
        refine jE_ifd_ne rfl (fun m5 => ?_) (fun m5 => ?_)
        · refine jm_Ev.bl 1 (pc' := 12) (A' := [jR 56, jI p, jI w, jI b]) (st' := [jI w]) (hp' := hp) rfl ?_
          refine jE_i2l rfl (by omega) ?_
          refine jm_Ev.bl 2 (pc' := 17) (A' := [jR 56, jI p, jI w, jI b]) (st' := [jL 3, jL 0, jL w]) (hp' := hp) rfl ?_
          refine jE_callI (vs := [jL w, jL 0, jL 3]) (r := []) (nx := 20) (v := jI (jb (decide (0 ≤ w ∧ w ≤ 3)))) (hp1 := hp) rfl (c_m_in hp w 0 3 (by omega) (by omega) (by omega)) ?_
          refine jE_ifd_ne rfl (fun m20 => ?_) (fun m20 => ?_)
          · refine jm_Ev.bl 2 (pc' := 30) (A' := [jR 56, jI p, jI w, jI b]) (st' := [jI (hp 56 30)]) (hp' := hp) rfl ?_
            rw [e30]
            refine jm_Ev.bl 1 (pc' := 32) (A' := [jR 56, jI p, jI w, jI b]) (st' := [jI 6, jI (hp 9 3)]) (hp' := hp) rfl ?_
            refine jE_icmp_ne rfl (by omega) (by omega) (fun m32 => ?_) (fun m32 => ?_)
            · refine jm_Ev.bl 5 (pc' := 47) (A' := [jR 56, jI p, jI w, jI b]) (st' := [jI (hp 56 30), jI 3, jR 75]) (hp' := hp) rfl ?_
              rw [e30]
              refine jm_Ev.bl 2 (pc' := 49) (A' := [jR 56, jI p, jI w, jI b]) (st' := [jI p, jI (3 * (hp 9 3)), jR 75]) (hp' := hp) rfl ?_
              refine jE_iast (n := 18) rfl rfl (by omega) ?_
              refine jm_Ev.bl 5 (pc' := 59) (A' := [jR 56, jI p, jI w, jI b]) (st' := [jI (hp 56 30), jI 3, jR 75]) (hp' := (jm_hs hp 75 (3 * (hp 9 3)) p)) rfl ?_
              rw [e30]
              refine jm_Ev.bl 4 (pc' := 63) (A' := [jR 56, jI p, jI w, jI b]) (st' := [jI w, jI ((3 * (hp 9 3)) + 1), jR 75]) (hp' := (jm_hs hp 75 (3 * (hp 9 3)) p)) rfl ?_
              refine jE_iast (n := 18) rfl rfl (by omega) ?_
              refine jm_Ev.bl 5 (pc' := 73) (A' := [jR 56, jI p, jI w, jI b]) (st' := [jI (hp 56 30), jI 3, jR 75]) (hp' := (jm_hs (jm_hs hp 75 (3 * (hp 9 3)) p) 75 ((3 * (hp 9 3)) + 1) w)) rfl ?_
              rw [e30]
              refine jm_Ev.bl 4 (pc' := 77) (A' := [jR 56, jI p, jI w, jI b]) (st' := [jI b, jI ((3 * (hp 9 3)) + 2), jR 75]) (hp' := (jm_hs (jm_hs hp 75 (3 * (hp 9 3)) p) 75 ((3 * (hp 9 3)) + 1) w)) rfl ?_
              refine jE_if_eq rfl (by omega) (fun m77 => ?_) (fun m77 => ?_)
              · refine jm_Ev.bl 1 (pc' := 85) (A' := [jR 56, jI p, jI w, jI b]) (st' := [jI 0, jI ((3 * (hp 9 3)) + 2), jR 75]) (hp' := (jm_hs (jm_hs hp 75 (3 * (hp 9 3)) p) 75 ((3 * (hp 9 3)) + 1) w)) rfl ?_
                refine jE_iast (n := 18) rfl rfl (by omega) ?_
                refine jm_Ev.bl 3 (pc' := 91) (A' := [jR 56, jI p, jI w, jI b]) (st' := [jI (hp 56 30), jR 56]) (hp' := (jm_hs (jm_hs (jm_hs hp 75 (3 * (hp 9 3)) p) 75 ((3 * (hp 9 3)) + 1) w) 75 ((3 * (hp 9 3)) + 2) 0)) rfl ?_
                rw [e30]
                refine jm_Ev.bl 5 (pc' := 100) (A' := [jR 56, jI p, jI w, jI b]) (st' := [jI ((hp 9 3) + 1)]) (hp' := (jm_hs (jm_hs (jm_hs (jm_hs hp 75 (3 * (hp 9 3)) p) 75 ((3 * (hp 9 3)) + 1) w) 75 ((3 * (hp 9 3)) + 2) 0) 56 30 ((hp 9 3) + 1))) rfl ?_
                omega
              · refine jm_Ev.bl 2 (pc' := 85) (A' := [jR 56, jI p, jI w, jI b]) (st' := [jI 1, jI ((3 * (hp 9 3)) + 2), jR 75]) (hp' := (jm_hs (jm_hs hp 75 (3 * (hp 9 3)) p) 75 ((3 * (hp 9 3)) + 1) w)) rfl ?_
                refine jE_iast (n := 18) rfl rfl (by omega) ?_
                refine jm_Ev.bl 3 (pc' := 91) (A' := [jR 56, jI p, jI w, jI b]) (st' := [jI (hp 56 30), jR 56]) (hp' := (jm_hs (jm_hs (jm_hs hp 75 (3 * (hp 9 3)) p) 75 ((3 * (hp 9 3)) + 1) w) 75 ((3 * (hp 9 3)) + 2) 1)) rfl ?_
                rw [e30]
                refine jm_Ev.bl 5 (pc' := 100) (A' := [jR 56, jI p, jI w, jI b]) (st' := [jI ((hp 9 3) + 1)]) (hp' := (jm_hs (jm_hs (jm_hs (jm_hs hp 75 (3 * (hp 9 3)) p) 75 ((3 * (hp 9 3)) + 1) w) 75 ((3 * (hp 9 3)) + 2) 1) 56 30 ((hp 9 3) + 1))) rfl ?_
                omega
            · refine jm_Ev.bl 1 (pc' := 37) (A' := [jR 56, jI p, jI w, jI b]) (st' := [jI (-104)]) (hp' := hp) rfl ?_
              exact jE_ret rfl ⟨rfl, ⟨jRP_fr rP (jFq.rf (S := []) (F := [])) (by simp) (by simp), jRD_fr rD (jFq.rf (S := []) (F := [])) (by simp) (by simp), jRC_fr (show n ≤ n + 1 by omega) rC (jFq.rf (S := []) (F := [])) (by simp) (by simp), jRS_fr rS (jFq.rf (S := []) (F := [])) (by simp) (by simp), jRR_fr rR (jFq.rf (S := []) (F := [])) (by simp), jRK_fr rK (jFq.rf (S := []) (F := [])) (by simp) (by simp), jR5_fr r5 (jFq.rf (S := []) (F := [])) (by simp), jRL_fr rL (jFq.rf (S := []) (F := [])) (by intro q hq z; simp at z <;> omega), jMC_fr rM (jFq.rf (S := []) (F := [])) (by intro q hq z; simp at z <;> omega) (by simp), jRX_fr rX (jFq.rf (S := []) (F := [])) (by simp)⟩⟩
          · refine jm_Ev.bl 1 (pc' := 25) (A' := [jR 56, jI p, jI w, jI b]) (st' := [jI (-102)]) (hp' := hp) rfl ?_
            omega
        · refine jm_Ev.bl 1 (pc' := 10) (A' := [jR 56, jI p, jI w, jI b]) (st' := [jI (-101)]) (hp' := hp) rfl ?_
          exact absurd c8 m5
      · refine jm_Ev.bl 1 (pc' := 25) (A' := [jR 0, jI p, jI w, jI b]) (st' := [jI (-102)]) (hp' := hp) rfl ?_
        refine jE_ret rfl ⟨_, rfl, by omega, rX, ?_⟩
        have e30 : hp 56 30 = (hp 9 3) := rS.2.1
        show jm_Ev 199 0 [jR 56, jI p, jI w, jI b] [] hp _
        refine jm_Ev.bl 2 (pc' := 2) (A' := [jR 56, jI p, jI w, jI b]) (st' := [jI p, jR 56]) (hp' := hp) rfl ?_
        refine jE_callI (vs := [jR 56, jI p]) (r := []) (nx := 5) (v := jI (jb (decide (0 ≤ p ∧ p < hp 3 1 * hp 3 2)))) (hp1 := hp) rfl (e67 ▸ c_m_isPlace hp rM.1 p hp32) ?_
        refine jE_ifd_ne rfl (fun m5 => ?_) (fun m5 => ?_)
        · refine jm_Ev.bl 1 (pc' := 12) (A' := [jR 56, jI p, jI w, jI b]) (st' := [jI w]) (hp' := hp) rfl ?_
          refine jE_i2l rfl (by omega) ?_
          refine jm_Ev.bl 2 (pc' := 17) (A' := [jR 56, jI p, jI w, jI b]) (st' := [jL 3, jL 0, jL w]) (hp' := hp) rfl ?_
          refine jE_callI (vs := [jL w, jL 0, jL 3]) (r := []) (nx := 20) (v := jI (jb (decide (0 ≤ w ∧ w ≤ 3)))) (hp1 := hp) rfl (c_m_in hp w 0 3 (by omega) (by omega) (by omega)) ?_
          refine jE_ifd_ne rfl (fun m20 => ?_) (fun m20 => ?_)
          · refine jm_Ev.bl 2 (pc' := 30) (A' := [jR 56, jI p, jI w, jI b]) (st' := [jI (hp 56 30)]) (hp' := hp) rfl ?_
            rw [e30]
            refine jm_Ev.bl 1 (pc' := 32) (A' := [jR 56, jI p, jI w, jI b]) (st' := [jI 6, jI (hp 9 3)]) (hp' := hp) rfl ?_
            refine jE_icmp_ne rfl (by omega) (by omega) (fun m32 => ?_) (fun m32 => ?_)
            · refine jm_Ev.bl 5 (pc' := 47) (A' := [jR 56, jI p, jI w, jI b]) (st' := [jI (hp 56 30), jI 3, jR 75]) (hp' := hp) rfl ?_
              rw [e30]
              refine jm_Ev.bl 2 (pc' := 49) (A' := [jR 56, jI p, jI w, jI b]) (st' := [jI p, jI (3 * (hp 9 3)), jR 75]) (hp' := hp) rfl ?_
              refine jE_iast (n := 18) rfl rfl (by omega) ?_
              refine jm_Ev.bl 5 (pc' := 59) (A' := [jR 56, jI p, jI w, jI b]) (st' := [jI (hp 56 30), jI 3, jR 75]) (hp' := (jm_hs hp 75 (3 * (hp 9 3)) p)) rfl ?_
              rw [e30]
              refine jm_Ev.bl 4 (pc' := 63) (A' := [jR 56, jI p, jI w, jI b]) (st' := [jI w, jI ((3 * (hp 9 3)) + 1), jR 75]) (hp' := (jm_hs hp 75 (3 * (hp 9 3)) p)) rfl ?_
              refine jE_iast (n := 18) rfl rfl (by omega) ?_
              refine jm_Ev.bl 5 (pc' := 73) (A' := [jR 56, jI p, jI w, jI b]) (st' := [jI (hp 56 30), jI 3, jR 75]) (hp' := (jm_hs (jm_hs hp 75 (3 * (hp 9 3)) p) 75 ((3 * (hp 9 3)) + 1) w)) rfl ?_
              rw [e30]
              refine jm_Ev.bl 4 (pc' := 77) (A' := [jR 56, jI p, jI w, jI b]) (st' := [jI b, jI ((3 * (hp 9 3)) + 2), jR 75]) (hp' := (jm_hs (jm_hs hp 75 (3 * (hp 9 3)) p) 75 ((3 * (hp 9 3)) + 1) w)) rfl ?_
              refine jE_if_eq rfl (by omega) (fun m77 => ?_) (fun m77 => ?_)
              · refine jm_Ev.bl 1 (pc' := 85) (A' := [jR 56, jI p, jI w, jI b]) (st' := [jI 0, jI ((3 * (hp 9 3)) + 2), jR 75]) (hp' := (jm_hs (jm_hs hp 75 (3 * (hp 9 3)) p) 75 ((3 * (hp 9 3)) + 1) w)) rfl ?_
                refine jE_iast (n := 18) rfl rfl (by omega) ?_
                refine jm_Ev.bl 3 (pc' := 91) (A' := [jR 56, jI p, jI w, jI b]) (st' := [jI (hp 56 30), jR 56]) (hp' := (jm_hs (jm_hs (jm_hs hp 75 (3 * (hp 9 3)) p) 75 ((3 * (hp 9 3)) + 1) w) 75 ((3 * (hp 9 3)) + 2) 0)) rfl ?_
                rw [e30]
                refine jm_Ev.bl 5 (pc' := 100) (A' := [jR 56, jI p, jI w, jI b]) (st' := [jI ((hp 9 3) + 1)]) (hp' := (jm_hs (jm_hs (jm_hs (jm_hs hp 75 (3 * (hp 9 3)) p) 75 ((3 * (hp 9 3)) + 1) w) 75 ((3 * (hp 9 3)) + 2) 0) 56 30 ((hp 9 3) + 1))) rfl ?_
                omega
              · refine jm_Ev.bl 2 (pc' := 85) (A' := [jR 56, jI p, jI w, jI b]) (st' := [jI 1, jI ((3 * (hp 9 3)) + 2), jR 75]) (hp' := (jm_hs (jm_hs hp 75 (3 * (hp 9 3)) p) 75 ((3 * (hp 9 3)) + 1) w)) rfl ?_
                refine jE_iast (n := 18) rfl rfl (by omega) ?_
                refine jm_Ev.bl 3 (pc' := 91) (A' := [jR 56, jI p, jI w, jI b]) (st' := [jI (hp 56 30), jR 56]) (hp' := (jm_hs (jm_hs (jm_hs hp 75 (3 * (hp 9 3)) p) 75 ((3 * (hp 9 3)) + 1) w) 75 ((3 * (hp 9 3)) + 2) 1)) rfl ?_
                rw [e30]
                refine jm_Ev.bl 5 (pc' := 100) (A' := [jR 56, jI p, jI w, jI b]) (st' := [jI ((hp 9 3) + 1)]) (hp' := (jm_hs (jm_hs (jm_hs (jm_hs hp 75 (3 * (hp 9 3)) p) 75 ((3 * (hp 9 3)) + 1) w) 75 ((3 * (hp 9 3)) + 2) 1) 56 30 ((hp 9 3) + 1))) rfl ?_
                omega
            · refine jm_Ev.bl 1 (pc' := 37) (A' := [jR 56, jI p, jI w, jI b]) (st' := [jI (-104)]) (hp' := hp) rfl ?_
              omega
          · refine jm_Ev.bl 1 (pc' := 25) (A' := [jR 56, jI p, jI w, jI b]) (st' := [jI (-102)]) (hp' := hp) rfl ?_
            exact jE_ret rfl ⟨rfl, ⟨jRP_fr rP (jFq.rf (S := []) (F := [])) (by simp) (by simp), jRD_fr rD (jFq.rf (S := []) (F := [])) (by simp) (by simp), jRC_fr (show n ≤ n + 1 by omega) rC (jFq.rf (S := []) (F := [])) (by simp) (by simp), jRS_fr rS (jFq.rf (S := []) (F := [])) (by simp) (by simp), jRR_fr rR (jFq.rf (S := []) (F := [])) (by simp), jRK_fr rK (jFq.rf (S := []) (F := [])) (by simp) (by simp), jR5_fr r5 (jFq.rf (S := []) (F := [])) (by simp), jRL_fr rL (jFq.rf (S := []) (F := [])) (by intro q hq z; simp at z <;> omega), jMC_fr rM (jFq.rf (S := []) (F := [])) (by intro q hq z; simp at z <;> omega) (by simp), jRX_fr rX (jFq.rf (S := []) (F := [])) (by simp)⟩⟩
        · refine jm_Ev.bl 1 (pc' := 10) (A' := [jR 56, jI p, jI w, jI b]) (st' := [jI (-101)]) (hp' := hp) rfl ?_
          exact absurd c8 m5
  · refine jm_Ev.bl 1 (pc' := 13) (A' := [jR 0, jI p, jI w, jI b]) (st' := [jI (-101)]) (hp' := hp) rfl ?_
    refine jE_ret rfl ⟨_, rfl, by omega, rX, ?_⟩
    have e30 : hp 56 30 = (hp 9 3) := rS.2.1
    show jm_Ev 199 0 [jR 56, jI p, jI w, jI b] [] hp _
    refine jm_Ev.bl 2 (pc' := 2) (A' := [jR 56, jI p, jI w, jI b]) (st' := [jI p, jR 56]) (hp' := hp) rfl ?_
    refine jE_callI (vs := [jR 56, jI p]) (r := []) (nx := 5) (v := jI (jb (decide (0 ≤ p ∧ p < hp 3 1 * hp 3 2)))) (hp1 := hp) rfl (e67 ▸ c_m_isPlace hp rM.1 p hp32) ?_
    refine jE_ifd_ne rfl (fun m5 => ?_) (fun m5 => ?_)
    · refine jm_Ev.bl 1 (pc' := 12) (A' := [jR 56, jI p, jI w, jI b]) (st' := [jI w]) (hp' := hp) rfl ?_
      refine jE_i2l rfl (by omega) ?_
      refine jm_Ev.bl 2 (pc' := 17) (A' := [jR 56, jI p, jI w, jI b]) (st' := [jL 3, jL 0, jL w]) (hp' := hp) rfl ?_
      refine jE_callI (vs := [jL w, jL 0, jL 3]) (r := []) (nx := 20) (v := jI (jb (decide (0 ≤ w ∧ w ≤ 3)))) (hp1 := hp) rfl (c_m_in hp w 0 3 (by omega) (by omega) (by omega)) ?_
      refine jE_ifd_ne rfl (fun m20 => ?_) (fun m20 => ?_)
      · refine jm_Ev.bl 2 (pc' := 30) (A' := [jR 56, jI p, jI w, jI b]) (st' := [jI (hp 56 30)]) (hp' := hp) rfl ?_
        rw [e30]
        refine jm_Ev.bl 1 (pc' := 32) (A' := [jR 56, jI p, jI w, jI b]) (st' := [jI 6, jI (hp 9 3)]) (hp' := hp) rfl ?_
        refine jE_icmp_ne rfl (by omega) (by omega) (fun m32 => ?_) (fun m32 => ?_)
        · refine jm_Ev.bl 5 (pc' := 47) (A' := [jR 56, jI p, jI w, jI b]) (st' := [jI (hp 56 30), jI 3, jR 75]) (hp' := hp) rfl ?_
          rw [e30]
          refine jm_Ev.bl 2 (pc' := 49) (A' := [jR 56, jI p, jI w, jI b]) (st' := [jI p, jI (3 * (hp 9 3)), jR 75]) (hp' := hp) rfl ?_
          refine jE_iast (n := 18) rfl rfl (by omega) ?_
          refine jm_Ev.bl 5 (pc' := 59) (A' := [jR 56, jI p, jI w, jI b]) (st' := [jI (hp 56 30), jI 3, jR 75]) (hp' := (jm_hs hp 75 (3 * (hp 9 3)) p)) rfl ?_
          rw [e30]
          refine jm_Ev.bl 4 (pc' := 63) (A' := [jR 56, jI p, jI w, jI b]) (st' := [jI w, jI ((3 * (hp 9 3)) + 1), jR 75]) (hp' := (jm_hs hp 75 (3 * (hp 9 3)) p)) rfl ?_
          refine jE_iast (n := 18) rfl rfl (by omega) ?_
          refine jm_Ev.bl 5 (pc' := 73) (A' := [jR 56, jI p, jI w, jI b]) (st' := [jI (hp 56 30), jI 3, jR 75]) (hp' := (jm_hs (jm_hs hp 75 (3 * (hp 9 3)) p) 75 ((3 * (hp 9 3)) + 1) w)) rfl ?_
          rw [e30]
          refine jm_Ev.bl 4 (pc' := 77) (A' := [jR 56, jI p, jI w, jI b]) (st' := [jI b, jI ((3 * (hp 9 3)) + 2), jR 75]) (hp' := (jm_hs (jm_hs hp 75 (3 * (hp 9 3)) p) 75 ((3 * (hp 9 3)) + 1) w)) rfl ?_
          refine jE_if_eq rfl (by omega) (fun m77 => ?_) (fun m77 => ?_)
          · refine jm_Ev.bl 1 (pc' := 85) (A' := [jR 56, jI p, jI w, jI b]) (st' := [jI 0, jI ((3 * (hp 9 3)) + 2), jR 75]) (hp' := (jm_hs (jm_hs hp 75 (3 * (hp 9 3)) p) 75 ((3 * (hp 9 3)) + 1) w)) rfl ?_
            refine jE_iast (n := 18) rfl rfl (by omega) ?_
            refine jm_Ev.bl 3 (pc' := 91) (A' := [jR 56, jI p, jI w, jI b]) (st' := [jI (hp 56 30), jR 56]) (hp' := (jm_hs (jm_hs (jm_hs hp 75 (3 * (hp 9 3)) p) 75 ((3 * (hp 9 3)) + 1) w) 75 ((3 * (hp 9 3)) + 2) 0)) rfl ?_
            rw [e30]
            refine jm_Ev.bl 5 (pc' := 100) (A' := [jR 56, jI p, jI w, jI b]) (st' := [jI ((hp 9 3) + 1)]) (hp' := (jm_hs (jm_hs (jm_hs (jm_hs hp 75 (3 * (hp 9 3)) p) 75 ((3 * (hp 9 3)) + 1) w) 75 ((3 * (hp 9 3)) + 2) 0) 56 30 ((hp 9 3) + 1))) rfl ?_
            exact absurd m5 c8
          · refine jm_Ev.bl 2 (pc' := 85) (A' := [jR 56, jI p, jI w, jI b]) (st' := [jI 1, jI ((3 * (hp 9 3)) + 2), jR 75]) (hp' := (jm_hs (jm_hs hp 75 (3 * (hp 9 3)) p) 75 ((3 * (hp 9 3)) + 1) w)) rfl ?_
            refine jE_iast (n := 18) rfl rfl (by omega) ?_
            refine jm_Ev.bl 3 (pc' := 91) (A' := [jR 56, jI p, jI w, jI b]) (st' := [jI (hp 56 30), jR 56]) (hp' := (jm_hs (jm_hs (jm_hs hp 75 (3 * (hp 9 3)) p) 75 ((3 * (hp 9 3)) + 1) w) 75 ((3 * (hp 9 3)) + 2) 1)) rfl ?_
            rw [e30]
            refine jm_Ev.bl 5 (pc' := 100) (A' := [jR 56, jI p, jI w, jI b]) (st' := [jI ((hp 9 3) + 1)]) (hp' := (jm_hs (jm_hs (jm_hs (jm_hs hp 75 (3 * (hp 9 3)) p) 75 ((3 * (hp 9 3)) + 1) w) 75 ((3 * (hp 9 3)) + 2) 1) 56 30 ((hp 9 3) + 1))) rfl ?_
            exact absurd m5 c8
        · refine jm_Ev.bl 1 (pc' := 37) (A' := [jR 56, jI p, jI w, jI b]) (st' := [jI (-104)]) (hp' := hp) rfl ?_
          exact absurd m5 c8
      · refine jm_Ev.bl 1 (pc' := 25) (A' := [jR 56, jI p, jI w, jI b]) (st' := [jI (-102)]) (hp' := hp) rfl ?_
        exact absurd m5 c8
    · refine jm_Ev.bl 1 (pc' := 10) (A' := [jR 56, jI p, jI w, jI b]) (st' := [jI (-101)]) (hp' := hp) rfl ?_
      exact jE_ret rfl ⟨rfl, ⟨jRP_fr rP (jFq.rf (S := []) (F := [])) (by simp) (by simp), jRD_fr rD (jFq.rf (S := []) (F := [])) (by simp) (by simp), jRC_fr (show n ≤ n + 1 by omega) rC (jFq.rf (S := []) (F := [])) (by simp) (by simp), jRS_fr rS (jFq.rf (S := []) (F := [])) (by simp) (by simp), jRR_fr rR (jFq.rf (S := []) (F := [])) (by simp), jRK_fr rK (jFq.rf (S := []) (F := [])) (by simp) (by simp), jR5_fr r5 (jFq.rf (S := []) (F := [])) (by simp), jRL_fr rL (jFq.rf (S := []) (F := [])) (by intro q hq z; simp at z <;> omega), jMC_fr rM (jFq.rf (S := []) (F := [])) (by intro q hq z; simp at z <;> omega) (by simp), jRX_fr rX (jFq.rf (S := []) (F := [])) (by simp)⟩⟩
theorem k_see_n (xs ls : Int → Int) (n : Int) (hp : jm_H) (hR : jREL xs ls n hp) (hn : n ≤ 1000000) (p w b : Int) (hp32 : jR32 p) (hw : jR32 w) (hb : b = 0 ∨ b = 1) (hs : hp 9 3 < 6) : jm_Ev 111 0 [jR 0, jI p, jI w, jI b] [] hp (jSam 199 [jR 56, jI p, jI w, jI b] xs ls n) := by
  obtain ⟨rP, rD, rC, rS, rR, rK, r5, rL, rM, rX⟩ := id hR
  have wh := jwh rD.1
  have e67 : hp 56 6 * hp 56 7 = hp 3 1 * hp 3 2 := by rw [rD.2.1, rD.2.2.1]
  have s1 := rS.1.1
  have s2 := rS.1.2.1
  refine jm_Ev.bl 3 (pc' := 5) (A' := [jR 0, jI p, jI w, jI b]) (st' := [jI p, jR 3]) (hp' := hp) rfl ?_
  refine jE_callI (vs := [jR 3, jI p]) (r := []) (nx := 8) (v := jI (jb (decide (0 ≤ p ∧ p < hp 3 1 * hp 3 2)))) (hp1 := hp) rfl (c_g_has_3 hp rD.1 p hp32) ?_
  refine jE_ifd_ne rfl (fun c8 => ?_) (fun c8 => ?_)
  · refine jm_Ev.bl 1 (pc' := 15) (A' := [jR 0, jI p, jI w, jI b]) (st' := [jI w]) (hp' := hp) rfl ?_
    refine jE_if_lt rfl (by omega) (fun c15 => ?_) (fun c15 => ?_)
    · refine jm_Ev.bl 1 (pc' := 25) (A' := [jR 0, jI p, jI w, jI b]) (st' := [jI (-102)]) (hp' := hp) rfl ?_
      refine jE_ret rfl ⟨_, rfl, by omega, rX, ?_⟩
      have e30 : hp 56 30 = (hp 9 3) := rS.2.1
      show jm_Ev 199 0 [jR 56, jI p, jI w, jI b] [] hp _
      refine jm_Ev.bl 2 (pc' := 2) (A' := [jR 56, jI p, jI w, jI b]) (st' := [jI p, jR 56]) (hp' := hp) rfl ?_
      refine jE_callI (vs := [jR 56, jI p]) (r := []) (nx := 5) (v := jI (jb (decide (0 ≤ p ∧ p < hp 3 1 * hp 3 2)))) (hp1 := hp) rfl (e67 ▸ c_m_isPlace hp rM.1 p hp32) ?_
      refine jE_ifd_ne rfl (fun m5 => ?_) (fun m5 => ?_)
      · refine jm_Ev.bl 1 (pc' := 12) (A' := [jR 56, jI p, jI w, jI b]) (st' := [jI w]) (hp' := hp) rfl ?_
        refine jE_i2l rfl (by omega) ?_
        refine jm_Ev.bl 2 (pc' := 17) (A' := [jR 56, jI p, jI w, jI b]) (st' := [jL 3, jL 0, jL w]) (hp' := hp) rfl ?_
        refine jE_callI (vs := [jL w, jL 0, jL 3]) (r := []) (nx := 20) (v := jI (jb (decide (0 ≤ w ∧ w ≤ 3)))) (hp1 := hp) rfl (c_m_in hp w 0 3 (by omega) (by omega) (by omega)) ?_
        refine jE_ifd_ne rfl (fun m20 => ?_) (fun m20 => ?_)
        · refine jm_Ev.bl 2 (pc' := 30) (A' := [jR 56, jI p, jI w, jI b]) (st' := [jI (hp 56 30)]) (hp' := hp) rfl ?_
          rw [e30]
          refine jm_Ev.bl 1 (pc' := 32) (A' := [jR 56, jI p, jI w, jI b]) (st' := [jI 6, jI (hp 9 3)]) (hp' := hp) rfl ?_
          refine jE_icmp_ne rfl (by omega) (by omega) (fun m32 => ?_) (fun m32 => ?_)
          · refine jm_Ev.bl 5 (pc' := 47) (A' := [jR 56, jI p, jI w, jI b]) (st' := [jI (hp 56 30), jI 3, jR 75]) (hp' := hp) rfl ?_
            rw [e30]
            refine jm_Ev.bl 2 (pc' := 49) (A' := [jR 56, jI p, jI w, jI b]) (st' := [jI p, jI (3 * (hp 9 3)), jR 75]) (hp' := hp) rfl ?_
            refine jE_iast (n := 18) rfl rfl (by omega) ?_
            refine jm_Ev.bl 5 (pc' := 59) (A' := [jR 56, jI p, jI w, jI b]) (st' := [jI (hp 56 30), jI 3, jR 75]) (hp' := (jm_hs hp 75 (3 * (hp 9 3)) p)) rfl ?_
            rw [e30]
            refine jm_Ev.bl 4 (pc' := 63) (A' := [jR 56, jI p, jI w, jI b]) (st' := [jI w, jI ((3 * (hp 9 3)) + 1), jR 75]) (hp' := (jm_hs hp 75 (3 * (hp 9 3)) p)) rfl ?_
            refine jE_iast (n := 18) rfl rfl (by omega) ?_
            refine jm_Ev.bl 5 (pc' := 73) (A' := [jR 56, jI p, jI w, jI b]) (st' := [jI (hp 56 30), jI 3, jR 75]) (hp' := (jm_hs (jm_hs hp 75 (3 * (hp 9 3)) p) 75 ((3 * (hp 9 3)) + 1) w)) rfl ?_
            rw [e30]
            refine jm_Ev.bl 4 (pc' := 77) (A' := [jR 56, jI p, jI w, jI b]) (st' := [jI b, jI ((3 * (hp 9 3)) + 2), jR 75]) (hp' := (jm_hs (jm_hs hp 75 (3 * (hp 9 3)) p) 75 ((3 * (hp 9 3)) + 1) w)) rfl ?_
            refine jE_if_eq rfl (by omega) (fun m77 => ?_) (fun m77 => ?_)
            · refine jm_Ev.bl 1 (pc' := 85) (A' := [jR 56, jI p, jI w, jI b]) (st' := [jI 0, jI ((3 * (hp 9 3)) + 2), jR 75]) (hp' := (jm_hs (jm_hs hp 75 (3 * (hp 9 3)) p) 75 ((3 * (hp 9 3)) + 1) w)) rfl ?_
              refine jE_iast (n := 18) rfl rfl (by omega) ?_
              refine jm_Ev.bl 3 (pc' := 91) (A' := [jR 56, jI p, jI w, jI b]) (st' := [jI (hp 56 30), jR 56]) (hp' := (jm_hs (jm_hs (jm_hs hp 75 (3 * (hp 9 3)) p) 75 ((3 * (hp 9 3)) + 1) w) 75 ((3 * (hp 9 3)) + 2) 0)) rfl ?_
              rw [e30]
              refine jm_Ev.bl 5 (pc' := 100) (A' := [jR 56, jI p, jI w, jI b]) (st' := [jI ((hp 9 3) + 1)]) (hp' := (jm_hs (jm_hs (jm_hs (jm_hs hp 75 (3 * (hp 9 3)) p) 75 ((3 * (hp 9 3)) + 1) w) 75 ((3 * (hp 9 3)) + 2) 0) 56 30 ((hp 9 3) + 1))) rfl ?_
              omega
            · refine jm_Ev.bl 2 (pc' := 85) (A' := [jR 56, jI p, jI w, jI b]) (st' := [jI 1, jI ((3 * (hp 9 3)) + 2), jR 75]) (hp' := (jm_hs (jm_hs hp 75 (3 * (hp 9 3)) p) 75 ((3 * (hp 9 3)) + 1) w)) rfl ?_
              refine jE_iast (n := 18) rfl rfl (by omega) ?_
              refine jm_Ev.bl 3 (pc' := 91) (A' := [jR 56, jI p, jI w, jI b]) (st' := [jI (hp 56 30), jR 56]) (hp' := (jm_hs (jm_hs (jm_hs hp 75 (3 * (hp 9 3)) p) 75 ((3 * (hp 9 3)) + 1) w) 75 ((3 * (hp 9 3)) + 2) 1)) rfl ?_
              rw [e30]
              refine jm_Ev.bl 5 (pc' := 100) (A' := [jR 56, jI p, jI w, jI b]) (st' := [jI ((hp 9 3) + 1)]) (hp' := (jm_hs (jm_hs (jm_hs (jm_hs hp 75 (3 * (hp 9 3)) p) 75 ((3 * (hp 9 3)) + 1) w) 75 ((3 * (hp 9 3)) + 2) 1) 56 30 ((hp 9 3) + 1))) rfl ?_
              omega
          · refine jm_Ev.bl 1 (pc' := 37) (A' := [jR 56, jI p, jI w, jI b]) (st' := [jI (-104)]) (hp' := hp) rfl ?_
            omega
        · refine jm_Ev.bl 1 (pc' := 25) (A' := [jR 56, jI p, jI w, jI b]) (st' := [jI (-102)]) (hp' := hp) rfl ?_
          exact jE_ret rfl ⟨rfl, ⟨jRP_fr rP (jFq.rf (S := []) (F := [])) (by simp) (by simp), jRD_fr rD (jFq.rf (S := []) (F := [])) (by simp) (by simp), jRC_fr (show n ≤ n + 1 by omega) rC (jFq.rf (S := []) (F := [])) (by simp) (by simp), jRS_fr rS (jFq.rf (S := []) (F := [])) (by simp) (by simp), jRR_fr rR (jFq.rf (S := []) (F := [])) (by simp), jRK_fr rK (jFq.rf (S := []) (F := [])) (by simp) (by simp), jR5_fr r5 (jFq.rf (S := []) (F := [])) (by simp), jRL_fr rL (jFq.rf (S := []) (F := [])) (by intro q hq z; simp at z <;> omega), jMC_fr rM (jFq.rf (S := []) (F := [])) (by intro q hq z; simp at z <;> omega) (by simp), jRX_fr rX (jFq.rf (S := []) (F := [])) (by simp)⟩⟩
      · refine jm_Ev.bl 1 (pc' := 10) (A' := [jR 56, jI p, jI w, jI b]) (st' := [jI (-101)]) (hp' := hp) rfl ?_
        exact absurd c8 m5
    · refine jm_Ev.bl 2 (pc' := 20) (A' := [jR 0, jI p, jI w, jI b]) (st' := [jI 4, jI w]) (hp' := hp) rfl ?_
      refine jE_icmp_lt rfl (by omega) (by omega) (fun c20 => ?_) (fun c20 => ?_)
      · refine jm_Ev.bl 5 (pc' := 33) (A' := [jR 0, jI p, jI w, jI b]) (st' := [jI b, jI w, jI p, jR 9]) (hp' := hp) rfl ?_
        refine jE_callI (vs := [jR 9, jI p, jI w, jI b]) (r := []) (nx := 36) (v := jI 1) (hp1 := (jm_hs (jm_hs (jm_hs (jm_hs hp 10 (hp 9 3) p) 11 (hp 9 3) w) 12 (hp 9 3) b) 9 3 (hp 9 3 + 1))) rfl (c_s_add hp rS.1 p w b hb (by omega)) ?_
        refine jE_if_eq rfl (by omega) (fun c36 => absurd c36 (by omega)) (fun _ => ?_)
        refine jm_Ev.bl 4 (pc' := 51) (A' := [jR 0, jI p, jI w, jI b]) (st' := [jI ((jm_hs (jm_hs (jm_hs (jm_hs hp 10 (hp 9 3) p) 11 (hp 9 3) w) 12 (hp 9 3) b) 9 3 (hp 9 3 + 1)) 9 3)]) (hp' := (jm_hs (jm_hs (jm_hs (jm_hs hp 10 (hp 9 3) p) 11 (hp 9 3) w) 12 (hp 9 3) b) 9 3 (hp 9 3 + 1))) rfl ?_
        refine jE_ret rfl ⟨_, rfl, by show jR32 (hp 9 3 + 1); exact ⟨by omega, by omega⟩, rX, ?_⟩
        have e30 : (jm_hs (jm_hs (jm_hs (jm_hs hp 10 (hp 9 3) p) 11 (hp 9 3) w) 12 (hp 9 3) b) 9 3 (hp 9 3 + 1)) 56 30 = (hp 9 3) := rS.2.1
        show jm_Ev 199 0 [jR 56, jI p, jI w, jI b] [] (jm_hs (jm_hs (jm_hs (jm_hs hp 10 (hp 9 3) p) 11 (hp 9 3) w) 12 (hp 9 3) b) 9 3 (hp 9 3 + 1)) _
        refine jm_Ev.bl 2 (pc' := 2) (A' := [jR 56, jI p, jI w, jI b]) (st' := [jI p, jR 56]) (hp' := (jm_hs (jm_hs (jm_hs (jm_hs hp 10 (hp 9 3) p) 11 (hp 9 3) w) 12 (hp 9 3) b) 9 3 (hp 9 3 + 1))) rfl ?_
        refine jE_callI (vs := [jR 56, jI p]) (r := []) (nx := 5) (v := jI (jb (decide (0 ≤ p ∧ p < hp 3 1 * hp 3 2)))) (hp1 := (jm_hs (jm_hs (jm_hs (jm_hs hp 10 (hp 9 3) p) 11 (hp 9 3) w) 12 (hp 9 3) b) 9 3 (hp 9 3 + 1))) rfl (e67 ▸ c_m_isPlace (jm_hs (jm_hs (jm_hs (jm_hs hp 10 (hp 9 3) p) 11 (hp 9 3) w) 12 (hp 9 3) b) 9 3 (hp 9 3 + 1)) rM.1 p hp32) ?_
        refine jE_ifd_ne rfl (fun m5 => ?_) (fun m5 => ?_)
        · refine jm_Ev.bl 1 (pc' := 12) (A' := [jR 56, jI p, jI w, jI b]) (st' := [jI w]) (hp' := (jm_hs (jm_hs (jm_hs (jm_hs hp 10 (hp 9 3) p) 11 (hp 9 3) w) 12 (hp 9 3) b) 9 3 (hp 9 3 + 1))) rfl ?_
          refine jE_i2l rfl (by omega) ?_
          refine jm_Ev.bl 2 (pc' := 17) (A' := [jR 56, jI p, jI w, jI b]) (st' := [jL 3, jL 0, jL w]) (hp' := (jm_hs (jm_hs (jm_hs (jm_hs hp 10 (hp 9 3) p) 11 (hp 9 3) w) 12 (hp 9 3) b) 9 3 (hp 9 3 + 1))) rfl ?_
          refine jE_callI (vs := [jL w, jL 0, jL 3]) (r := []) (nx := 20) (v := jI (jb (decide (0 ≤ w ∧ w ≤ 3)))) (hp1 := (jm_hs (jm_hs (jm_hs (jm_hs hp 10 (hp 9 3) p) 11 (hp 9 3) w) 12 (hp 9 3) b) 9 3 (hp 9 3 + 1))) rfl (c_m_in (jm_hs (jm_hs (jm_hs (jm_hs hp 10 (hp 9 3) p) 11 (hp 9 3) w) 12 (hp 9 3) b) 9 3 (hp 9 3 + 1)) w 0 3 (by omega) (by omega) (by omega)) ?_
          refine jE_ifd_ne rfl (fun m20 => ?_) (fun m20 => ?_)
          · refine jm_Ev.bl 2 (pc' := 30) (A' := [jR 56, jI p, jI w, jI b]) (st' := [jI ((jm_hs (jm_hs (jm_hs (jm_hs hp 10 (hp 9 3) p) 11 (hp 9 3) w) 12 (hp 9 3) b) 9 3 (hp 9 3 + 1)) 56 30)]) (hp' := (jm_hs (jm_hs (jm_hs (jm_hs hp 10 (hp 9 3) p) 11 (hp 9 3) w) 12 (hp 9 3) b) 9 3 (hp 9 3 + 1))) rfl ?_
            rw [e30]
            refine jm_Ev.bl 1 (pc' := 32) (A' := [jR 56, jI p, jI w, jI b]) (st' := [jI 6, jI (hp 9 3)]) (hp' := (jm_hs (jm_hs (jm_hs (jm_hs hp 10 (hp 9 3) p) 11 (hp 9 3) w) 12 (hp 9 3) b) 9 3 (hp 9 3 + 1))) rfl ?_
            refine jE_icmp_ne rfl (by omega) (by omega) (fun m32 => ?_) (fun m32 => ?_)
            · refine jm_Ev.bl 5 (pc' := 47) (A' := [jR 56, jI p, jI w, jI b]) (st' := [jI ((jm_hs (jm_hs (jm_hs (jm_hs hp 10 (hp 9 3) p) 11 (hp 9 3) w) 12 (hp 9 3) b) 9 3 (hp 9 3 + 1)) 56 30), jI 3, jR 75]) (hp' := (jm_hs (jm_hs (jm_hs (jm_hs hp 10 (hp 9 3) p) 11 (hp 9 3) w) 12 (hp 9 3) b) 9 3 (hp 9 3 + 1))) rfl ?_
              rw [e30]
              refine jm_Ev.bl 2 (pc' := 49) (A' := [jR 56, jI p, jI w, jI b]) (st' := [jI p, jI (3 * (hp 9 3)), jR 75]) (hp' := (jm_hs (jm_hs (jm_hs (jm_hs hp 10 (hp 9 3) p) 11 (hp 9 3) w) 12 (hp 9 3) b) 9 3 (hp 9 3 + 1))) rfl ?_
              refine jE_iast (n := 18) rfl rfl (by omega) ?_
              refine jm_Ev.bl 5 (pc' := 59) (A' := [jR 56, jI p, jI w, jI b]) (st' := [jI ((jm_hs (jm_hs (jm_hs (jm_hs hp 10 (hp 9 3) p) 11 (hp 9 3) w) 12 (hp 9 3) b) 9 3 (hp 9 3 + 1)) 56 30), jI 3, jR 75]) (hp' := (jm_hs (jm_hs (jm_hs (jm_hs (jm_hs hp 10 (hp 9 3) p) 11 (hp 9 3) w) 12 (hp 9 3) b) 9 3 (hp 9 3 + 1)) 75 (3 * (hp 9 3)) p)) rfl ?_
              rw [e30]
              refine jm_Ev.bl 4 (pc' := 63) (A' := [jR 56, jI p, jI w, jI b]) (st' := [jI w, jI ((3 * (hp 9 3)) + 1), jR 75]) (hp' := (jm_hs (jm_hs (jm_hs (jm_hs (jm_hs hp 10 (hp 9 3) p) 11 (hp 9 3) w) 12 (hp 9 3) b) 9 3 (hp 9 3 + 1)) 75 (3 * (hp 9 3)) p)) rfl ?_
              refine jE_iast (n := 18) rfl rfl (by omega) ?_
              refine jm_Ev.bl 5 (pc' := 73) (A' := [jR 56, jI p, jI w, jI b]) (st' := [jI ((jm_hs (jm_hs (jm_hs (jm_hs hp 10 (hp 9 3) p) 11 (hp 9 3) w) 12 (hp 9 3) b) 9 3 (hp 9 3 + 1)) 56 30), jI 3, jR 75]) (hp' := (jm_hs (jm_hs (jm_hs (jm_hs (jm_hs (jm_hs hp 10 (hp 9 3) p) 11 (hp 9 3) w) 12 (hp 9 3) b) 9 3 (hp 9 3 + 1)) 75 (3 * (hp 9 3)) p) 75 ((3 * (hp 9 3)) + 1) w)) rfl ?_
              rw [e30]
              refine jm_Ev.bl 4 (pc' := 77) (A' := [jR 56, jI p, jI w, jI b]) (st' := [jI b, jI ((3 * (hp 9 3)) + 2), jR 75]) (hp' := (jm_hs (jm_hs (jm_hs (jm_hs (jm_hs (jm_hs hp 10 (hp 9 3) p) 11 (hp 9 3) w) 12 (hp 9 3) b) 9 3 (hp 9 3 + 1)) 75 (3 * (hp 9 3)) p) 75 ((3 * (hp 9 3)) + 1) w)) rfl ?_
              refine jE_if_eq rfl (by omega) (fun m77 => ?_) (fun m77 => ?_)
              · refine jm_Ev.bl 1 (pc' := 85) (A' := [jR 56, jI p, jI w, jI b]) (st' := [jI 0, jI ((3 * (hp 9 3)) + 2), jR 75]) (hp' := (jm_hs (jm_hs (jm_hs (jm_hs (jm_hs (jm_hs hp 10 (hp 9 3) p) 11 (hp 9 3) w) 12 (hp 9 3) b) 9 3 (hp 9 3 + 1)) 75 (3 * (hp 9 3)) p) 75 ((3 * (hp 9 3)) + 1) w)) rfl ?_
                refine jE_iast (n := 18) rfl rfl (by omega) ?_
                refine jm_Ev.bl 3 (pc' := 91) (A' := [jR 56, jI p, jI w, jI b]) (st' := [jI ((jm_hs (jm_hs (jm_hs (jm_hs hp 10 (hp 9 3) p) 11 (hp 9 3) w) 12 (hp 9 3) b) 9 3 (hp 9 3 + 1)) 56 30), jR 56]) (hp' := (jm_hs (jm_hs (jm_hs (jm_hs (jm_hs (jm_hs (jm_hs hp 10 (hp 9 3) p) 11 (hp 9 3) w) 12 (hp 9 3) b) 9 3 (hp 9 3 + 1)) 75 (3 * (hp 9 3)) p) 75 ((3 * (hp 9 3)) + 1) w) 75 ((3 * (hp 9 3)) + 2) 0)) rfl ?_
                rw [e30]
                refine jm_Ev.bl 5 (pc' := 100) (A' := [jR 56, jI p, jI w, jI b]) (st' := [jI ((hp 9 3) + 1)]) (hp' := (jm_hs (jm_hs (jm_hs (jm_hs (jm_hs (jm_hs (jm_hs (jm_hs hp 10 (hp 9 3) p) 11 (hp 9 3) w) 12 (hp 9 3) b) 9 3 (hp 9 3 + 1)) 75 (3 * (hp 9 3)) p) 75 ((3 * (hp 9 3)) + 1) w) 75 ((3 * (hp 9 3)) + 2) 0) 56 30 ((hp 9 3) + 1))) rfl ?_
                have hz0 : jFr hp (jm_hs (jm_hs (jm_hs (jm_hs hp 10 (hp 9 3) p) 11 (hp 9 3) w) 12 (hp 9 3) b) 9 3 (hp 9 3 + 1)) [9, 10, 11, 12] := (((jFr.rf.set (by simp)).set (by simp)).set (by simp)).set (by simp)
                have hz : jFq hp (jm_hs (jm_hs (jm_hs (jm_hs (jm_hs (jm_hs (jm_hs (jm_hs hp 10 (hp 9 3) p) 11 (hp 9 3) w) 12 (hp 9 3) b) 9 3 (hp 9 3 + 1)) 75 (3 * (hp 9 3)) p) 75 ((3 * (hp 9 3)) + 1) w) 75 ((3 * (hp 9 3)) + 2) 0) 56 30 ((hp 9 3) + 1)) [9, 10, 11, 12, 75] [30] := ((((hz0.q.wk (by simp) (by simp)).set (by simp)).set (by simp)).set (by simp)).sf (by simp)
                have hS : jRS (jm_hs (jm_hs (jm_hs (jm_hs (jm_hs (jm_hs (jm_hs (jm_hs hp 10 (hp 9 3) p) 11 (hp 9 3) w) 12 (hp 9 3) b) 9 3 (hp 9 3 + 1)) 75 (3 * (hp 9 3)) p) 75 ((3 * (hp 9 3)) + 1) w) 75 ((3 * (hp 9 3)) + 2) 0) 56 30 ((hp 9 3) + 1)) := by
                  refine ⟨⟨by show 0 ≤ hp 9 3 + 1; omega, by show hp 9 3 + 1 ≤ 6; omega, fun j j0 j1 => ?_, fun j j0 j1 => ?_, fun j j0 j1 => ?_⟩, rfl, fun j j0 j1 => ?_⟩
                  · show jR32 (jm_hs hp 10 (hp 9 3) p 10 j)
                    rw [js_hs_eq]; split
                    · exact hp32
                    · exact rS.1.2.2.1 j j0 j1
                  · show 0 ≤ jm_hs (jm_hs hp 10 (hp 9 3) p) 11 (hp 9 3) w 11 j ∧ jm_hs (jm_hs hp 10 (hp 9 3) p) 11 (hp 9 3) w 11 j ≤ 3
                    rw [js_hs_eq]; split
                    · omega
                    · exact rS.1.2.2.2.1 j j0 j1
                  · show jm_hs (jm_hs (jm_hs hp 10 (hp 9 3) p) 11 (hp 9 3) w) 12 (hp 9 3) b 12 j = 0 ∨ jm_hs (jm_hs (jm_hs hp 10 (hp 9 3) p) 11 (hp 9 3) w) 12 (hp 9 3) b 12 j = 1
                    rw [js_hs_eq]; split
                    · exact hb
                    · exact rS.1.2.2.2.2 j j0 j1
                  · have j1 : j < hp 9 3 + 1 := j1
                    have e10 : (jm_hs (jm_hs (jm_hs (jm_hs (jm_hs (jm_hs (jm_hs (jm_hs hp 10 (hp 9 3) p) 11 (hp 9 3) w) 12 (hp 9 3) b) 9 3 (hp 9 3 + 1)) 75 (3 * (hp 9 3)) p) 75 ((3 * (hp 9 3)) + 1) w) 75 ((3 * (hp 9 3)) + 2) 0) 56 30 ((hp 9 3) + 1)) 10 j = if j = (hp 9 3) then p else hp 10 j := (show _ = jm_hs hp 10 (hp 9 3) p 10 j from rfl).trans js_hs_eq
                    have e11 : (jm_hs (jm_hs (jm_hs (jm_hs (jm_hs (jm_hs (jm_hs (jm_hs hp 10 (hp 9 3) p) 11 (hp 9 3) w) 12 (hp 9 3) b) 9 3 (hp 9 3 + 1)) 75 (3 * (hp 9 3)) p) 75 ((3 * (hp 9 3)) + 1) w) 75 ((3 * (hp 9 3)) + 2) 0) 56 30 ((hp 9 3) + 1)) 11 j = if j = (hp 9 3) then w else hp 11 j := (show _ = jm_hs (jm_hs hp 10 (hp 9 3) p) 11 (hp 9 3) w 11 j from rfl).trans js_hs_eq
                    have e12 : (jm_hs (jm_hs (jm_hs (jm_hs (jm_hs (jm_hs (jm_hs (jm_hs hp 10 (hp 9 3) p) 11 (hp 9 3) w) 12 (hp 9 3) b) 9 3 (hp 9 3 + 1)) 75 (3 * (hp 9 3)) p) 75 ((3 * (hp 9 3)) + 1) w) 75 ((3 * (hp 9 3)) + 2) 0) 56 30 ((hp 9 3) + 1)) 12 j = if j = (hp 9 3) then b else hp 12 j := (show _ = jm_hs (jm_hs (jm_hs hp 10 (hp 9 3) p) 11 (hp 9 3) w) 12 (hp 9 3) b 12 j from rfl).trans js_hs_eq
                    have e75 : ∀ y, (jm_hs (jm_hs (jm_hs (jm_hs (jm_hs (jm_hs (jm_hs (jm_hs hp 10 (hp 9 3) p) 11 (hp 9 3) w) 12 (hp 9 3) b) 9 3 (hp 9 3 + 1)) 75 (3 * (hp 9 3)) p) 75 ((3 * (hp 9 3)) + 1) w) 75 ((3 * (hp 9 3)) + 2) 0) 56 30 ((hp 9 3) + 1)) 75 y = if y = 3 * (hp 9 3) + 2 then 0 else if y = 3 * (hp 9 3) + 1 then w else if y = 3 * (hp 9 3) then p else hp 75 y := by
                      intro y
                      show jm_hs (jm_hs (jm_hs (jm_hs (jm_hs (jm_hs (jm_hs hp 10 (hp 9 3) p) 11 (hp 9 3) w) 12 (hp 9 3) b) 9 3 (hp 9 3 + 1)) 75 (3 * (hp 9 3)) p) 75 (3 * (hp 9 3) + 1) w) 75 (3 * (hp 9 3) + 2) 0 75 y = _
                      rw [js_hs_eq, js_hs_eq, js_hs_eq]
                      rfl
                    rw [e10, e11, e12, e75, e75, e75]
                    by_cases e : j = (hp 9 3)
                    · rw [if_pos e, if_pos e, if_pos e, if_neg (show ¬ 3 * j = 3 * (hp 9 3) + 2 by omega), if_neg (show ¬ 3 * j = 3 * (hp 9 3) + 1 by omega), if_pos (show 3 * j = 3 * (hp 9 3) by omega), if_neg (show ¬ 3 * j + 1 = 3 * (hp 9 3) + 2 by omega), if_pos (show 3 * j + 1 = 3 * (hp 9 3) + 1 by omega), if_pos (show 3 * j + 2 = 3 * (hp 9 3) + 2 by omega)]
                      exact ⟨rfl, rfl, by omega⟩
                    · rw [if_neg e, if_neg e, if_neg e, if_neg (show ¬ 3 * j = 3 * (hp 9 3) + 2 by omega), if_neg (show ¬ 3 * j = 3 * (hp 9 3) + 1 by omega), if_neg (show ¬ 3 * j = 3 * (hp 9 3) by omega), if_neg (show ¬ 3 * j + 1 = 3 * (hp 9 3) + 2 by omega), if_neg (show ¬ 3 * j + 1 = 3 * (hp 9 3) + 1 by omega), if_neg (show ¬ 3 * j + 1 = 3 * (hp 9 3) by omega), if_neg (show ¬ 3 * j + 2 = 3 * (hp 9 3) + 2 by omega), if_neg (show ¬ 3 * j + 2 = 3 * (hp 9 3) + 1 by omega), if_neg (show ¬ 3 * j + 2 = 3 * (hp 9 3) by omega)]
                      exact rS.2.2 j j0 (by omega)
                exact jE_ret rfl ⟨rfl, ⟨jRP_fr rP hz (by simp) (by simp), jRD_fr rD hz (by simp) (by simp), jRC_fr (show n ≤ n + 1 by omega) rC hz (by simp) (by simp), hS, jRR_fr rR hz (by simp), jRK_fr rK hz (by simp) (by simp), jR5_fr r5 hz (by simp), jRL_fr rL hz (by intro q hq z; simp at z <;> omega), jMC_fr rM hz (by intro q hq z; simp at z <;> omega) (by simp), jRX_fr rX hz (by simp)⟩⟩
              · refine jm_Ev.bl 2 (pc' := 85) (A' := [jR 56, jI p, jI w, jI b]) (st' := [jI 1, jI ((3 * (hp 9 3)) + 2), jR 75]) (hp' := (jm_hs (jm_hs (jm_hs (jm_hs (jm_hs (jm_hs hp 10 (hp 9 3) p) 11 (hp 9 3) w) 12 (hp 9 3) b) 9 3 (hp 9 3 + 1)) 75 (3 * (hp 9 3)) p) 75 ((3 * (hp 9 3)) + 1) w)) rfl ?_
                refine jE_iast (n := 18) rfl rfl (by omega) ?_
                refine jm_Ev.bl 3 (pc' := 91) (A' := [jR 56, jI p, jI w, jI b]) (st' := [jI ((jm_hs (jm_hs (jm_hs (jm_hs hp 10 (hp 9 3) p) 11 (hp 9 3) w) 12 (hp 9 3) b) 9 3 (hp 9 3 + 1)) 56 30), jR 56]) (hp' := (jm_hs (jm_hs (jm_hs (jm_hs (jm_hs (jm_hs (jm_hs hp 10 (hp 9 3) p) 11 (hp 9 3) w) 12 (hp 9 3) b) 9 3 (hp 9 3 + 1)) 75 (3 * (hp 9 3)) p) 75 ((3 * (hp 9 3)) + 1) w) 75 ((3 * (hp 9 3)) + 2) 1)) rfl ?_
                rw [e30]
                refine jm_Ev.bl 5 (pc' := 100) (A' := [jR 56, jI p, jI w, jI b]) (st' := [jI ((hp 9 3) + 1)]) (hp' := (jm_hs (jm_hs (jm_hs (jm_hs (jm_hs (jm_hs (jm_hs (jm_hs hp 10 (hp 9 3) p) 11 (hp 9 3) w) 12 (hp 9 3) b) 9 3 (hp 9 3 + 1)) 75 (3 * (hp 9 3)) p) 75 ((3 * (hp 9 3)) + 1) w) 75 ((3 * (hp 9 3)) + 2) 1) 56 30 ((hp 9 3) + 1))) rfl ?_
                have hz0 : jFr hp (jm_hs (jm_hs (jm_hs (jm_hs hp 10 (hp 9 3) p) 11 (hp 9 3) w) 12 (hp 9 3) b) 9 3 (hp 9 3 + 1)) [9, 10, 11, 12] := (((jFr.rf.set (by simp)).set (by simp)).set (by simp)).set (by simp)
                have hz : jFq hp (jm_hs (jm_hs (jm_hs (jm_hs (jm_hs (jm_hs (jm_hs (jm_hs hp 10 (hp 9 3) p) 11 (hp 9 3) w) 12 (hp 9 3) b) 9 3 (hp 9 3 + 1)) 75 (3 * (hp 9 3)) p) 75 ((3 * (hp 9 3)) + 1) w) 75 ((3 * (hp 9 3)) + 2) 1) 56 30 ((hp 9 3) + 1)) [9, 10, 11, 12, 75] [30] := ((((hz0.q.wk (by simp) (by simp)).set (by simp)).set (by simp)).set (by simp)).sf (by simp)
                have hS : jRS (jm_hs (jm_hs (jm_hs (jm_hs (jm_hs (jm_hs (jm_hs (jm_hs hp 10 (hp 9 3) p) 11 (hp 9 3) w) 12 (hp 9 3) b) 9 3 (hp 9 3 + 1)) 75 (3 * (hp 9 3)) p) 75 ((3 * (hp 9 3)) + 1) w) 75 ((3 * (hp 9 3)) + 2) 1) 56 30 ((hp 9 3) + 1)) := by
                  refine ⟨⟨by show 0 ≤ hp 9 3 + 1; omega, by show hp 9 3 + 1 ≤ 6; omega, fun j j0 j1 => ?_, fun j j0 j1 => ?_, fun j j0 j1 => ?_⟩, rfl, fun j j0 j1 => ?_⟩
                  · show jR32 (jm_hs hp 10 (hp 9 3) p 10 j)
                    rw [js_hs_eq]; split
                    · exact hp32
                    · exact rS.1.2.2.1 j j0 j1
                  · show 0 ≤ jm_hs (jm_hs hp 10 (hp 9 3) p) 11 (hp 9 3) w 11 j ∧ jm_hs (jm_hs hp 10 (hp 9 3) p) 11 (hp 9 3) w 11 j ≤ 3
                    rw [js_hs_eq]; split
                    · omega
                    · exact rS.1.2.2.2.1 j j0 j1
                  · show jm_hs (jm_hs (jm_hs hp 10 (hp 9 3) p) 11 (hp 9 3) w) 12 (hp 9 3) b 12 j = 0 ∨ jm_hs (jm_hs (jm_hs hp 10 (hp 9 3) p) 11 (hp 9 3) w) 12 (hp 9 3) b 12 j = 1
                    rw [js_hs_eq]; split
                    · exact hb
                    · exact rS.1.2.2.2.2 j j0 j1
                  · have j1 : j < hp 9 3 + 1 := j1
                    have e10 : (jm_hs (jm_hs (jm_hs (jm_hs (jm_hs (jm_hs (jm_hs (jm_hs hp 10 (hp 9 3) p) 11 (hp 9 3) w) 12 (hp 9 3) b) 9 3 (hp 9 3 + 1)) 75 (3 * (hp 9 3)) p) 75 ((3 * (hp 9 3)) + 1) w) 75 ((3 * (hp 9 3)) + 2) 1) 56 30 ((hp 9 3) + 1)) 10 j = if j = (hp 9 3) then p else hp 10 j := (show _ = jm_hs hp 10 (hp 9 3) p 10 j from rfl).trans js_hs_eq
                    have e11 : (jm_hs (jm_hs (jm_hs (jm_hs (jm_hs (jm_hs (jm_hs (jm_hs hp 10 (hp 9 3) p) 11 (hp 9 3) w) 12 (hp 9 3) b) 9 3 (hp 9 3 + 1)) 75 (3 * (hp 9 3)) p) 75 ((3 * (hp 9 3)) + 1) w) 75 ((3 * (hp 9 3)) + 2) 1) 56 30 ((hp 9 3) + 1)) 11 j = if j = (hp 9 3) then w else hp 11 j := (show _ = jm_hs (jm_hs hp 10 (hp 9 3) p) 11 (hp 9 3) w 11 j from rfl).trans js_hs_eq
                    have e12 : (jm_hs (jm_hs (jm_hs (jm_hs (jm_hs (jm_hs (jm_hs (jm_hs hp 10 (hp 9 3) p) 11 (hp 9 3) w) 12 (hp 9 3) b) 9 3 (hp 9 3 + 1)) 75 (3 * (hp 9 3)) p) 75 ((3 * (hp 9 3)) + 1) w) 75 ((3 * (hp 9 3)) + 2) 1) 56 30 ((hp 9 3) + 1)) 12 j = if j = (hp 9 3) then b else hp 12 j := (show _ = jm_hs (jm_hs (jm_hs hp 10 (hp 9 3) p) 11 (hp 9 3) w) 12 (hp 9 3) b 12 j from rfl).trans js_hs_eq
                    have e75 : ∀ y, (jm_hs (jm_hs (jm_hs (jm_hs (jm_hs (jm_hs (jm_hs (jm_hs hp 10 (hp 9 3) p) 11 (hp 9 3) w) 12 (hp 9 3) b) 9 3 (hp 9 3 + 1)) 75 (3 * (hp 9 3)) p) 75 ((3 * (hp 9 3)) + 1) w) 75 ((3 * (hp 9 3)) + 2) 1) 56 30 ((hp 9 3) + 1)) 75 y = if y = 3 * (hp 9 3) + 2 then 1 else if y = 3 * (hp 9 3) + 1 then w else if y = 3 * (hp 9 3) then p else hp 75 y := by
                      intro y
                      show jm_hs (jm_hs (jm_hs (jm_hs (jm_hs (jm_hs (jm_hs hp 10 (hp 9 3) p) 11 (hp 9 3) w) 12 (hp 9 3) b) 9 3 (hp 9 3 + 1)) 75 (3 * (hp 9 3)) p) 75 (3 * (hp 9 3) + 1) w) 75 (3 * (hp 9 3) + 2) 1 75 y = _
                      rw [js_hs_eq, js_hs_eq, js_hs_eq]
                      rfl
                    rw [e10, e11, e12, e75, e75, e75]
                    by_cases e : j = (hp 9 3)
                    · rw [if_pos e, if_pos e, if_pos e, if_neg (show ¬ 3 * j = 3 * (hp 9 3) + 2 by omega), if_neg (show ¬ 3 * j = 3 * (hp 9 3) + 1 by omega), if_pos (show 3 * j = 3 * (hp 9 3) by omega), if_neg (show ¬ 3 * j + 1 = 3 * (hp 9 3) + 2 by omega), if_pos (show 3 * j + 1 = 3 * (hp 9 3) + 1 by omega), if_pos (show 3 * j + 2 = 3 * (hp 9 3) + 2 by omega)]
                      exact ⟨rfl, rfl, by omega⟩
                    · rw [if_neg e, if_neg e, if_neg e, if_neg (show ¬ 3 * j = 3 * (hp 9 3) + 2 by omega), if_neg (show ¬ 3 * j = 3 * (hp 9 3) + 1 by omega), if_neg (show ¬ 3 * j = 3 * (hp 9 3) by omega), if_neg (show ¬ 3 * j + 1 = 3 * (hp 9 3) + 2 by omega), if_neg (show ¬ 3 * j + 1 = 3 * (hp 9 3) + 1 by omega), if_neg (show ¬ 3 * j + 1 = 3 * (hp 9 3) by omega), if_neg (show ¬ 3 * j + 2 = 3 * (hp 9 3) + 2 by omega), if_neg (show ¬ 3 * j + 2 = 3 * (hp 9 3) + 1 by omega), if_neg (show ¬ 3 * j + 2 = 3 * (hp 9 3) by omega)]
                      exact rS.2.2 j j0 (by omega)
                exact jE_ret rfl ⟨rfl, ⟨jRP_fr rP hz (by simp) (by simp), jRD_fr rD hz (by simp) (by simp), jRC_fr (show n ≤ n + 1 by omega) rC hz (by simp) (by simp), hS, jRR_fr rR hz (by simp), jRK_fr rK hz (by simp) (by simp), jR5_fr r5 hz (by simp), jRL_fr rL hz (by intro q hq z; simp at z <;> omega), jMC_fr rM hz (by intro q hq z; simp at z <;> omega) (by simp), jRX_fr rX hz (by simp)⟩⟩
            · refine jm_Ev.bl 1 (pc' := 37) (A' := [jR 56, jI p, jI w, jI b]) (st' := [jI (-104)]) (hp' := (jm_hs (jm_hs (jm_hs (jm_hs hp 10 (hp 9 3) p) 11 (hp 9 3) w) 12 (hp 9 3) b) 9 3 (hp 9 3 + 1))) rfl ?_
              omega
          · refine jm_Ev.bl 1 (pc' := 25) (A' := [jR 56, jI p, jI w, jI b]) (st' := [jI (-102)]) (hp' := (jm_hs (jm_hs (jm_hs (jm_hs hp 10 (hp 9 3) p) 11 (hp 9 3) w) 12 (hp 9 3) b) 9 3 (hp 9 3 + 1))) rfl ?_
            omega
        · refine jm_Ev.bl 1 (pc' := 10) (A' := [jR 56, jI p, jI w, jI b]) (st' := [jI (-101)]) (hp' := (jm_hs (jm_hs (jm_hs (jm_hs hp 10 (hp 9 3) p) 11 (hp 9 3) w) 12 (hp 9 3) b) 9 3 (hp 9 3 + 1))) rfl ?_
          exact absurd c8 m5
      · refine jm_Ev.bl 1 (pc' := 25) (A' := [jR 0, jI p, jI w, jI b]) (st' := [jI (-102)]) (hp' := hp) rfl ?_
        refine jE_ret rfl ⟨_, rfl, by omega, rX, ?_⟩
        have e30 : hp 56 30 = (hp 9 3) := rS.2.1
        show jm_Ev 199 0 [jR 56, jI p, jI w, jI b] [] hp _
        refine jm_Ev.bl 2 (pc' := 2) (A' := [jR 56, jI p, jI w, jI b]) (st' := [jI p, jR 56]) (hp' := hp) rfl ?_
        refine jE_callI (vs := [jR 56, jI p]) (r := []) (nx := 5) (v := jI (jb (decide (0 ≤ p ∧ p < hp 3 1 * hp 3 2)))) (hp1 := hp) rfl (e67 ▸ c_m_isPlace hp rM.1 p hp32) ?_
        refine jE_ifd_ne rfl (fun m5 => ?_) (fun m5 => ?_)
        · refine jm_Ev.bl 1 (pc' := 12) (A' := [jR 56, jI p, jI w, jI b]) (st' := [jI w]) (hp' := hp) rfl ?_
          refine jE_i2l rfl (by omega) ?_
          refine jm_Ev.bl 2 (pc' := 17) (A' := [jR 56, jI p, jI w, jI b]) (st' := [jL 3, jL 0, jL w]) (hp' := hp) rfl ?_
          refine jE_callI (vs := [jL w, jL 0, jL 3]) (r := []) (nx := 20) (v := jI (jb (decide (0 ≤ w ∧ w ≤ 3)))) (hp1 := hp) rfl (c_m_in hp w 0 3 (by omega) (by omega) (by omega)) ?_
          refine jE_ifd_ne rfl (fun m20 => ?_) (fun m20 => ?_)
          · refine jm_Ev.bl 2 (pc' := 30) (A' := [jR 56, jI p, jI w, jI b]) (st' := [jI (hp 56 30)]) (hp' := hp) rfl ?_
            rw [e30]
            refine jm_Ev.bl 1 (pc' := 32) (A' := [jR 56, jI p, jI w, jI b]) (st' := [jI 6, jI (hp 9 3)]) (hp' := hp) rfl ?_
            refine jE_icmp_ne rfl (by omega) (by omega) (fun m32 => ?_) (fun m32 => ?_)
            · refine jm_Ev.bl 5 (pc' := 47) (A' := [jR 56, jI p, jI w, jI b]) (st' := [jI (hp 56 30), jI 3, jR 75]) (hp' := hp) rfl ?_
              rw [e30]
              refine jm_Ev.bl 2 (pc' := 49) (A' := [jR 56, jI p, jI w, jI b]) (st' := [jI p, jI (3 * (hp 9 3)), jR 75]) (hp' := hp) rfl ?_
              refine jE_iast (n := 18) rfl rfl (by omega) ?_
              refine jm_Ev.bl 5 (pc' := 59) (A' := [jR 56, jI p, jI w, jI b]) (st' := [jI (hp 56 30), jI 3, jR 75]) (hp' := (jm_hs hp 75 (3 * (hp 9 3)) p)) rfl ?_
              rw [e30]
              refine jm_Ev.bl 4 (pc' := 63) (A' := [jR 56, jI p, jI w, jI b]) (st' := [jI w, jI ((3 * (hp 9 3)) + 1), jR 75]) (hp' := (jm_hs hp 75 (3 * (hp 9 3)) p)) rfl ?_
              refine jE_iast (n := 18) rfl rfl (by omega) ?_
              refine jm_Ev.bl 5 (pc' := 73) (A' := [jR 56, jI p, jI w, jI b]) (st' := [jI (hp 56 30), jI 3, jR 75]) (hp' := (jm_hs (jm_hs hp 75 (3 * (hp 9 3)) p) 75 ((3 * (hp 9 3)) + 1) w)) rfl ?_
              rw [e30]
              refine jm_Ev.bl 4 (pc' := 77) (A' := [jR 56, jI p, jI w, jI b]) (st' := [jI b, jI ((3 * (hp 9 3)) + 2), jR 75]) (hp' := (jm_hs (jm_hs hp 75 (3 * (hp 9 3)) p) 75 ((3 * (hp 9 3)) + 1) w)) rfl ?_
              refine jE_if_eq rfl (by omega) (fun m77 => ?_) (fun m77 => ?_)
              · refine jm_Ev.bl 1 (pc' := 85) (A' := [jR 56, jI p, jI w, jI b]) (st' := [jI 0, jI ((3 * (hp 9 3)) + 2), jR 75]) (hp' := (jm_hs (jm_hs hp 75 (3 * (hp 9 3)) p) 75 ((3 * (hp 9 3)) + 1) w)) rfl ?_
                refine jE_iast (n := 18) rfl rfl (by omega) ?_
                refine jm_Ev.bl 3 (pc' := 91) (A' := [jR 56, jI p, jI w, jI b]) (st' := [jI (hp 56 30), jR 56]) (hp' := (jm_hs (jm_hs (jm_hs hp 75 (3 * (hp 9 3)) p) 75 ((3 * (hp 9 3)) + 1) w) 75 ((3 * (hp 9 3)) + 2) 0)) rfl ?_
                rw [e30]
                refine jm_Ev.bl 5 (pc' := 100) (A' := [jR 56, jI p, jI w, jI b]) (st' := [jI ((hp 9 3) + 1)]) (hp' := (jm_hs (jm_hs (jm_hs (jm_hs hp 75 (3 * (hp 9 3)) p) 75 ((3 * (hp 9 3)) + 1) w) 75 ((3 * (hp 9 3)) + 2) 0) 56 30 ((hp 9 3) + 1))) rfl ?_
                omega
              · refine jm_Ev.bl 2 (pc' := 85) (A' := [jR 56, jI p, jI w, jI b]) (st' := [jI 1, jI ((3 * (hp 9 3)) + 2), jR 75]) (hp' := (jm_hs (jm_hs hp 75 (3 * (hp 9 3)) p) 75 ((3 * (hp 9 3)) + 1) w)) rfl ?_
                refine jE_iast (n := 18) rfl rfl (by omega) ?_
                refine jm_Ev.bl 3 (pc' := 91) (A' := [jR 56, jI p, jI w, jI b]) (st' := [jI (hp 56 30), jR 56]) (hp' := (jm_hs (jm_hs (jm_hs hp 75 (3 * (hp 9 3)) p) 75 ((3 * (hp 9 3)) + 1) w) 75 ((3 * (hp 9 3)) + 2) 1)) rfl ?_
                rw [e30]
                refine jm_Ev.bl 5 (pc' := 100) (A' := [jR 56, jI p, jI w, jI b]) (st' := [jI ((hp 9 3) + 1)]) (hp' := (jm_hs (jm_hs (jm_hs (jm_hs hp 75 (3 * (hp 9 3)) p) 75 ((3 * (hp 9 3)) + 1) w) 75 ((3 * (hp 9 3)) + 2) 1) 56 30 ((hp 9 3) + 1))) rfl ?_
                omega
            · refine jm_Ev.bl 1 (pc' := 37) (A' := [jR 56, jI p, jI w, jI b]) (st' := [jI (-104)]) (hp' := hp) rfl ?_
              omega
          · refine jm_Ev.bl 1 (pc' := 25) (A' := [jR 56, jI p, jI w, jI b]) (st' := [jI (-102)]) (hp' := hp) rfl ?_
            exact jE_ret rfl ⟨rfl, ⟨jRP_fr rP (jFq.rf (S := []) (F := [])) (by simp) (by simp), jRD_fr rD (jFq.rf (S := []) (F := [])) (by simp) (by simp), jRC_fr (show n ≤ n + 1 by omega) rC (jFq.rf (S := []) (F := [])) (by simp) (by simp), jRS_fr rS (jFq.rf (S := []) (F := [])) (by simp) (by simp), jRR_fr rR (jFq.rf (S := []) (F := [])) (by simp), jRK_fr rK (jFq.rf (S := []) (F := [])) (by simp) (by simp), jR5_fr r5 (jFq.rf (S := []) (F := [])) (by simp), jRL_fr rL (jFq.rf (S := []) (F := [])) (by intro q hq z; simp at z <;> omega), jMC_fr rM (jFq.rf (S := []) (F := [])) (by intro q hq z; simp at z <;> omega) (by simp), jRX_fr rX (jFq.rf (S := []) (F := [])) (by simp)⟩⟩
        · refine jm_Ev.bl 1 (pc' := 10) (A' := [jR 56, jI p, jI w, jI b]) (st' := [jI (-101)]) (hp' := hp) rfl ?_
          exact absurd c8 m5
  · refine jm_Ev.bl 1 (pc' := 13) (A' := [jR 0, jI p, jI w, jI b]) (st' := [jI (-101)]) (hp' := hp) rfl ?_
    refine jE_ret rfl ⟨_, rfl, by omega, rX, ?_⟩
    have e30 : hp 56 30 = (hp 9 3) := rS.2.1
    show jm_Ev 199 0 [jR 56, jI p, jI w, jI b] [] hp _
    refine jm_Ev.bl 2 (pc' := 2) (A' := [jR 56, jI p, jI w, jI b]) (st' := [jI p, jR 56]) (hp' := hp) rfl ?_
    refine jE_callI (vs := [jR 56, jI p]) (r := []) (nx := 5) (v := jI (jb (decide (0 ≤ p ∧ p < hp 3 1 * hp 3 2)))) (hp1 := hp) rfl (e67 ▸ c_m_isPlace hp rM.1 p hp32) ?_
    refine jE_ifd_ne rfl (fun m5 => ?_) (fun m5 => ?_)
    · refine jm_Ev.bl 1 (pc' := 12) (A' := [jR 56, jI p, jI w, jI b]) (st' := [jI w]) (hp' := hp) rfl ?_
      refine jE_i2l rfl (by omega) ?_
      refine jm_Ev.bl 2 (pc' := 17) (A' := [jR 56, jI p, jI w, jI b]) (st' := [jL 3, jL 0, jL w]) (hp' := hp) rfl ?_
      refine jE_callI (vs := [jL w, jL 0, jL 3]) (r := []) (nx := 20) (v := jI (jb (decide (0 ≤ w ∧ w ≤ 3)))) (hp1 := hp) rfl (c_m_in hp w 0 3 (by omega) (by omega) (by omega)) ?_
      refine jE_ifd_ne rfl (fun m20 => ?_) (fun m20 => ?_)
      · refine jm_Ev.bl 2 (pc' := 30) (A' := [jR 56, jI p, jI w, jI b]) (st' := [jI (hp 56 30)]) (hp' := hp) rfl ?_
        rw [e30]
        refine jm_Ev.bl 1 (pc' := 32) (A' := [jR 56, jI p, jI w, jI b]) (st' := [jI 6, jI (hp 9 3)]) (hp' := hp) rfl ?_
        refine jE_icmp_ne rfl (by omega) (by omega) (fun m32 => ?_) (fun m32 => ?_)
        · refine jm_Ev.bl 5 (pc' := 47) (A' := [jR 56, jI p, jI w, jI b]) (st' := [jI (hp 56 30), jI 3, jR 75]) (hp' := hp) rfl ?_
          rw [e30]
          refine jm_Ev.bl 2 (pc' := 49) (A' := [jR 56, jI p, jI w, jI b]) (st' := [jI p, jI (3 * (hp 9 3)), jR 75]) (hp' := hp) rfl ?_
          refine jE_iast (n := 18) rfl rfl (by omega) ?_
          refine jm_Ev.bl 5 (pc' := 59) (A' := [jR 56, jI p, jI w, jI b]) (st' := [jI (hp 56 30), jI 3, jR 75]) (hp' := (jm_hs hp 75 (3 * (hp 9 3)) p)) rfl ?_
          rw [e30]
          refine jm_Ev.bl 4 (pc' := 63) (A' := [jR 56, jI p, jI w, jI b]) (st' := [jI w, jI ((3 * (hp 9 3)) + 1), jR 75]) (hp' := (jm_hs hp 75 (3 * (hp 9 3)) p)) rfl ?_
          refine jE_iast (n := 18) rfl rfl (by omega) ?_
          refine jm_Ev.bl 5 (pc' := 73) (A' := [jR 56, jI p, jI w, jI b]) (st' := [jI (hp 56 30), jI 3, jR 75]) (hp' := (jm_hs (jm_hs hp 75 (3 * (hp 9 3)) p) 75 ((3 * (hp 9 3)) + 1) w)) rfl ?_
          rw [e30]
          refine jm_Ev.bl 4 (pc' := 77) (A' := [jR 56, jI p, jI w, jI b]) (st' := [jI b, jI ((3 * (hp 9 3)) + 2), jR 75]) (hp' := (jm_hs (jm_hs hp 75 (3 * (hp 9 3)) p) 75 ((3 * (hp 9 3)) + 1) w)) rfl ?_
          refine jE_if_eq rfl (by omega) (fun m77 => ?_) (fun m77 => ?_)
          · refine jm_Ev.bl 1 (pc' := 85) (A' := [jR 56, jI p, jI w, jI b]) (st' := [jI 0, jI ((3 * (hp 9 3)) + 2), jR 75]) (hp' := (jm_hs (jm_hs hp 75 (3 * (hp 9 3)) p) 75 ((3 * (hp 9 3)) + 1) w)) rfl ?_
            refine jE_iast (n := 18) rfl rfl (by omega) ?_
            refine jm_Ev.bl 3 (pc' := 91) (A' := [jR 56, jI p, jI w, jI b]) (st' := [jI (hp 56 30), jR 56]) (hp' := (jm_hs (jm_hs (jm_hs hp 75 (3 * (hp 9 3)) p) 75 ((3 * (hp 9 3)) + 1) w) 75 ((3 * (hp 9 3)) + 2) 0)) rfl ?_
            rw [e30]
            refine jm_Ev.bl 5 (pc' := 100) (A' := [jR 56, jI p, jI w, jI b]) (st' := [jI ((hp 9 3) + 1)]) (hp' := (jm_hs (jm_hs (jm_hs (jm_hs hp 75 (3 * (hp 9 3)) p) 75 ((3 * (hp 9 3)) + 1) w) 75 ((3 * (hp 9 3)) + 2) 0) 56 30 ((hp 9 3) + 1))) rfl ?_
            exact absurd m5 c8
          · refine jm_Ev.bl 2 (pc' := 85) (A' := [jR 56, jI p, jI w, jI b]) (st' := [jI 1, jI ((3 * (hp 9 3)) + 2), jR 75]) (hp' := (jm_hs (jm_hs hp 75 (3 * (hp 9 3)) p) 75 ((3 * (hp 9 3)) + 1) w)) rfl ?_
            refine jE_iast (n := 18) rfl rfl (by omega) ?_
            refine jm_Ev.bl 3 (pc' := 91) (A' := [jR 56, jI p, jI w, jI b]) (st' := [jI (hp 56 30), jR 56]) (hp' := (jm_hs (jm_hs (jm_hs hp 75 (3 * (hp 9 3)) p) 75 ((3 * (hp 9 3)) + 1) w) 75 ((3 * (hp 9 3)) + 2) 1)) rfl ?_
            rw [e30]
            refine jm_Ev.bl 5 (pc' := 100) (A' := [jR 56, jI p, jI w, jI b]) (st' := [jI ((hp 9 3) + 1)]) (hp' := (jm_hs (jm_hs (jm_hs (jm_hs hp 75 (3 * (hp 9 3)) p) 75 ((3 * (hp 9 3)) + 1) w) 75 ((3 * (hp 9 3)) + 2) 1) 56 30 ((hp 9 3) + 1))) rfl ?_
            exact absurd m5 c8
        · refine jm_Ev.bl 1 (pc' := 37) (A' := [jR 56, jI p, jI w, jI b]) (st' := [jI (-104)]) (hp' := hp) rfl ?_
          exact absurd m5 c8
      · refine jm_Ev.bl 1 (pc' := 25) (A' := [jR 56, jI p, jI w, jI b]) (st' := [jI (-102)]) (hp' := hp) rfl ?_
        exact absurd m5 c8
    · refine jm_Ev.bl 1 (pc' := 10) (A' := [jR 56, jI p, jI w, jI b]) (st' := [jI (-101)]) (hp' := hp) rfl ?_
      exact jE_ret rfl ⟨rfl, ⟨jRP_fr rP (jFq.rf (S := []) (F := [])) (by simp) (by simp), jRD_fr rD (jFq.rf (S := []) (F := [])) (by simp) (by simp), jRC_fr (show n ≤ n + 1 by omega) rC (jFq.rf (S := []) (F := [])) (by simp) (by simp), jRS_fr rS (jFq.rf (S := []) (F := [])) (by simp) (by simp), jRR_fr rR (jFq.rf (S := []) (F := [])) (by simp), jRK_fr rK (jFq.rf (S := []) (F := [])) (by simp) (by simp), jR5_fr r5 (jFq.rf (S := []) (F := [])) (by simp), jRL_fr rL (jFq.rf (S := []) (F := [])) (by intro q hq z; simp at z <;> omega), jMC_fr rM (jFq.rf (S := []) (F := [])) (by intro q hq z; simp at z <;> omega) (by simp), jRX_fr rX (jFq.rf (S := []) (F := [])) (by simp)⟩⟩
theorem k_see (xs ls : Int → Int) (n : Int) (hp : jm_H) (hR : jREL xs ls n hp) (hn : n ≤ 1000000) (p w b : Int) (hp32 : jR32 p) (hw : jR32 w) (hb : b = 0 ∨ b = 1) : jm_Ev 111 0 [jR 0, jI p, jI w, jI b] [] hp (jSam 199 [jR 56, jI p, jI w, jI b] xs ls n) := by
  by_cases h : hp 9 3 = 6
  · exact k_see_f xs ls n hp hR hn p w b hp32 hw hb h
  · exact k_see_n xs ls n hp hR hn p w b hp32 hw hb (by have := hR.2.2.2.1.1.2.1; omega)
