/-! call by call: dot, as, racked, rack, see, forget -/
def jdt (hp : jm_H) (p w : Int) : Int := if w = 0 then hp 4 p else if w = 1 then (jsorts (hp 10) (hp 11) (hp 12) p (hp 9 3).toNat) else jask (jsorts (hp 10) (hp 11) (hp 12) p (hp 9 3).toNat)
theorem jsrt {hp : jm_H} (S : jSn hp 9 10 11 12) (p : Int) : 0 ≤ (jsorts (hp 10) (hp 11) (hp 12) p (hp 9 3).toNat) ∧ (jsorts (hp 10) (hp 11) (hp 12) p (hp 9 3).toNat) ≤ 31 := jsorts_r _ (fun j j0 j1 => S.2.2.2.1 j j0 (by have := S.2.1; omega))
theorem jwh {h : jm_H} (G : jG h 3 4) : 0 ≤ h 3 1 * h 3 2 ∧ h 3 1 * h 3 2 ≤ 25 := jm_mulb G.1 G.2.1 G.2.2.1 G.2.2.2.1
theorem c_x_dotAnswer (hp : jm_H) (D : jRD hp) (S : jRS hp) (p w : Int) (hpr : 0 ≤ p ∧ p < hp 3 1 * hp 3 2) (hw : 0 ≤ w ∧ w ≤ 2) : jm_Ev 118 0 [jR 0, jI p, jI w] [] hp (jK (some (jI (jdt hp p w))) hp) := by
  have wh := jwh D.1
  have sr := jsrt S.1 p
  have ek : jgp (hp 3 1) (hp 3 2) (hp 4) p = hp 4 p := by unfold jgp; rw [if_pos hpr]
  refine jm_Ev.bl 1 (pc' := 1) (A' := [jR 0, jI p, jI w]) (st' := [jI w]) (hp' := hp) rfl ?_
  rcases (show w = 0 ∨ w = 1 ∨ (w ≠ 0 ∧ w ≠ 1) by omega) with c1 | c1 | c1
  · subst c1
    refine jm_Ev.bl 4 (pc' := 33) (A' := [jR 0, jI p, jI 0]) (st' := [jI p, jR 3]) (hp' := hp) rfl ?_
    refine jE_callI (vs := [jR 3, jI p]) (r := []) (nx := 36) (v := jI (hp 4 p)) (hp1 := hp) rfl (ek ▸ c_g_kindAt_3 hp D.1 p (by omega)) ?_
    exact jE_ret rfl ⟨rfl, rfl⟩
  · subst c1
    refine jm_Ev.bl 4 (pc' := 42) (A' := [jR 0, jI p, jI 1]) (st' := [jI p, jR 9]) (hp' := hp) rfl ?_
    refine jE_callI (vs := [jR 9, jI p]) (r := []) (nx := 45) (v := jI (jsorts (hp 10) (hp 11) (hp 12) p (hp 9 3).toNat)) (hp1 := hp) rfl (c_s_sortsOf hp S.1 p (by omega)) ?_
    exact jE_ret rfl ⟨rfl, rfl⟩
  · refine jE_lswd rfl (by omega) (by simp; omega) ?_
    refine jm_Ev.bl 3 (pc' := 51) (A' := [jR 0, jI p, jI w]) (st' := [jI p, jR 9]) (hp' := hp) rfl ?_
    refine jE_callI (vs := [jR 9, jI p]) (r := []) (nx := 54) (v := jI (jsorts (hp 10) (hp 11) (hp 12) p (hp 9 3).toNat)) (hp1 := hp) rfl (c_s_sortsOf hp S.1 p (by omega)) ?_
    refine jE_callI (vs := [jI (jsorts (hp 10) (hp 11) (hp 12) p (hp 9 3).toNat)]) (r := []) (nx := 57) (v := jI (jask (jsorts (hp 10) (hp 11) (hp 12) p (hp 9 3).toNat))) (hp1 := hp) rfl (c_s_next hp (jsorts (hp 10) (hp 11) (hp 12) p (hp 9 3).toNat) sr.1 sr.2) ?_
    exact jE_ret rfl ⟨jrI (by rw [show w = 2 by omega]; rfl), rfl⟩
theorem c_m_tellDot (hp : jm_H) (D : jRD hp) (S : jRS hp) (p w : Int) (hpr : 0 ≤ p ∧ p < hp 3 1 * hp 3 2) (hw : jR32 w) : jm_Ev 185 0 [jR 56, jI p, jI w] [] hp (jK (some (jI (if 0 ≤ w ∧ w ≤ 2 then jdt hp p w else -102))) hp) := by
  have wh := jwh D.1
  have sr := jsrt S.1 p
  have ek : jgp (hp 3 1) (hp 3 2) (hp 4) p = hp 4 p := by unfold jgp; rw [if_pos hpr]
  refine jm_Ev.bl 1 (pc' := 1) (A' := [jR 56, jI p, jI w]) (st' := [jI w]) (hp' := hp) rfl ?_
  rcases (show w = 0 ∨ w = 1 ∨ w = 2 ∨ (w < 0 ∨ 2 < w) by omega) with c1 | c1 | c1 | c1
  · subst c1
    refine jm_Ev.bl 4 (pc' := 33) (A' := [jR 56, jI p, jI 0]) (st' := [jI p, jR 58]) (hp' := hp) rfl ?_
    refine jE_iald (n := 25) (f := hp 58) rfl rfl (by omega) ?_
    refine jE_top (w := (hp 4 p)) (D.2.2.2.1 p hpr.1 hpr.2) ?_
    exact jE_ret rfl ⟨rfl, rfl⟩
  · subst c1
    refine jm_Ev.bl 3 (pc' := 37) (A' := [jR 56, jI p, jI 1]) (st' := [jI p, jR 56]) (hp' := hp) rfl ?_
    refine jE_callI (vs := [jR 56, jI p]) (r := []) (nx := 40) (v := jI (jsorts (hp 10) (hp 11) (hp 12) p (hp 9 3).toNat)) (hp1 := hp) rfl (c_m_sortsOf hp (hp 10) (hp 11) (hp 12) (hp 9 3) p ⟨S.1.1, S.1.2.1⟩ S.2.1 (fun n a b => ⟨(S.2.2 n a b).1, (S.2.2 n a b).2.1, (S.2.2 n a b).2.2, S.1.2.2.1 n a (by have := S.1.2.1; omega), S.1.2.2.2.1 n a (by have := S.1.2.1; omega), S.1.2.2.2.2 n a (by have := S.1.2.1; omega)⟩) (by omega)) ?_
    exact jE_ret rfl ⟨rfl, rfl⟩
  · subst c1
    refine jm_Ev.bl 3 (pc' := 43) (A' := [jR 56, jI p, jI 2]) (st' := [jI p, jR 56]) (hp' := hp) rfl ?_
    refine jE_callI (vs := [jR 56, jI p]) (r := []) (nx := 46) (v := jI (jask (jsorts (hp 10) (hp 11) (hp 12) p (hp 9 3).toNat))) (hp1 := hp) rfl (c_m_askOf hp (hp 10) (hp 11) (hp 12) (hp 9 3) p ⟨S.1.1, S.1.2.1⟩ S.2.1 (fun n a b => ⟨(S.2.2 n a b).1, (S.2.2 n a b).2.1, (S.2.2 n a b).2.2, S.1.2.2.1 n a (by have := S.1.2.1; omega), S.1.2.2.2.1 n a (by have := S.1.2.1; omega), S.1.2.2.2.2 n a (by have := S.1.2.1; omega)⟩) (by omega) (jsorts (hp 10) (hp 11) (hp 12) p (hp 9 3).toNat) rfl sr) ?_
    exact jE_ret rfl ⟨rfl, rfl⟩
  · refine jE_tswd rfl (by omega) c1 ?_
    refine jm_Ev.bl 1 (pc' := 49) (A' := [jR 56, jI p, jI w]) (st' := [jI (-102)]) (hp' := hp) rfl ?_
    exact jE_ret rfl ⟨jrI (by rw [if_neg (fun z => by omega)]), rfl⟩
theorem jdt_r {hp : jm_H} (D : jRD hp) (S : jRS hp) {p w : Int} (hpr : 0 ≤ p ∧ p < hp 3 1 * hp 3 2) : jR32 (jdt hp p w) := by
  have wh := jwh D.1
  have sr := jsrt S.1 p
  have a := D.1.2.2.2.2 p hpr.1 (by omega)
  unfold jdt
  split
  · exact ⟨by omega, by omega⟩
  · split
    · exact ⟨by omega, by omega⟩
    · unfold jask
      split
      · exact ⟨by omega, by omega⟩
      · have := jasks_r sr.1 sr.2 4 (by omega)
        exact ⟨by omega, by omega⟩
theorem k_dot (xs ls : Int → Int) (n : Int) (hp : jm_H) (hR : jREL xs ls n hp) (hn : n ≤ 1000000) (p w : Int) (hp32 : jR32 p) (hw : jR32 w) : jm_Ev 97 0 [jR 0, jI p, jI w] [] hp (jSam 186 [jR 56, jI p, jI w] xs ls n) := by
  obtain ⟨rP, rD, rC, rS, rR, rK, r5, rL, rM, rX⟩ := id hR
  have wh := jwh rD.1
  have e67 : hp 56 6 * hp 56 7 = hp 3 1 * hp 3 2 := by rw [rD.2.1, rD.2.2.1]
  refine jm_Ev.bl 3 (pc' := 5) (A' := [jR 0, jI p, jI w]) (st' := [jI p, jR 3]) (hp' := hp) rfl ?_
  refine jE_callI (vs := [jR 3, jI p]) (r := []) (nx := 8) (v := jI (jb (decide (0 ≤ p ∧ p < hp 3 1 * hp 3 2)))) (hp1 := hp) rfl (c_g_has_3 hp rD.1 p hp32) ?_
  refine jE_ifd_ne rfl (fun c8 => ?_) (fun c8 => ?_)
  · refine jm_Ev.bl 1 (pc' := 15) (A' := [jR 0, jI p, jI w]) (st' := [jI w]) (hp' := hp) rfl ?_
    refine jE_if_lt rfl (by omega) (fun c15 => ?_) (fun c15 => ?_)
    · refine jm_Ev.bl 1 (pc' := 25) (A' := [jR 0, jI p, jI w]) (st' := [jI (-102)]) (hp' := hp) rfl ?_
      refine jE_ret rfl ⟨_, rfl, by omega, rX, ?_⟩
      show jm_Ev 186 0 [jR 56, jI p, jI w] [] hp _
      refine jm_Ev.bl 2 (pc' := 2) (A' := [jR 56, jI p, jI w]) (st' := [jI p, jR 56]) (hp' := hp) rfl ?_
      refine jE_callI (vs := [jR 56, jI p]) (r := []) (nx := 5) (v := jI (jb (decide (0 ≤ p ∧ p < hp 3 1 * hp 3 2)))) (hp1 := hp) rfl (e67 ▸ c_m_isPlace hp rM.1 p hp32) ?_
      refine jE_ifd_eq rfl (fun m5 => ?_) (fun m5 => ?_)
      · refine jm_Ev.bl 1 (pc' := 19) (A' := [jR 56, jI p, jI w]) (st' := [jI (-101)]) (hp' := hp) rfl ?_
        exact jE_ret rfl ⟨jrI (absurd c8 m5), ⟨jRP_fr rP (jFq.rf (S := []) (F := [])) (by simp) (by simp), jRD_fr rD (jFq.rf (S := []) (F := [])) (by simp) (by simp), jRC_fr (show n ≤ n + 1 by omega) rC (jFq.rf (S := []) (F := [])) (by simp) (by simp), jRS_fr rS (jFq.rf (S := []) (F := [])) (by simp) (by simp), jRR_fr rR (jFq.rf (S := []) (F := [])) (by simp), jRK_fr rK (jFq.rf (S := []) (F := [])) (by simp) (by simp), jR5_fr r5 (jFq.rf (S := []) (F := [])) (by simp), jRL_fr rL (jFq.rf (S := []) (F := [])) (by intro q hq z; simp at z <;> omega), jMC_fr rM (jFq.rf (S := []) (F := [])) (by intro q hq z; simp at z <;> omega) (by simp), jRX_fr rX (jFq.rf (S := []) (F := [])) (by simp)⟩⟩
      · refine jm_Ev.bl 3 (pc' := 11) (A' := [jR 56, jI p, jI w]) (st' := [jI w, jI p, jR 56]) (hp' := hp) rfl ?_
        refine jE_callI (vs := [jR 56, jI p, jI w]) (r := []) (nx := 14) (v := jI (if 0 ≤ w ∧ w ≤ 2 then jdt hp p w else -102)) (hp1 := hp) rfl (c_m_tellDot hp rD rS p w m5 hw) ?_
        refine jm_Ev.bl 1 (pc' := 19) (A' := [jR 56, jI p, jI w]) (st' := [jI (if 0 ≤ w ∧ w ≤ 2 then jdt hp p w else -102)]) (hp' := hp) rfl ?_
        exact jE_ret rfl ⟨jrI (if_neg (fun z => by omega)), ⟨jRP_fr rP (jFq.rf (S := []) (F := [])) (by simp) (by simp), jRD_fr rD (jFq.rf (S := []) (F := [])) (by simp) (by simp), jRC_fr (show n ≤ n + 1 by omega) rC (jFq.rf (S := []) (F := [])) (by simp) (by simp), jRS_fr rS (jFq.rf (S := []) (F := [])) (by simp) (by simp), jRR_fr rR (jFq.rf (S := []) (F := [])) (by simp), jRK_fr rK (jFq.rf (S := []) (F := [])) (by simp) (by simp), jR5_fr r5 (jFq.rf (S := []) (F := [])) (by simp), jRL_fr rL (jFq.rf (S := []) (F := [])) (by intro q hq z; simp at z <;> omega), jMC_fr rM (jFq.rf (S := []) (F := [])) (by intro q hq z; simp at z <;> omega) (by simp), jRX_fr rX (jFq.rf (S := []) (F := [])) (by simp)⟩⟩
    · refine jm_Ev.bl 2 (pc' := 20) (A' := [jR 0, jI p, jI w]) (st' := [jI 3, jI w]) (hp' := hp) rfl ?_
      refine jE_icmp_lt rfl (by omega) (by omega) (fun c20 => ?_) (fun c20 => ?_)
      · refine jm_Ev.bl 3 (pc' := 29) (A' := [jR 0, jI p, jI w]) (st' := [jI w, jI p, jR 0]) (hp' := hp) rfl ?_
        refine jE_callI (vs := [jR 0, jI p, jI w]) (r := []) (nx := 32) (v := jI (jdt hp p w)) (hp1 := hp) rfl (c_x_dotAnswer hp rD rS p w c8 (by omega)) ?_
        refine jE_ret rfl ⟨_, rfl, jdt_r rD rS c8, rX, ?_⟩
        show jm_Ev 186 0 [jR 56, jI p, jI w] [] hp _
        refine jm_Ev.bl 2 (pc' := 2) (A' := [jR 56, jI p, jI w]) (st' := [jI p, jR 56]) (hp' := hp) rfl ?_
        refine jE_callI (vs := [jR 56, jI p]) (r := []) (nx := 5) (v := jI (jb (decide (0 ≤ p ∧ p < hp 3 1 * hp 3 2)))) (hp1 := hp) rfl (e67 ▸ c_m_isPlace hp rM.1 p hp32) ?_
        refine jE_ifd_eq rfl (fun m5 => ?_) (fun m5 => ?_)
        · refine jm_Ev.bl 1 (pc' := 19) (A' := [jR 56, jI p, jI w]) (st' := [jI (-101)]) (hp' := hp) rfl ?_
          exact jE_ret rfl ⟨jrI (absurd c8 m5), ⟨jRP_fr rP (jFq.rf (S := []) (F := [])) (by simp) (by simp), jRD_fr rD (jFq.rf (S := []) (F := [])) (by simp) (by simp), jRC_fr (show n ≤ n + 1 by omega) rC (jFq.rf (S := []) (F := [])) (by simp) (by simp), jRS_fr rS (jFq.rf (S := []) (F := [])) (by simp) (by simp), jRR_fr rR (jFq.rf (S := []) (F := [])) (by simp), jRK_fr rK (jFq.rf (S := []) (F := [])) (by simp) (by simp), jR5_fr r5 (jFq.rf (S := []) (F := [])) (by simp), jRL_fr rL (jFq.rf (S := []) (F := [])) (by intro q hq z; simp at z <;> omega), jMC_fr rM (jFq.rf (S := []) (F := [])) (by intro q hq z; simp at z <;> omega) (by simp), jRX_fr rX (jFq.rf (S := []) (F := [])) (by simp)⟩⟩
        · refine jm_Ev.bl 3 (pc' := 11) (A' := [jR 56, jI p, jI w]) (st' := [jI w, jI p, jR 56]) (hp' := hp) rfl ?_
          refine jE_callI (vs := [jR 56, jI p, jI w]) (r := []) (nx := 14) (v := jI (if 0 ≤ w ∧ w ≤ 2 then jdt hp p w else -102)) (hp1 := hp) rfl (c_m_tellDot hp rD rS p w m5 hw) ?_
          refine jm_Ev.bl 1 (pc' := 19) (A' := [jR 56, jI p, jI w]) (st' := [jI (if 0 ≤ w ∧ w ≤ 2 then jdt hp p w else -102)]) (hp' := hp) rfl ?_
          exact jE_ret rfl ⟨jrI (if_pos ⟨by omega, by omega⟩), ⟨jRP_fr rP (jFq.rf (S := []) (F := [])) (by simp) (by simp), jRD_fr rD (jFq.rf (S := []) (F := [])) (by simp) (by simp), jRC_fr (show n ≤ n + 1 by omega) rC (jFq.rf (S := []) (F := [])) (by simp) (by simp), jRS_fr rS (jFq.rf (S := []) (F := [])) (by simp) (by simp), jRR_fr rR (jFq.rf (S := []) (F := [])) (by simp), jRK_fr rK (jFq.rf (S := []) (F := [])) (by simp) (by simp), jR5_fr r5 (jFq.rf (S := []) (F := [])) (by simp), jRL_fr rL (jFq.rf (S := []) (F := [])) (by intro q hq z; simp at z <;> omega), jMC_fr rM (jFq.rf (S := []) (F := [])) (by intro q hq z; simp at z <;> omega) (by simp), jRX_fr rX (jFq.rf (S := []) (F := [])) (by simp)⟩⟩
      · refine jm_Ev.bl 1 (pc' := 25) (A' := [jR 0, jI p, jI w]) (st' := [jI (-102)]) (hp' := hp) rfl ?_
        refine jE_ret rfl ⟨_, rfl, by omega, rX, ?_⟩
        show jm_Ev 186 0 [jR 56, jI p, jI w] [] hp _
        refine jm_Ev.bl 2 (pc' := 2) (A' := [jR 56, jI p, jI w]) (st' := [jI p, jR 56]) (hp' := hp) rfl ?_
        refine jE_callI (vs := [jR 56, jI p]) (r := []) (nx := 5) (v := jI (jb (decide (0 ≤ p ∧ p < hp 3 1 * hp 3 2)))) (hp1 := hp) rfl (e67 ▸ c_m_isPlace hp rM.1 p hp32) ?_
        refine jE_ifd_eq rfl (fun m5 => ?_) (fun m5 => ?_)
        · refine jm_Ev.bl 1 (pc' := 19) (A' := [jR 56, jI p, jI w]) (st' := [jI (-101)]) (hp' := hp) rfl ?_
          exact jE_ret rfl ⟨jrI (absurd c8 m5), ⟨jRP_fr rP (jFq.rf (S := []) (F := [])) (by simp) (by simp), jRD_fr rD (jFq.rf (S := []) (F := [])) (by simp) (by simp), jRC_fr (show n ≤ n + 1 by omega) rC (jFq.rf (S := []) (F := [])) (by simp) (by simp), jRS_fr rS (jFq.rf (S := []) (F := [])) (by simp) (by simp), jRR_fr rR (jFq.rf (S := []) (F := [])) (by simp), jRK_fr rK (jFq.rf (S := []) (F := [])) (by simp) (by simp), jR5_fr r5 (jFq.rf (S := []) (F := [])) (by simp), jRL_fr rL (jFq.rf (S := []) (F := [])) (by intro q hq z; simp at z <;> omega), jMC_fr rM (jFq.rf (S := []) (F := [])) (by intro q hq z; simp at z <;> omega) (by simp), jRX_fr rX (jFq.rf (S := []) (F := [])) (by simp)⟩⟩
        · refine jm_Ev.bl 3 (pc' := 11) (A' := [jR 56, jI p, jI w]) (st' := [jI w, jI p, jR 56]) (hp' := hp) rfl ?_
          refine jE_callI (vs := [jR 56, jI p, jI w]) (r := []) (nx := 14) (v := jI (if 0 ≤ w ∧ w ≤ 2 then jdt hp p w else -102)) (hp1 := hp) rfl (c_m_tellDot hp rD rS p w m5 hw) ?_
          refine jm_Ev.bl 1 (pc' := 19) (A' := [jR 56, jI p, jI w]) (st' := [jI (if 0 ≤ w ∧ w ≤ 2 then jdt hp p w else -102)]) (hp' := hp) rfl ?_
          exact jE_ret rfl ⟨jrI (if_neg (fun z => by omega)), ⟨jRP_fr rP (jFq.rf (S := []) (F := [])) (by simp) (by simp), jRD_fr rD (jFq.rf (S := []) (F := [])) (by simp) (by simp), jRC_fr (show n ≤ n + 1 by omega) rC (jFq.rf (S := []) (F := [])) (by simp) (by simp), jRS_fr rS (jFq.rf (S := []) (F := [])) (by simp) (by simp), jRR_fr rR (jFq.rf (S := []) (F := [])) (by simp), jRK_fr rK (jFq.rf (S := []) (F := [])) (by simp) (by simp), jR5_fr r5 (jFq.rf (S := []) (F := [])) (by simp), jRL_fr rL (jFq.rf (S := []) (F := [])) (by intro q hq z; simp at z <;> omega), jMC_fr rM (jFq.rf (S := []) (F := [])) (by intro q hq z; simp at z <;> omega) (by simp), jRX_fr rX (jFq.rf (S := []) (F := [])) (by simp)⟩⟩
  · refine jm_Ev.bl 1 (pc' := 13) (A' := [jR 0, jI p, jI w]) (st' := [jI (-101)]) (hp' := hp) rfl ?_
    refine jE_ret rfl ⟨_, rfl, by omega, rX, ?_⟩
    show jm_Ev 186 0 [jR 56, jI p, jI w] [] hp _
    refine jm_Ev.bl 2 (pc' := 2) (A' := [jR 56, jI p, jI w]) (st' := [jI p, jR 56]) (hp' := hp) rfl ?_
    refine jE_callI (vs := [jR 56, jI p]) (r := []) (nx := 5) (v := jI (jb (decide (0 ≤ p ∧ p < hp 3 1 * hp 3 2)))) (hp1 := hp) rfl (e67 ▸ c_m_isPlace hp rM.1 p hp32) ?_
    refine jE_ifd_eq rfl (fun m5 => ?_) (fun m5 => ?_)
    · refine jm_Ev.bl 1 (pc' := 19) (A' := [jR 56, jI p, jI w]) (st' := [jI (-101)]) (hp' := hp) rfl ?_
      exact jE_ret rfl ⟨jrI (rfl), ⟨jRP_fr rP (jFq.rf (S := []) (F := [])) (by simp) (by simp), jRD_fr rD (jFq.rf (S := []) (F := [])) (by simp) (by simp), jRC_fr (show n ≤ n + 1 by omega) rC (jFq.rf (S := []) (F := [])) (by simp) (by simp), jRS_fr rS (jFq.rf (S := []) (F := [])) (by simp) (by simp), jRR_fr rR (jFq.rf (S := []) (F := [])) (by simp), jRK_fr rK (jFq.rf (S := []) (F := [])) (by simp) (by simp), jR5_fr r5 (jFq.rf (S := []) (F := [])) (by simp), jRL_fr rL (jFq.rf (S := []) (F := [])) (by intro q hq z; simp at z <;> omega), jMC_fr rM (jFq.rf (S := []) (F := [])) (by intro q hq z; simp at z <;> omega) (by simp), jRX_fr rX (jFq.rf (S := []) (F := [])) (by simp)⟩⟩
    · refine jm_Ev.bl 3 (pc' := 11) (A' := [jR 56, jI p, jI w]) (st' := [jI w, jI p, jR 56]) (hp' := hp) rfl ?_
      refine jE_callI (vs := [jR 56, jI p, jI w]) (r := []) (nx := 14) (v := jI (if 0 ≤ w ∧ w ≤ 2 then jdt hp p w else -102)) (hp1 := hp) rfl (c_m_tellDot hp rD rS p w m5 hw) ?_
      refine jm_Ev.bl 1 (pc' := 19) (A' := [jR 56, jI p, jI w]) (st' := [jI (if 0 ≤ w ∧ w ≤ 2 then jdt hp p w else -102)]) (hp' := hp) rfl ?_
      exact jE_ret rfl ⟨jrI (absurd m5 c8), ⟨jRP_fr rP (jFq.rf (S := []) (F := [])) (by simp) (by simp), jRD_fr rD (jFq.rf (S := []) (F := [])) (by simp) (by simp), jRC_fr (show n ≤ n + 1 by omega) rC (jFq.rf (S := []) (F := [])) (by simp) (by simp), jRS_fr rS (jFq.rf (S := []) (F := [])) (by simp) (by simp), jRR_fr rR (jFq.rf (S := []) (F := [])) (by simp), jRK_fr rK (jFq.rf (S := []) (F := [])) (by simp) (by simp), jR5_fr r5 (jFq.rf (S := []) (F := [])) (by simp), jRL_fr rL (jFq.rf (S := []) (F := [])) (by intro q hq z; simp at z <;> omega), jMC_fr rM (jFq.rf (S := []) (F := [])) (by intro q hq z; simp at z <;> omega) (by simp), jRX_fr rX (jFq.rf (S := []) (F := [])) (by simp)⟩⟩
theorem k_as (xs ls : Int → Int) (n : Int) (hp : jm_H) (hR : jREL xs ls n hp) (hn : n ≤ 1000000) (p w : Int) (hp32 : jR32 p) (hw : jR32 w) : jm_Ev 98 0 [jR 0, jI p, jI w] [] hp (jSam 188 [jR 56, jI p, jI w] xs ls n) := by
  obtain ⟨rP, rD, rC, rS, rR, rK, r5, rL, rM, rX⟩ := id hR
  have wh := jwh rD.1
  have e67 : hp 56 6 * hp 56 7 = hp 3 1 * hp 3 2 := by rw [rD.2.1, rD.2.2.1]
  have gr : jR32 (jgp (hp 3 1) (hp 3 2) (hp 4) p) := by
    unfold jgp
    split
    · rename_i z; have := rD.1.2.2.2.2 p z.1 (by omega); exact ⟨by omega, by omega⟩
    · exact ⟨by omega, by omega⟩
  have ghd : (jgp (hp 3 1) (hp 3 2) (hp 4) p) ≠ -1 ↔ ((0 ≤ p ∧ p < hp 3 1 * hp 3 2) ∧ hp 58 p ≠ -1) := by
    unfold jgp
    constructor
    · intro z
      split at z
      · rename_i y; exact ⟨y, by rw [rD.2.2.2.1 p y.1 y.2]; exact z⟩
      · exact absurd rfl z
    · intro z
      rw [if_pos z.1, ← rD.2.2.2.1 p z.1.1 z.1.2]
      exact z.2
  have gin : (0 ≤ p ∧ p < hp 3 1 * hp 3 2) → hp 58 p = (jgp (hp 3 1) (hp 3 2) (hp 4) p) := fun z => by unfold jgp; rw [if_pos z]; exact rD.2.2.2.1 p z.1 z.2
  refine jm_Ev.bl 3 (pc' := 5) (A' := [jR 0, jI p, jI w]) (st' := [jI p, jR 3]) (hp' := hp) rfl ?_
  refine jE_callI (vs := [jR 3, jI p]) (r := []) (nx := 8) (v := jI (jgp (hp 3 1) (hp 3 2) (hp 4) p)) (hp1 := hp) rfl (c_g_kindAt_3 hp rD.1 p hp32) ?_
  refine jm_Ev.bl 1 (pc' := 9) (A' := [jR 0, jI p, jI w]) (st' := [jI (-1), jI (jgp (hp 3 1) (hp 3 2) (hp 4) p)]) (hp' := hp) rfl ?_
  refine jE_icmp_ne rfl (by omega) (by omega) (fun c9 => ?_) (fun c9 => ?_)
  · refine jm_Ev.bl 1 (pc' := 16) (A' := [jR 0, jI p, jI w]) (st' := [jI w]) (hp' := hp) rfl ?_
    refine jE_callI (vs := [jI w]) (r := []) (nx := 19) (v := jI (jb (decide (0 ≤ w ∧ w < 5)))) (hp1 := hp) rfl (c_isKind hp w hw) ?_
    refine jE_ifd_ne rfl (fun c19 => ?_) (fun c19 => ?_)
    · refine jm_Ev.bl 3 (pc' := 30) (A' := [jR 0, jI p, jI w]) (st' := [jI p, jR 3]) (hp' := hp) rfl ?_
      refine jE_callI (vs := [jR 3, jI p]) (r := []) (nx := 33) (v := jI (jgp (hp 3 1) (hp 3 2) (hp 4) p)) (hp1 := hp) rfl (c_g_kindAt_3 hp rD.1 p hp32) ?_
      refine jm_Ev.bl 1 (pc' := 34) (A' := [jR 0, jI p, jI w]) (st' := [jI w, jI (jgp (hp 3 1) (hp 3 2) (hp 4) p)]) (hp' := hp) rfl ?_
      refine jE_callI (vs := [jI (jgp (hp 3 1) (hp 3 2) (hp 4) p), jI w]) (r := []) (nx := 37) (v := jI (jb (decide (jals (jgp (hp 3 1) (hp 3 2) (hp 4) p) w)))) (hp1 := hp) rfl (c_isAlso hp (jgp (hp 3 1) (hp 3 2) (hp 4) p) w gr hw) ?_
      refine jE_ifd_eq rfl (fun c37 => ?_) (fun c37 => ?_)
      · refine jm_Ev.bl 1 (pc' := 45) (A' := [jR 0, jI p, jI w]) (st' := [jI (-1)]) (hp' := hp) rfl ?_
        refine jE_ret rfl ⟨_, rfl, by omega, rX, ?_⟩
        show jm_Ev 188 0 [jR 56, jI p, jI w] [] hp _
        refine jm_Ev.bl 2 (pc' := 2) (A' := [jR 56, jI p, jI w]) (st' := [jI p, jR 56]) (hp' := hp) rfl ?_
        refine jE_callI (vs := [jR 56, jI p]) (r := []) (nx := 5) (v := jI (jb (decide ((0 ≤ p ∧ p < hp 3 1 * hp 3 2) ∧ hp 58 p ≠ -1)))) (hp1 := hp) rfl (e67 ▸ c_m_hasDot hp rM.1 p hp32) ?_
        refine jE_ifd_ne rfl (fun m5 => ?_) (fun m5 => ?_)
        · refine jm_Ev.bl 1 (pc' := 12) (A' := [jR 56, jI p, jI w]) (st' := [jI w]) (hp' := hp) rfl ?_
          refine jE_i2l rfl (by omega) ?_
          refine jm_Ev.bl 2 (pc' := 17) (A' := [jR 56, jI p, jI w]) (st' := [jL 4, jL 0, jL w]) (hp' := hp) rfl ?_
          refine jE_callI (vs := [jL w, jL 0, jL 4]) (r := []) (nx := 20) (v := jI (jb (decide (0 ≤ w ∧ w ≤ 4)))) (hp1 := hp) rfl (c_m_in hp w 0 4 (by omega) (by omega) (by omega)) ?_
          refine jE_ifd_ne rfl (fun m20 => ?_) (fun m20 => ?_)
          · refine jm_Ev.bl 3 (pc' := 31) (A' := [jR 56, jI p, jI w]) (st' := [jI p, jR 58]) (hp' := hp) rfl ?_
            refine jE_iald (n := 25) (f := hp 58) rfl rfl (by omega) ?_
            refine jE_top (w := (jgp (hp 3 1) (hp 3 2) (hp 4) p)) (gin m5.1) ?_
            refine jm_Ev.bl 1 (pc' := 33) (A' := [jR 56, jI p, jI w]) (st' := [jI w, jI (jgp (hp 3 1) (hp 3 2) (hp 4) p)]) (hp' := hp) rfl ?_
            refine jE_callI (vs := [jI (jgp (hp 3 1) (hp 3 2) (hp 4) p), jI w]) (r := []) (nx := 36) (v := jI (jb (decide (jals (jgp (hp 3 1) (hp 3 2) (hp 4) p) w)))) (hp1 := hp) rfl (c_m_isOf hp (jgp (hp 3 1) (hp 3 2) (hp 4) p) w gr hw) ?_
            refine jE_ifd_eq rfl (fun m36 => ?_) (fun m36 => ?_)
            · refine jm_Ev.bl 1 (pc' := 44) (A' := [jR 56, jI p, jI w]) (st' := [jI (-1)]) (hp' := hp) rfl ?_
              exact jE_ret rfl ⟨rfl, ⟨jRP_fr rP (jFq.rf (S := []) (F := [])) (by simp) (by simp), jRD_fr rD (jFq.rf (S := []) (F := [])) (by simp) (by simp), jRC_fr (show n ≤ n + 1 by omega) rC (jFq.rf (S := []) (F := [])) (by simp) (by simp), jRS_fr rS (jFq.rf (S := []) (F := [])) (by simp) (by simp), jRR_fr rR (jFq.rf (S := []) (F := [])) (by simp), jRK_fr rK (jFq.rf (S := []) (F := [])) (by simp) (by simp), jR5_fr r5 (jFq.rf (S := []) (F := [])) (by simp), jRL_fr rL (jFq.rf (S := []) (F := [])) (by intro q hq z; simp at z <;> omega), jMC_fr rM (jFq.rf (S := []) (F := [])) (by intro q hq z; simp at z <;> omega) (by simp), jRX_fr rX (jFq.rf (S := []) (F := [])) (by simp)⟩⟩
            · refine jm_Ev.bl 2 (pc' := 44) (A' := [jR 56, jI p, jI w]) (st' := [jI p]) (hp' := hp) rfl ?_
              exact absurd m36 c37
          · refine jm_Ev.bl 1 (pc' := 25) (A' := [jR 56, jI p, jI w]) (st' := [jI (-102)]) (hp' := hp) rfl ?_
            exact absurd (show 0 ≤ w ∧ w ≤ 4 by omega) m20
        · refine jm_Ev.bl 1 (pc' := 10) (A' := [jR 56, jI p, jI w]) (st' := [jI (-101)]) (hp' := hp) rfl ?_
          exact absurd (ghd.mp c9) m5
      · refine jm_Ev.bl 2 (pc' := 45) (A' := [jR 0, jI p, jI w]) (st' := [jI p]) (hp' := hp) rfl ?_
        refine jE_ret rfl ⟨_, rfl, by omega, rX, ?_⟩
        show jm_Ev 188 0 [jR 56, jI p, jI w] [] hp _
        refine jm_Ev.bl 2 (pc' := 2) (A' := [jR 56, jI p, jI w]) (st' := [jI p, jR 56]) (hp' := hp) rfl ?_
        refine jE_callI (vs := [jR 56, jI p]) (r := []) (nx := 5) (v := jI (jb (decide ((0 ≤ p ∧ p < hp 3 1 * hp 3 2) ∧ hp 58 p ≠ -1)))) (hp1 := hp) rfl (e67 ▸ c_m_hasDot hp rM.1 p hp32) ?_
        refine jE_ifd_ne rfl (fun m5 => ?_) (fun m5 => ?_)
        · refine jm_Ev.bl 1 (pc' := 12) (A' := [jR 56, jI p, jI w]) (st' := [jI w]) (hp' := hp) rfl ?_
          refine jE_i2l rfl (by omega) ?_
          refine jm_Ev.bl 2 (pc' := 17) (A' := [jR 56, jI p, jI w]) (st' := [jL 4, jL 0, jL w]) (hp' := hp) rfl ?_
          refine jE_callI (vs := [jL w, jL 0, jL 4]) (r := []) (nx := 20) (v := jI (jb (decide (0 ≤ w ∧ w ≤ 4)))) (hp1 := hp) rfl (c_m_in hp w 0 4 (by omega) (by omega) (by omega)) ?_
          refine jE_ifd_ne rfl (fun m20 => ?_) (fun m20 => ?_)
          · refine jm_Ev.bl 3 (pc' := 31) (A' := [jR 56, jI p, jI w]) (st' := [jI p, jR 58]) (hp' := hp) rfl ?_
            refine jE_iald (n := 25) (f := hp 58) rfl rfl (by omega) ?_
            refine jE_top (w := (jgp (hp 3 1) (hp 3 2) (hp 4) p)) (gin m5.1) ?_
            refine jm_Ev.bl 1 (pc' := 33) (A' := [jR 56, jI p, jI w]) (st' := [jI w, jI (jgp (hp 3 1) (hp 3 2) (hp 4) p)]) (hp' := hp) rfl ?_
            refine jE_callI (vs := [jI (jgp (hp 3 1) (hp 3 2) (hp 4) p), jI w]) (r := []) (nx := 36) (v := jI (jb (decide (jals (jgp (hp 3 1) (hp 3 2) (hp 4) p) w)))) (hp1 := hp) rfl (c_m_isOf hp (jgp (hp 3 1) (hp 3 2) (hp 4) p) w gr hw) ?_
            refine jE_ifd_eq rfl (fun m36 => ?_) (fun m36 => ?_)
            · refine jm_Ev.bl 1 (pc' := 44) (A' := [jR 56, jI p, jI w]) (st' := [jI (-1)]) (hp' := hp) rfl ?_
              exact absurd c37 m36
            · refine jm_Ev.bl 2 (pc' := 44) (A' := [jR 56, jI p, jI w]) (st' := [jI p]) (hp' := hp) rfl ?_
              exact jE_ret rfl ⟨rfl, ⟨jRP_fr rP (jFq.rf (S := []) (F := [])) (by simp) (by simp), jRD_fr rD (jFq.rf (S := []) (F := [])) (by simp) (by simp), jRC_fr (show n ≤ n + 1 by omega) rC (jFq.rf (S := []) (F := [])) (by simp) (by simp), jRS_fr rS (jFq.rf (S := []) (F := [])) (by simp) (by simp), jRR_fr rR (jFq.rf (S := []) (F := [])) (by simp), jRK_fr rK (jFq.rf (S := []) (F := [])) (by simp) (by simp), jR5_fr r5 (jFq.rf (S := []) (F := [])) (by simp), jRL_fr rL (jFq.rf (S := []) (F := [])) (by intro q hq z; simp at z <;> omega), jMC_fr rM (jFq.rf (S := []) (F := [])) (by intro q hq z; simp at z <;> omega) (by simp), jRX_fr rX (jFq.rf (S := []) (F := [])) (by simp)⟩⟩
          · refine jm_Ev.bl 1 (pc' := 25) (A' := [jR 56, jI p, jI w]) (st' := [jI (-102)]) (hp' := hp) rfl ?_
            exact absurd (show 0 ≤ w ∧ w ≤ 4 by omega) m20
        · refine jm_Ev.bl 1 (pc' := 10) (A' := [jR 56, jI p, jI w]) (st' := [jI (-101)]) (hp' := hp) rfl ?_
          exact absurd (ghd.mp c9) m5
    · refine jm_Ev.bl 1 (pc' := 24) (A' := [jR 0, jI p, jI w]) (st' := [jI (-102)]) (hp' := hp) rfl ?_
      refine jE_ret rfl ⟨_, rfl, by omega, rX, ?_⟩
      show jm_Ev 188 0 [jR 56, jI p, jI w] [] hp _
      refine jm_Ev.bl 2 (pc' := 2) (A' := [jR 56, jI p, jI w]) (st' := [jI p, jR 56]) (hp' := hp) rfl ?_
      refine jE_callI (vs := [jR 56, jI p]) (r := []) (nx := 5) (v := jI (jb (decide ((0 ≤ p ∧ p < hp 3 1 * hp 3 2) ∧ hp 58 p ≠ -1)))) (hp1 := hp) rfl (e67 ▸ c_m_hasDot hp rM.1 p hp32) ?_
      refine jE_ifd_ne rfl (fun m5 => ?_) (fun m5 => ?_)
      · refine jm_Ev.bl 1 (pc' := 12) (A' := [jR 56, jI p, jI w]) (st' := [jI w]) (hp' := hp) rfl ?_
        refine jE_i2l rfl (by omega) ?_
        refine jm_Ev.bl 2 (pc' := 17) (A' := [jR 56, jI p, jI w]) (st' := [jL 4, jL 0, jL w]) (hp' := hp) rfl ?_
        refine jE_callI (vs := [jL w, jL 0, jL 4]) (r := []) (nx := 20) (v := jI (jb (decide (0 ≤ w ∧ w ≤ 4)))) (hp1 := hp) rfl (c_m_in hp w 0 4 (by omega) (by omega) (by omega)) ?_
        refine jE_ifd_ne rfl (fun m20 => ?_) (fun m20 => ?_)
        · refine jm_Ev.bl 3 (pc' := 31) (A' := [jR 56, jI p, jI w]) (st' := [jI p, jR 58]) (hp' := hp) rfl ?_
          refine jE_iald (n := 25) (f := hp 58) rfl rfl (by omega) ?_
          refine jE_top (w := (jgp (hp 3 1) (hp 3 2) (hp 4) p)) (gin m5.1) ?_
          refine jm_Ev.bl 1 (pc' := 33) (A' := [jR 56, jI p, jI w]) (st' := [jI w, jI (jgp (hp 3 1) (hp 3 2) (hp 4) p)]) (hp' := hp) rfl ?_
          refine jE_callI (vs := [jI (jgp (hp 3 1) (hp 3 2) (hp 4) p), jI w]) (r := []) (nx := 36) (v := jI (jb (decide (jals (jgp (hp 3 1) (hp 3 2) (hp 4) p) w)))) (hp1 := hp) rfl (c_m_isOf hp (jgp (hp 3 1) (hp 3 2) (hp 4) p) w gr hw) ?_
          refine jE_ifd_eq rfl (fun m36 => ?_) (fun m36 => ?_)
          · refine jm_Ev.bl 1 (pc' := 44) (A' := [jR 56, jI p, jI w]) (st' := [jI (-1)]) (hp' := hp) rfl ?_
            exact absurd (show 0 ≤ w ∧ w < 5 by omega) c19
          · refine jm_Ev.bl 2 (pc' := 44) (A' := [jR 56, jI p, jI w]) (st' := [jI p]) (hp' := hp) rfl ?_
            exact absurd (show 0 ≤ w ∧ w < 5 by omega) c19
        · refine jm_Ev.bl 1 (pc' := 25) (A' := [jR 56, jI p, jI w]) (st' := [jI (-102)]) (hp' := hp) rfl ?_
          exact jE_ret rfl ⟨rfl, ⟨jRP_fr rP (jFq.rf (S := []) (F := [])) (by simp) (by simp), jRD_fr rD (jFq.rf (S := []) (F := [])) (by simp) (by simp), jRC_fr (show n ≤ n + 1 by omega) rC (jFq.rf (S := []) (F := [])) (by simp) (by simp), jRS_fr rS (jFq.rf (S := []) (F := [])) (by simp) (by simp), jRR_fr rR (jFq.rf (S := []) (F := [])) (by simp), jRK_fr rK (jFq.rf (S := []) (F := [])) (by simp) (by simp), jR5_fr r5 (jFq.rf (S := []) (F := [])) (by simp), jRL_fr rL (jFq.rf (S := []) (F := [])) (by intro q hq z; simp at z <;> omega), jMC_fr rM (jFq.rf (S := []) (F := [])) (by intro q hq z; simp at z <;> omega) (by simp), jRX_fr rX (jFq.rf (S := []) (F := [])) (by simp)⟩⟩
      · refine jm_Ev.bl 1 (pc' := 10) (A' := [jR 56, jI p, jI w]) (st' := [jI (-101)]) (hp' := hp) rfl ?_
        exact absurd (ghd.mp c9) m5
  · refine jm_Ev.bl 1 (pc' := 14) (A' := [jR 0, jI p, jI w]) (st' := [jI (-101)]) (hp' := hp) rfl ?_
    refine jE_ret rfl ⟨_, rfl, by omega, rX, ?_⟩
    show jm_Ev 188 0 [jR 56, jI p, jI w] [] hp _
    refine jm_Ev.bl 2 (pc' := 2) (A' := [jR 56, jI p, jI w]) (st' := [jI p, jR 56]) (hp' := hp) rfl ?_
    refine jE_callI (vs := [jR 56, jI p]) (r := []) (nx := 5) (v := jI (jb (decide ((0 ≤ p ∧ p < hp 3 1 * hp 3 2) ∧ hp 58 p ≠ -1)))) (hp1 := hp) rfl (e67 ▸ c_m_hasDot hp rM.1 p hp32) ?_
    refine jE_ifd_ne rfl (fun m5 => ?_) (fun m5 => ?_)
    · refine jm_Ev.bl 1 (pc' := 12) (A' := [jR 56, jI p, jI w]) (st' := [jI w]) (hp' := hp) rfl ?_
      refine jE_i2l rfl (by omega) ?_
      refine jm_Ev.bl 2 (pc' := 17) (A' := [jR 56, jI p, jI w]) (st' := [jL 4, jL 0, jL w]) (hp' := hp) rfl ?_
      refine jE_callI (vs := [jL w, jL 0, jL 4]) (r := []) (nx := 20) (v := jI (jb (decide (0 ≤ w ∧ w ≤ 4)))) (hp1 := hp) rfl (c_m_in hp w 0 4 (by omega) (by omega) (by omega)) ?_
      refine jE_ifd_ne rfl (fun m20 => ?_) (fun m20 => ?_)
      · refine jm_Ev.bl 3 (pc' := 31) (A' := [jR 56, jI p, jI w]) (st' := [jI p, jR 58]) (hp' := hp) rfl ?_
        refine jE_iald (n := 25) (f := hp 58) rfl rfl (by omega) ?_
        refine jE_top (w := (jgp (hp 3 1) (hp 3 2) (hp 4) p)) (gin m5.1) ?_
        refine jm_Ev.bl 1 (pc' := 33) (A' := [jR 56, jI p, jI w]) (st' := [jI w, jI (jgp (hp 3 1) (hp 3 2) (hp 4) p)]) (hp' := hp) rfl ?_
        refine jE_callI (vs := [jI (jgp (hp 3 1) (hp 3 2) (hp 4) p), jI w]) (r := []) (nx := 36) (v := jI (jb (decide (jals (jgp (hp 3 1) (hp 3 2) (hp 4) p) w)))) (hp1 := hp) rfl (c_m_isOf hp (jgp (hp 3 1) (hp 3 2) (hp 4) p) w gr hw) ?_
        refine jE_ifd_eq rfl (fun m36 => ?_) (fun m36 => ?_)
        · refine jm_Ev.bl 1 (pc' := 44) (A' := [jR 56, jI p, jI w]) (st' := [jI (-1)]) (hp' := hp) rfl ?_
          exact absurd (ghd.mpr m5) (fun z => z c9)
        · refine jm_Ev.bl 2 (pc' := 44) (A' := [jR 56, jI p, jI w]) (st' := [jI p]) (hp' := hp) rfl ?_
          exact absurd (ghd.mpr m5) (fun z => z c9)
      · refine jm_Ev.bl 1 (pc' := 25) (A' := [jR 56, jI p, jI w]) (st' := [jI (-102)]) (hp' := hp) rfl ?_
        exact absurd (ghd.mpr m5) (fun z => z c9)
    · refine jm_Ev.bl 1 (pc' := 10) (A' := [jR 56, jI p, jI w]) (st' := [jI (-101)]) (hp' := hp) rfl ?_
      exact jE_ret rfl ⟨rfl, ⟨jRP_fr rP (jFq.rf (S := []) (F := [])) (by simp) (by simp), jRD_fr rD (jFq.rf (S := []) (F := [])) (by simp) (by simp), jRC_fr (show n ≤ n + 1 by omega) rC (jFq.rf (S := []) (F := [])) (by simp) (by simp), jRS_fr rS (jFq.rf (S := []) (F := [])) (by simp) (by simp), jRR_fr rR (jFq.rf (S := []) (F := [])) (by simp), jRK_fr rK (jFq.rf (S := []) (F := [])) (by simp) (by simp), jR5_fr r5 (jFq.rf (S := []) (F := [])) (by simp), jRL_fr rL (jFq.rf (S := []) (F := [])) (by intro q hq z; simp at z <;> omega), jMC_fr rM (jFq.rf (S := []) (F := [])) (by intro q hq z; simp at z <;> omega) (by simp), jRX_fr rX (jFq.rf (S := []) (F := [])) (by simp)⟩⟩
theorem k_racked (xs ls : Int → Int) (n : Int) (hp : jm_H) (hR : jREL xs ls n hp) (hn : n ≤ 1000000) (a b : Int) (ha : jR32 a) (hb : jR32 b) : jm_Ev 109 0 [jR 0, jI a, jI b] [] hp (jSam 197 [jR 56, jI a, jI b] xs ls n) := by
  obtain ⟨rP, rD, rC, rS, rR, rK, r5, rL, rM, rX⟩ := id hR
  have ePV : 0 ≤ a → a < 5 → 0 ≤ b → b < 3 → hp 74 (3 * a + b) = (if 0 ≤ a ∧ a < 5 ∧ 0 ≤ b ∧ b < 3 ∧ b < hp 19 a then hp 18 (a * 3 + b) else -1) := by
    intro a0 a1 b0 b1
    rw [(rR.2 a b a0 a1 b0 b1).1]
    by_cases z : b < hp 19 a
    · rw [if_pos z, if_pos ⟨a0, a1, b0, b1, z⟩]
    · rw [if_neg z, if_neg (fun y => z y.2.2.2.2)]
  have pvr : jR32 (if 0 ≤ a ∧ a < 5 ∧ 0 ≤ b ∧ b < 3 ∧ b < hp 19 a then hp 18 (a * 3 + b) else -1) := by
    split
    · rename_i z; have := (rR.2 a b z.1 z.2.1 z.2.2.1 z.2.2.2.1).2 z.2.2.2.2; exact ⟨by omega, by omega⟩
    · exact ⟨by omega, by omega⟩
  refine jm_Ev.bl 1 (pc' := 1) (A' := [jR 0, jI a, jI b]) (st' := [jI a]) (hp' := hp) rfl ?_
  refine jE_callI (vs := [jI a]) (r := []) (nx := 4) (v := jI (jb (decide (0 ≤ a ∧ a < 5)))) (hp1 := hp) rfl (c_isKind hp a ha) ?_
  refine jE_ifd_eq rfl (fun c4 => ?_) (fun c4 => ?_)
  · refine jm_Ev.bl 1 (pc' := 18) (A' := [jR 0, jI a, jI b]) (st' := [jI (-102)]) (hp' := hp) rfl ?_
    refine jE_ret rfl ⟨_, rfl, by omega, rX, ?_⟩
    show jm_Ev 197 0 [jR 56, jI a, jI b] [] hp _
    refine jm_Ev.bl 1 (pc' := 1) (A' := [jR 56, jI a, jI b]) (st' := [jI a]) (hp' := hp) rfl ?_
    refine jE_i2l rfl (by omega) ?_
    refine jm_Ev.bl 2 (pc' := 6) (A' := [jR 56, jI a, jI b]) (st' := [jL 4, jL 0, jL a]) (hp' := hp) rfl ?_
    refine jE_callI (vs := [jL a, jL 0, jL 4]) (r := []) (nx := 9) (v := jI (jb (decide (0 ≤ a ∧ a ≤ 4)))) (hp1 := hp) rfl (c_m_in hp a 0 4 (by omega) (by omega) (by omega)) ?_
    refine jE_ifd_eq rfl (fun m9 => ?_) (fun m9 => ?_)
    · refine jm_Ev.bl 1 (pc' := 39) (A' := [jR 56, jI a, jI b]) (st' := [jI (-102)]) (hp' := hp) rfl ?_
      exact jE_ret rfl ⟨rfl, ⟨jRP_fr rP (jFq.rf (S := []) (F := [])) (by simp) (by simp), jRD_fr rD (jFq.rf (S := []) (F := [])) (by simp) (by simp), jRC_fr (show n ≤ n + 1 by omega) rC (jFq.rf (S := []) (F := [])) (by simp) (by simp), jRS_fr rS (jFq.rf (S := []) (F := [])) (by simp) (by simp), jRR_fr rR (jFq.rf (S := []) (F := [])) (by simp), jRK_fr rK (jFq.rf (S := []) (F := [])) (by simp) (by simp), jR5_fr r5 (jFq.rf (S := []) (F := [])) (by simp), jRL_fr rL (jFq.rf (S := []) (F := [])) (by intro q hq z; simp at z <;> omega), jMC_fr rM (jFq.rf (S := []) (F := [])) (by intro q hq z; simp at z <;> omega) (by simp), jRX_fr rX (jFq.rf (S := []) (F := [])) (by simp)⟩⟩
    · refine jm_Ev.bl 1 (pc' := 13) (A' := [jR 56, jI a, jI b]) (st' := [jI b]) (hp' := hp) rfl ?_
      refine jE_i2l rfl (by omega) ?_
      refine jm_Ev.bl 2 (pc' := 18) (A' := [jR 56, jI a, jI b]) (st' := [jL 2, jL 0, jL b]) (hp' := hp) rfl ?_
      refine jE_callI (vs := [jL b, jL 0, jL 2]) (r := []) (nx := 21) (v := jI (jb (decide (0 ≤ b ∧ b ≤ 2)))) (hp1 := hp) rfl (c_m_in hp b 0 2 (by omega) (by omega) (by omega)) ?_
      refine jE_ifd_eq rfl (fun m21 => ?_) (fun m21 => ?_)
      · refine jm_Ev.bl 1 (pc' := 39) (A' := [jR 56, jI a, jI b]) (st' := [jI (-102)]) (hp' := hp) rfl ?_
        exact jE_ret rfl ⟨rfl, ⟨jRP_fr rP (jFq.rf (S := []) (F := [])) (by simp) (by simp), jRD_fr rD (jFq.rf (S := []) (F := [])) (by simp) (by simp), jRC_fr (show n ≤ n + 1 by omega) rC (jFq.rf (S := []) (F := [])) (by simp) (by simp), jRS_fr rS (jFq.rf (S := []) (F := [])) (by simp) (by simp), jRR_fr rR (jFq.rf (S := []) (F := [])) (by simp), jRK_fr rK (jFq.rf (S := []) (F := [])) (by simp) (by simp), jR5_fr r5 (jFq.rf (S := []) (F := [])) (by simp), jRL_fr rL (jFq.rf (S := []) (F := [])) (by intro q hq z; simp at z <;> omega), jMC_fr rM (jFq.rf (S := []) (F := [])) (by intro q hq z; simp at z <;> omega) (by simp), jRX_fr rX (jFq.rf (S := []) (F := [])) (by simp)⟩⟩
      · omega
  · refine jm_Ev.bl 1 (pc' := 8) (A' := [jR 0, jI a, jI b]) (st' := [jI b]) (hp' := hp) rfl ?_
    refine jE_if_lt rfl (by omega) (fun c8 => ?_) (fun c8 => ?_)
    · refine jm_Ev.bl 1 (pc' := 18) (A' := [jR 0, jI a, jI b]) (st' := [jI (-102)]) (hp' := hp) rfl ?_
      refine jE_ret rfl ⟨_, rfl, by omega, rX, ?_⟩
      show jm_Ev 197 0 [jR 56, jI a, jI b] [] hp _
      refine jm_Ev.bl 1 (pc' := 1) (A' := [jR 56, jI a, jI b]) (st' := [jI a]) (hp' := hp) rfl ?_
      refine jE_i2l rfl (by omega) ?_
      refine jm_Ev.bl 2 (pc' := 6) (A' := [jR 56, jI a, jI b]) (st' := [jL 4, jL 0, jL a]) (hp' := hp) rfl ?_
      refine jE_callI (vs := [jL a, jL 0, jL 4]) (r := []) (nx := 9) (v := jI (jb (decide (0 ≤ a ∧ a ≤ 4)))) (hp1 := hp) rfl (c_m_in hp a 0 4 (by omega) (by omega) (by omega)) ?_
      refine jE_ifd_eq rfl (fun m9 => ?_) (fun m9 => ?_)
      · refine jm_Ev.bl 1 (pc' := 39) (A' := [jR 56, jI a, jI b]) (st' := [jI (-102)]) (hp' := hp) rfl ?_
        exact jE_ret rfl ⟨rfl, ⟨jRP_fr rP (jFq.rf (S := []) (F := [])) (by simp) (by simp), jRD_fr rD (jFq.rf (S := []) (F := [])) (by simp) (by simp), jRC_fr (show n ≤ n + 1 by omega) rC (jFq.rf (S := []) (F := [])) (by simp) (by simp), jRS_fr rS (jFq.rf (S := []) (F := [])) (by simp) (by simp), jRR_fr rR (jFq.rf (S := []) (F := [])) (by simp), jRK_fr rK (jFq.rf (S := []) (F := [])) (by simp) (by simp), jR5_fr r5 (jFq.rf (S := []) (F := [])) (by simp), jRL_fr rL (jFq.rf (S := []) (F := [])) (by intro q hq z; simp at z <;> omega), jMC_fr rM (jFq.rf (S := []) (F := [])) (by intro q hq z; simp at z <;> omega) (by simp), jRX_fr rX (jFq.rf (S := []) (F := [])) (by simp)⟩⟩
      · refine jm_Ev.bl 1 (pc' := 13) (A' := [jR 56, jI a, jI b]) (st' := [jI b]) (hp' := hp) rfl ?_
        refine jE_i2l rfl (by omega) ?_
        refine jm_Ev.bl 2 (pc' := 18) (A' := [jR 56, jI a, jI b]) (st' := [jL 2, jL 0, jL b]) (hp' := hp) rfl ?_
        refine jE_callI (vs := [jL b, jL 0, jL 2]) (r := []) (nx := 21) (v := jI (jb (decide (0 ≤ b ∧ b ≤ 2)))) (hp1 := hp) rfl (c_m_in hp b 0 2 (by omega) (by omega) (by omega)) ?_
        refine jE_ifd_eq rfl (fun m21 => ?_) (fun m21 => ?_)
        · refine jm_Ev.bl 1 (pc' := 39) (A' := [jR 56, jI a, jI b]) (st' := [jI (-102)]) (hp' := hp) rfl ?_
          exact jE_ret rfl ⟨rfl, ⟨jRP_fr rP (jFq.rf (S := []) (F := [])) (by simp) (by simp), jRD_fr rD (jFq.rf (S := []) (F := [])) (by simp) (by simp), jRC_fr (show n ≤ n + 1 by omega) rC (jFq.rf (S := []) (F := [])) (by simp) (by simp), jRS_fr rS (jFq.rf (S := []) (F := [])) (by simp) (by simp), jRR_fr rR (jFq.rf (S := []) (F := [])) (by simp), jRK_fr rK (jFq.rf (S := []) (F := [])) (by simp) (by simp), jR5_fr r5 (jFq.rf (S := []) (F := [])) (by simp), jRL_fr rL (jFq.rf (S := []) (F := [])) (by intro q hq z; simp at z <;> omega), jMC_fr rM (jFq.rf (S := []) (F := [])) (by intro q hq z; simp at z <;> omega) (by simp), jRX_fr rX (jFq.rf (S := []) (F := [])) (by simp)⟩⟩
        · omega
    · refine jm_Ev.bl 2 (pc' := 13) (A' := [jR 0, jI a, jI b]) (st' := [jI 3, jI b]) (hp' := hp) rfl ?_
      refine jE_icmp_lt rfl (by omega) (by omega) (fun c13 => ?_) (fun c13 => ?_)
      · refine jm_Ev.bl 4 (pc' := 25) (A' := [jR 0, jI a, jI b]) (st' := [jI b, jI a, jR 17]) (hp' := hp) rfl ?_
        refine jE_callI (vs := [jR 17, jI a, jI b]) (r := []) (nx := 28) (v := jI (if 0 ≤ a ∧ a < 5 ∧ 0 ≤ b ∧ b < 3 ∧ b < hp 19 a then hp 18 (a * 3 + b) else -1)) (hp1 := hp) rfl (c_r_placeAt hp rR.1 a b ha hb) ?_
        refine jE_ret rfl ⟨_, rfl, pvr, rX, ?_⟩
        show jm_Ev 197 0 [jR 56, jI a, jI b] [] hp _
        refine jm_Ev.bl 1 (pc' := 1) (A' := [jR 56, jI a, jI b]) (st' := [jI a]) (hp' := hp) rfl ?_
        refine jE_i2l rfl (by omega) ?_
        refine jm_Ev.bl 2 (pc' := 6) (A' := [jR 56, jI a, jI b]) (st' := [jL 4, jL 0, jL a]) (hp' := hp) rfl ?_
        refine jE_callI (vs := [jL a, jL 0, jL 4]) (r := []) (nx := 9) (v := jI (jb (decide (0 ≤ a ∧ a ≤ 4)))) (hp1 := hp) rfl (c_m_in hp a 0 4 (by omega) (by omega) (by omega)) ?_
        refine jE_ifd_eq rfl (fun m9 => ?_) (fun m9 => ?_)
        · refine jm_Ev.bl 1 (pc' := 39) (A' := [jR 56, jI a, jI b]) (st' := [jI (-102)]) (hp' := hp) rfl ?_
          omega
        · refine jm_Ev.bl 1 (pc' := 13) (A' := [jR 56, jI a, jI b]) (st' := [jI b]) (hp' := hp) rfl ?_
          refine jE_i2l rfl (by omega) ?_
          refine jm_Ev.bl 2 (pc' := 18) (A' := [jR 56, jI a, jI b]) (st' := [jL 2, jL 0, jL b]) (hp' := hp) rfl ?_
          refine jE_callI (vs := [jL b, jL 0, jL 2]) (r := []) (nx := 21) (v := jI (jb (decide (0 ≤ b ∧ b ≤ 2)))) (hp1 := hp) rfl (c_m_in hp b 0 2 (by omega) (by omega) (by omega)) ?_
          refine jE_ifd_eq rfl (fun m21 => ?_) (fun m21 => ?_)
          · refine jm_Ev.bl 1 (pc' := 39) (A' := [jR 56, jI a, jI b]) (st' := [jI (-102)]) (hp' := hp) rfl ?_
            omega
          · refine jm_Ev.bl 7 (pc' := 33) (A' := [jR 56, jI a, jI b]) (st' := [jI ((3 * a) + b), jR 74]) (hp' := hp) rfl ?_
            refine jE_iald (n := 15) (f := hp 74) rfl rfl (by omega) ?_
            refine jE_top (w := (if 0 ≤ a ∧ a < 5 ∧ 0 ≤ b ∧ b < 3 ∧ b < hp 19 a then hp 18 (a * 3 + b) else -1)) (ePV (by omega) (by omega) (by omega) (by omega)) ?_
            refine jm_Ev.bl 1 (pc' := 39) (A' := [jR 56, jI a, jI b]) (st' := [jI (if 0 ≤ a ∧ a < 5 ∧ 0 ≤ b ∧ b < 3 ∧ b < hp 19 a then hp 18 (a * 3 + b) else -1)]) (hp' := hp) rfl ?_
            exact jE_ret rfl ⟨rfl, ⟨jRP_fr rP (jFq.rf (S := []) (F := [])) (by simp) (by simp), jRD_fr rD (jFq.rf (S := []) (F := [])) (by simp) (by simp), jRC_fr (show n ≤ n + 1 by omega) rC (jFq.rf (S := []) (F := [])) (by simp) (by simp), jRS_fr rS (jFq.rf (S := []) (F := [])) (by simp) (by simp), jRR_fr rR (jFq.rf (S := []) (F := [])) (by simp), jRK_fr rK (jFq.rf (S := []) (F := [])) (by simp) (by simp), jR5_fr r5 (jFq.rf (S := []) (F := [])) (by simp), jRL_fr rL (jFq.rf (S := []) (F := [])) (by intro q hq z; simp at z <;> omega), jMC_fr rM (jFq.rf (S := []) (F := [])) (by intro q hq z; simp at z <;> omega) (by simp), jRX_fr rX (jFq.rf (S := []) (F := [])) (by simp)⟩⟩
      · refine jm_Ev.bl 1 (pc' := 18) (A' := [jR 0, jI a, jI b]) (st' := [jI (-102)]) (hp' := hp) rfl ?_
        refine jE_ret rfl ⟨_, rfl, by omega, rX, ?_⟩
        show jm_Ev 197 0 [jR 56, jI a, jI b] [] hp _
        refine jm_Ev.bl 1 (pc' := 1) (A' := [jR 56, jI a, jI b]) (st' := [jI a]) (hp' := hp) rfl ?_
        refine jE_i2l rfl (by omega) ?_
        refine jm_Ev.bl 2 (pc' := 6) (A' := [jR 56, jI a, jI b]) (st' := [jL 4, jL 0, jL a]) (hp' := hp) rfl ?_
        refine jE_callI (vs := [jL a, jL 0, jL 4]) (r := []) (nx := 9) (v := jI (jb (decide (0 ≤ a ∧ a ≤ 4)))) (hp1 := hp) rfl (c_m_in hp a 0 4 (by omega) (by omega) (by omega)) ?_
        refine jE_ifd_eq rfl (fun m9 => ?_) (fun m9 => ?_)
        · refine jm_Ev.bl 1 (pc' := 39) (A' := [jR 56, jI a, jI b]) (st' := [jI (-102)]) (hp' := hp) rfl ?_
          exact jE_ret rfl ⟨rfl, ⟨jRP_fr rP (jFq.rf (S := []) (F := [])) (by simp) (by simp), jRD_fr rD (jFq.rf (S := []) (F := [])) (by simp) (by simp), jRC_fr (show n ≤ n + 1 by omega) rC (jFq.rf (S := []) (F := [])) (by simp) (by simp), jRS_fr rS (jFq.rf (S := []) (F := [])) (by simp) (by simp), jRR_fr rR (jFq.rf (S := []) (F := [])) (by simp), jRK_fr rK (jFq.rf (S := []) (F := [])) (by simp) (by simp), jR5_fr r5 (jFq.rf (S := []) (F := [])) (by simp), jRL_fr rL (jFq.rf (S := []) (F := [])) (by intro q hq z; simp at z <;> omega), jMC_fr rM (jFq.rf (S := []) (F := [])) (by intro q hq z; simp at z <;> omega) (by simp), jRX_fr rX (jFq.rf (S := []) (F := [])) (by simp)⟩⟩
        · refine jm_Ev.bl 1 (pc' := 13) (A' := [jR 56, jI a, jI b]) (st' := [jI b]) (hp' := hp) rfl ?_
          refine jE_i2l rfl (by omega) ?_
          refine jm_Ev.bl 2 (pc' := 18) (A' := [jR 56, jI a, jI b]) (st' := [jL 2, jL 0, jL b]) (hp' := hp) rfl ?_
          refine jE_callI (vs := [jL b, jL 0, jL 2]) (r := []) (nx := 21) (v := jI (jb (decide (0 ≤ b ∧ b ≤ 2)))) (hp1 := hp) rfl (c_m_in hp b 0 2 (by omega) (by omega) (by omega)) ?_
          refine jE_ifd_eq rfl (fun m21 => ?_) (fun m21 => ?_)
          · refine jm_Ev.bl 1 (pc' := 39) (A' := [jR 56, jI a, jI b]) (st' := [jI (-102)]) (hp' := hp) rfl ?_
            exact jE_ret rfl ⟨rfl, ⟨jRP_fr rP (jFq.rf (S := []) (F := [])) (by simp) (by simp), jRD_fr rD (jFq.rf (S := []) (F := [])) (by simp) (by simp), jRC_fr (show n ≤ n + 1 by omega) rC (jFq.rf (S := []) (F := [])) (by simp) (by simp), jRS_fr rS (jFq.rf (S := []) (F := [])) (by simp) (by simp), jRR_fr rR (jFq.rf (S := []) (F := [])) (by simp), jRK_fr rK (jFq.rf (S := []) (F := [])) (by simp) (by simp), jR5_fr r5 (jFq.rf (S := []) (F := [])) (by simp), jRL_fr rL (jFq.rf (S := []) (F := [])) (by intro q hq z; simp at z <;> omega), jMC_fr rM (jFq.rf (S := []) (F := [])) (by intro q hq z; simp at z <;> omega) (by simp), jRX_fr rX (jFq.rf (S := []) (F := [])) (by simp)⟩⟩
          · omega
theorem k_rack (xs ls : Int → Int) (n : Int) (hp : jm_H) (hR : jREL xs ls n hp) (hn : n ≤ 1000000) (p w : Int) (hp32 : jR32 p) (hw : jR32 w) : jm_Ev 108 0 [jR 0, jI p, jI w] [] hp (jSam 196 [jR 56, jI p, jI w] xs ls n) := by
  obtain ⟨rP, rD, rC, rS, rR, rK, r5, rL, rM, rX⟩ := id hR
  have wh := jwh rD.1
  have e67 : hp 56 6 * hp 56 7 = hp 3 1 * hp 3 2 := by rw [rD.2.1, rD.2.2.1]
  have gr : jR32 (jgp (hp 3 1) (hp 3 2) (hp 4) p) := by
    unfold jgp
    split
    · rename_i z; have := rD.1.2.2.2.2 p z.1 (by omega); exact ⟨by omega, by omega⟩
    · exact ⟨by omega, by omega⟩
  have ghd : (jgp (hp 3 1) (hp 3 2) (hp 4) p) ≠ -1 ↔ ((0 ≤ p ∧ p < hp 3 1 * hp 3 2) ∧ hp 58 p ≠ -1) := by
    unfold jgp
    constructor
    · intro z
      split at z
      · rename_i y; exact ⟨y, by rw [rD.2.2.2.1 p y.1 y.2]; exact z⟩
      · exact absurd rfl z
    · intro z
      rw [if_pos z.1, ← rD.2.2.2.1 p z.1.1 z.1.2]
      exact z.2
  have gin : (0 ≤ p ∧ p < hp 3 1 * hp 3 2) → hp 58 p = (jgp (hp 3 1) (hp 3 2) (hp 4) p) := fun z => by unfold jgp; rw [if_pos z]; exact rD.2.2.2.1 p z.1 z.2
  refine jm_Ev.bl 3 (pc' := 5) (A' := [jR 0, jI p, jI w]) (st' := [jI p, jR 3]) (hp' := hp) rfl ?_
  refine jE_callI (vs := [jR 3, jI p]) (r := []) (nx := 8) (v := jI (jgp (hp 3 1) (hp 3 2) (hp 4) p)) (hp1 := hp) rfl (c_g_kindAt_3 hp rD.1 p hp32) ?_
  refine jm_Ev.bl 1 (pc' := 9) (A' := [jR 0, jI p, jI w]) (st' := [jI (-1), jI (jgp (hp 3 1) (hp 3 2) (hp 4) p)]) (hp' := hp) rfl ?_
  refine jE_icmp_ne rfl (by omega) (by omega) (fun c9 => ?_) (fun c9 => ?_)
  · refine jm_Ev.bl 1 (pc' := 16) (A' := [jR 0, jI p, jI w]) (st' := [jI w]) (hp' := hp) rfl ?_
    refine jE_callI (vs := [jI w]) (r := []) (nx := 19) (v := jI (jb (decide (0 ≤ w ∧ w < 5)))) (hp1 := hp) rfl (c_isKind hp w hw) ?_
    refine jE_ifd_ne rfl (fun c19 => ?_) (fun c19 => ?_)
    · refine jm_Ev.bl 3 (pc' := 30) (A' := [jR 0, jI p, jI w]) (st' := [jI w, jR 17]) (hp' := hp) rfl ?_
      refine jE_callI (vs := [jR 17, jI w]) (r := []) (nx := 33) (v := jI (jb (decide (¬ (0 ≤ w ∧ w < 5) ∨ 3 ≤ hp 19 w)))) (hp1 := hp) rfl (c_r_isFull hp rR.1 w hw) ?_
      refine jE_ifd_eq rfl (fun c33 => ?_) (fun c33 => ?_)
      · refine jm_Ev.bl 3 (pc' := 44) (A' := [jR 0, jI p, jI w]) (st' := [jI p, jR 3]) (hp' := hp) rfl ?_
        refine jE_callI (vs := [jR 3, jI p]) (r := []) (nx := 47) (v := jI (jgp (hp 3 1) (hp 3 2) (hp 4) p)) (hp1 := hp) rfl (c_g_kindAt_3 hp rD.1 p hp32) ?_
        refine jm_Ev.bl 1 (pc' := 48) (A' := [jR 0, jI p, jI w]) (st' := [jI w, jI (jgp (hp 3 1) (hp 3 2) (hp 4) p)]) (hp' := hp) rfl ?_
        refine jE_callI (vs := [jI (jgp (hp 3 1) (hp 3 2) (hp 4) p), jI w]) (r := []) (nx := 51) (v := jI (jb (decide (jals (jgp (hp 3 1) (hp 3 2) (hp 4) p) w)))) (hp1 := hp) rfl (c_isAlso hp (jgp (hp 3 1) (hp 3 2) (hp 4) p) w gr hw) ?_
        refine jE_ifd_eq rfl (fun c51 => ?_) (fun c51 => ?_)
        · refine jm_Ev.bl 1 (pc' := 67) (A' := [jR 0, jI p, jI w]) (st' := [jI (-1)]) (hp' := hp) rfl ?_
          refine jE_ret rfl ⟨_, rfl, by omega, rX, ?_⟩
          show jm_Ev 196 0 [jR 56, jI p, jI w, jU] [] hp _
          refine jm_Ev.bl 2 (pc' := 2) (A' := [jR 56, jI p, jI w, jU]) (st' := [jI p, jR 56]) (hp' := hp) rfl ?_
          refine jE_callI (vs := [jR 56, jI p]) (r := []) (nx := 5) (v := jI (jb (decide ((0 ≤ p ∧ p < hp 3 1 * hp 3 2) ∧ hp 58 p ≠ -1)))) (hp1 := hp) rfl (e67 ▸ c_m_hasDot hp rM.1 p hp32) ?_
          refine jE_ifd_ne rfl (fun m5 => ?_) (fun m5 => ?_)
          · refine jm_Ev.bl 1 (pc' := 12) (A' := [jR 56, jI p, jI w, jU]) (st' := [jI w]) (hp' := hp) rfl ?_
            refine jE_i2l rfl (by omega) ?_
            refine jm_Ev.bl 2 (pc' := 17) (A' := [jR 56, jI p, jI w, jU]) (st' := [jL 4, jL 0, jL w]) (hp' := hp) rfl ?_
            refine jE_callI (vs := [jL w, jL 0, jL 4]) (r := []) (nx := 20) (v := jI (jb (decide (0 ≤ w ∧ w ≤ 4)))) (hp1 := hp) rfl (c_m_in hp w 0 4 (by omega) (by omega) (by omega)) ?_
            refine jE_ifd_ne rfl (fun m20 => ?_) (fun m20 => ?_)
            · refine jm_Ev.bl 2 (pc' := 28) (A' := [jR 56, jI p, jI w, jU]) (st' := [jI w, jR 56]) (hp' := hp) rfl ?_
              refine jE_callI (vs := [jR 56, jI w]) (r := []) (nx := 31) (v := jI (hp 19 w)) (hp1 := hp) rfl (c_m_rackedOf hp w (hp 19 w) (by omega) (rR.1 w (by omega) (by omega)) (fun b b0 b1 => by have z := rR.2 w b (by omega) (by omega) b0 b1; show jR32 (hp 74 (3 * w + b)) ∧ (hp 74 (3 * w + b) ≠ -1 ↔ b < hp 19 w); rw [z.1]; split; exact ⟨⟨by have := z.2 ‹_›; omega, by have := z.2 ‹_›; omega⟩, fun _ => ‹_›, fun _ => by have := z.2 ‹_›; omega⟩; exact ⟨⟨by omega, by omega⟩, fun y => absurd rfl y, fun y => absurd y ‹_›⟩)) ?_
              refine jm_Ev.bl 3 (pc' := 34) (A' := [jR 56, jI p, jI w, jI (hp 19 w)]) (st' := [jI 3, jI (hp 19 w)]) (hp' := hp) rfl ?_
              refine jE_icmp_ne rfl (by have := rR.1 w (by omega) (by omega); omega) (by have := rR.1 w (by omega) (by omega); omega) (fun m34 => ?_) (fun m34 => ?_)
              · refine jm_Ev.bl 3 (pc' := 45) (A' := [jR 56, jI p, jI w, jI (hp 19 w)]) (st' := [jI p, jR 58]) (hp' := hp) rfl ?_
                refine jE_iald (n := 25) (f := hp 58) rfl rfl (by omega) ?_
                refine jE_top (w := (jgp (hp 3 1) (hp 3 2) (hp 4) p)) (gin m5.1) ?_
                refine jm_Ev.bl 1 (pc' := 47) (A' := [jR 56, jI p, jI w, jI (hp 19 w)]) (st' := [jI w, jI (jgp (hp 3 1) (hp 3 2) (hp 4) p)]) (hp' := hp) rfl ?_
                refine jE_callI (vs := [jI (jgp (hp 3 1) (hp 3 2) (hp 4) p), jI w]) (r := []) (nx := 50) (v := jI (jb (decide (jals (jgp (hp 3 1) (hp 3 2) (hp 4) p) w)))) (hp1 := hp) rfl (c_m_isOf hp (jgp (hp 3 1) (hp 3 2) (hp 4) p) w gr hw) ?_
                refine jE_ifd_ne rfl (fun m50 => ?_) (fun m50 => ?_)
                · have rw3 := rR.1 w (by omega) (by omega)
                  refine jm_Ev.bl 8 (pc' := 65) (A' := [jR 56, jI p, jI w, jI (hp 19 w)]) (st' := [jI p, jI ((3 * w) + (hp 19 w)), jR 74]) (hp' := hp) rfl ?_
                  refine jE_iast (n := 15) rfl rfl (by omega) ?_
                  refine jm_Ev.bl 3 (pc' := 69) (A' := [jR 56, jI p, jI w, jI (hp 19 w)]) (st' := [jI ((hp 19 w) + 1)]) (hp' := (jm_hs hp 74 ((3 * w) + (hp 19 w)) p)) rfl ?_
                  exact absurd m50 c51
                · refine jm_Ev.bl 1 (pc' := 54) (A' := [jR 56, jI p, jI w, jI (hp 19 w)]) (st' := [jI (-1)]) (hp' := hp) rfl ?_
                  exact jE_ret rfl ⟨rfl, ⟨jRP_fr rP (jFq.rf (S := []) (F := [])) (by simp) (by simp), jRD_fr rD (jFq.rf (S := []) (F := [])) (by simp) (by simp), jRC_fr (show n ≤ n + 1 by omega) rC (jFq.rf (S := []) (F := [])) (by simp) (by simp), jRS_fr rS (jFq.rf (S := []) (F := [])) (by simp) (by simp), jRR_fr rR (jFq.rf (S := []) (F := [])) (by simp), jRK_fr rK (jFq.rf (S := []) (F := [])) (by simp) (by simp), jR5_fr r5 (jFq.rf (S := []) (F := [])) (by simp), jRL_fr rL (jFq.rf (S := []) (F := [])) (by intro q hq z; simp at z <;> omega), jMC_fr rM (jFq.rf (S := []) (F := [])) (by intro q hq z; simp at z <;> omega) (by simp), jRX_fr rX (jFq.rf (S := []) (F := [])) (by simp)⟩⟩
              · refine jm_Ev.bl 1 (pc' := 39) (A' := [jR 56, jI p, jI w, jI (hp 19 w)]) (st' := [jI (-104)]) (hp' := hp) rfl ?_
                exact absurd c33 (fun z => z (Or.inr (by omega)))
            · refine jm_Ev.bl 1 (pc' := 25) (A' := [jR 56, jI p, jI w, jU]) (st' := [jI (-102)]) (hp' := hp) rfl ?_
              exact absurd (show 0 ≤ w ∧ w ≤ 4 by omega) m20
          · refine jm_Ev.bl 1 (pc' := 10) (A' := [jR 56, jI p, jI w, jU]) (st' := [jI (-101)]) (hp' := hp) rfl ?_
            exact absurd (ghd.mp c9) m5
        · refine jm_Ev.bl 4 (pc' := 60) (A' := [jR 0, jI p, jI w]) (st' := [jI p, jI w, jR 17]) (hp' := hp) rfl ?_
          refine jE_callI (vs := [jR 17, jI w, jI p]) (r := []) (nx := 63) (v := jI (hp 19 w + 1)) (hp1 := (jm_hs (jm_hs hp 18 (w * 3 + hp 19 w) p) 19 w (hp 19 w + 1))) rfl (c_r_add hp rR.1 w p c19.1 c19.2 (by by_cases z : hp 19 w < 3; exact z; exact absurd (Or.inr (by omega)) c33)) ?_
          refine jm_Ev.bl 1 (pc' := 67) (A' := [jR 0, jI p, jI w]) (st' := [jI (hp 19 w + 1)]) (hp' := (jm_hs (jm_hs hp 18 (w * 3 + hp 19 w) p) 19 w (hp 19 w + 1))) rfl ?_
          have rw3 := rR.1 w (by omega) (by omega)
          refine jE_ret rfl ⟨_, rfl, ⟨by omega, by omega⟩, rX, ?_⟩
          show jm_Ev 196 0 [jR 56, jI p, jI w, jU] [] (jm_hs (jm_hs hp 18 (w * 3 + hp 19 w) p) 19 w (hp 19 w + 1)) _
          refine jm_Ev.bl 2 (pc' := 2) (A' := [jR 56, jI p, jI w, jU]) (st' := [jI p, jR 56]) (hp' := (jm_hs (jm_hs hp 18 (w * 3 + hp 19 w) p) 19 w (hp 19 w + 1))) rfl ?_
          refine jE_callI (vs := [jR 56, jI p]) (r := []) (nx := 5) (v := jI (jb (decide ((0 ≤ p ∧ p < hp 3 1 * hp 3 2) ∧ hp 58 p ≠ -1)))) (hp1 := (jm_hs (jm_hs hp 18 (w * 3 + hp 19 w) p) 19 w (hp 19 w + 1))) rfl (e67 ▸ c_m_hasDot (jm_hs (jm_hs hp 18 (w * 3 + hp 19 w) p) 19 w (hp 19 w + 1)) rM.1 p hp32) ?_
          refine jE_ifd_ne rfl (fun m5 => ?_) (fun m5 => ?_)
          · refine jm_Ev.bl 1 (pc' := 12) (A' := [jR 56, jI p, jI w, jU]) (st' := [jI w]) (hp' := (jm_hs (jm_hs hp 18 (w * 3 + hp 19 w) p) 19 w (hp 19 w + 1))) rfl ?_
            refine jE_i2l rfl (by omega) ?_
            refine jm_Ev.bl 2 (pc' := 17) (A' := [jR 56, jI p, jI w, jU]) (st' := [jL 4, jL 0, jL w]) (hp' := (jm_hs (jm_hs hp 18 (w * 3 + hp 19 w) p) 19 w (hp 19 w + 1))) rfl ?_
            refine jE_callI (vs := [jL w, jL 0, jL 4]) (r := []) (nx := 20) (v := jI (jb (decide (0 ≤ w ∧ w ≤ 4)))) (hp1 := (jm_hs (jm_hs hp 18 (w * 3 + hp 19 w) p) 19 w (hp 19 w + 1))) rfl (c_m_in (jm_hs (jm_hs hp 18 (w * 3 + hp 19 w) p) 19 w (hp 19 w + 1)) w 0 4 (by omega) (by omega) (by omega)) ?_
            refine jE_ifd_ne rfl (fun m20 => ?_) (fun m20 => ?_)
            · refine jm_Ev.bl 2 (pc' := 28) (A' := [jR 56, jI p, jI w, jU]) (st' := [jI w, jR 56]) (hp' := (jm_hs (jm_hs hp 18 (w * 3 + hp 19 w) p) 19 w (hp 19 w + 1))) rfl ?_
              refine jE_callI (vs := [jR 56, jI w]) (r := []) (nx := 31) (v := jI (hp 19 w)) (hp1 := (jm_hs (jm_hs hp 18 (w * 3 + hp 19 w) p) 19 w (hp 19 w + 1))) rfl (c_m_rackedOf (jm_hs (jm_hs hp 18 (w * 3 + hp 19 w) p) 19 w (hp 19 w + 1)) w (hp 19 w) (by omega) (rR.1 w (by omega) (by omega)) (fun b b0 b1 => by have z := rR.2 w b (by omega) (by omega) b0 b1; show jR32 (hp 74 (3 * w + b)) ∧ (hp 74 (3 * w + b) ≠ -1 ↔ b < hp 19 w); rw [z.1]; split; exact ⟨⟨by have := z.2 ‹_›; omega, by have := z.2 ‹_›; omega⟩, fun _ => ‹_›, fun _ => by have := z.2 ‹_›; omega⟩; exact ⟨⟨by omega, by omega⟩, fun y => absurd rfl y, fun y => absurd y ‹_›⟩)) ?_
              refine jm_Ev.bl 3 (pc' := 34) (A' := [jR 56, jI p, jI w, jI (hp 19 w)]) (st' := [jI 3, jI (hp 19 w)]) (hp' := (jm_hs (jm_hs hp 18 (w * 3 + hp 19 w) p) 19 w (hp 19 w + 1))) rfl ?_
              refine jE_icmp_ne rfl (by have := rR.1 w (by omega) (by omega); omega) (by have := rR.1 w (by omega) (by omega); omega) (fun m34 => ?_) (fun m34 => ?_)
              · refine jm_Ev.bl 3 (pc' := 45) (A' := [jR 56, jI p, jI w, jI (hp 19 w)]) (st' := [jI p, jR 58]) (hp' := (jm_hs (jm_hs hp 18 (w * 3 + hp 19 w) p) 19 w (hp 19 w + 1))) rfl ?_
                refine jE_iald (n := 25) (f := (jm_hs (jm_hs hp 18 (w * 3 + hp 19 w) p) 19 w (hp 19 w + 1)) 58) rfl rfl (by omega) ?_
                refine jE_top (w := (jgp (hp 3 1) (hp 3 2) (hp 4) p)) (gin m5.1) ?_
                refine jm_Ev.bl 1 (pc' := 47) (A' := [jR 56, jI p, jI w, jI (hp 19 w)]) (st' := [jI w, jI (jgp (hp 3 1) (hp 3 2) (hp 4) p)]) (hp' := (jm_hs (jm_hs hp 18 (w * 3 + hp 19 w) p) 19 w (hp 19 w + 1))) rfl ?_
                refine jE_callI (vs := [jI (jgp (hp 3 1) (hp 3 2) (hp 4) p), jI w]) (r := []) (nx := 50) (v := jI (jb (decide (jals (jgp (hp 3 1) (hp 3 2) (hp 4) p) w)))) (hp1 := (jm_hs (jm_hs hp 18 (w * 3 + hp 19 w) p) 19 w (hp 19 w + 1))) rfl (c_m_isOf (jm_hs (jm_hs hp 18 (w * 3 + hp 19 w) p) 19 w (hp 19 w + 1)) (jgp (hp 3 1) (hp 3 2) (hp 4) p) w gr hw) ?_
                refine jE_ifd_ne rfl (fun m50 => ?_) (fun m50 => ?_)
                · have rw3 := rR.1 w (by omega) (by omega)
                  refine jm_Ev.bl 8 (pc' := 65) (A' := [jR 56, jI p, jI w, jI (hp 19 w)]) (st' := [jI p, jI ((3 * w) + (hp 19 w)), jR 74]) (hp' := (jm_hs (jm_hs hp 18 (w * 3 + hp 19 w) p) 19 w (hp 19 w + 1))) rfl ?_
                  refine jE_iast (n := 15) rfl rfl (by omega) ?_
                  refine jm_Ev.bl 3 (pc' := 69) (A' := [jR 56, jI p, jI w, jI (hp 19 w)]) (st' := [jI ((hp 19 w) + 1)]) (hp' := (jm_hs (jm_hs (jm_hs hp 18 (w * 3 + hp 19 w) p) 19 w (hp 19 w + 1)) 74 ((3 * w) + (hp 19 w)) p)) rfl ?_
                  have hz : jFq hp (jm_hs (jm_hs (jm_hs hp 18 (w * 3 + hp 19 w) p) 19 w (hp 19 w + 1)) 74 (3 * w + hp 19 w) p) [18, 19, 74] [] := ((((jFr.rf (hp := hp)).set (k := 18) (j := w * 3 + hp 19 w) (v := p) (S := [18, 19, 74]) (by simp)).set (k := 19) (j := w) (v := hp 19 w + 1) (by simp)).q).set (by simp)
                  have hRR : jRR (jm_hs (jm_hs (jm_hs hp 18 (w * 3 + hp 19 w) p) 19 w (hp 19 w + 1)) 74 (3 * w + hp 19 w) p) := by
                    refine ⟨fun j j0 j1 => ?_, fun a b a0 a1 b0 b1 => ?_⟩
                    · show 0 ≤ jm_hs (jm_hs hp 18 (w * 3 + hp 19 w) p) 19 w (hp 19 w + 1) 19 j ∧ jm_hs (jm_hs hp 18 (w * 3 + hp 19 w) p) 19 w (hp 19 w + 1) 19 j ≤ 3
                      rw [js_hs_eq]
                      split
                      · omega
                      · exact rR.1 j j0 j1
                    · show jm_hs (jm_hs (jm_hs hp 18 (w * 3 + hp 19 w) p) 19 w (hp 19 w + 1)) 74 (3 * w + hp 19 w) p 74 (3 * a + b) = (if b < jm_hs (jm_hs hp 18 (w * 3 + hp 19 w) p) 19 w (hp 19 w + 1) 19 a then jm_hs hp 18 (w * 3 + hp 19 w) p 18 (a * 3 + b) else -1) ∧ (b < jm_hs (jm_hs hp 18 (w * 3 + hp 19 w) p) 19 w (hp 19 w + 1) 19 a → 0 ≤ jm_hs hp 18 (w * 3 + hp 19 w) p 18 (a * 3 + b) ∧ jm_hs hp 18 (w * 3 + hp 19 w) p 18 (a * 3 + b) < 25)
                      have z := rR.2 a b a0 a1 b0 b1
                      have zw := rR.1 w (by omega) (by omega)
                      by_cases ea : a = w
                      · subst ea
                        have e19 : jm_hs (jm_hs hp 18 (a * 3 + hp 19 a) p) 19 a (hp 19 a + 1) 19 a = hp 19 a + 1 := by rw [js_hs_eq, if_pos rfl]
                        by_cases eb : b = hp 19 a
                        · have e74 : jm_hs (jm_hs (jm_hs hp 18 (a * 3 + hp 19 a) p) 19 a (hp 19 a + 1)) 74 (3 * a + hp 19 a) p 74 (3 * a + b) = p := by rw [js_hs_eq, if_pos (by omega)]
                          have e18 : jm_hs hp 18 (a * 3 + hp 19 a) p 18 (a * 3 + b) = p := by rw [js_hs_eq, if_pos (by omega)]
                          rw [e74, e19, e18, if_pos (by omega)]
                          exact ⟨rfl, fun _ => by have := m5.1; omega⟩
                        · have e74 : jm_hs (jm_hs (jm_hs hp 18 (a * 3 + hp 19 a) p) 19 a (hp 19 a + 1)) 74 (3 * a + hp 19 a) p 74 (3 * a + b) = hp 74 (3 * a + b) := by rw [js_hs_eq, if_neg (by omega)]; rfl
                          have e18 : jm_hs hp 18 (a * 3 + hp 19 a) p 18 (a * 3 + b) = hp 18 (a * 3 + b) := by rw [js_hs_eq, if_neg (by omega)]
                          rw [e74, e19, e18, z.1]
                          by_cases ec : b < hp 19 a
                          · rw [if_pos ec, if_pos (by omega)]
                            exact ⟨rfl, fun _ => z.2 ec⟩
                          · rw [if_neg ec, if_neg (by omega)]
                            exact ⟨rfl, fun y => by omega⟩
                      · have e19 : jm_hs (jm_hs hp 18 (w * 3 + hp 19 w) p) 19 w (hp 19 w + 1) 19 a = hp 19 a := by rw [js_hs_eq, if_neg ea]; rfl
                        have e74 : jm_hs (jm_hs (jm_hs hp 18 (w * 3 + hp 19 w) p) 19 w (hp 19 w + 1)) 74 (3 * w + hp 19 w) p 74 (3 * a + b) = hp 74 (3 * a + b) := by rw [js_hs_eq, if_neg (by omega)]; rfl
                        have e18 : jm_hs hp 18 (w * 3 + hp 19 w) p 18 (a * 3 + b) = hp 18 (a * 3 + b) := by rw [js_hs_eq, if_neg (by omega)]
                        rw [e74, e19, e18]
                        exact z
                  exact jE_ret rfl ⟨rfl, ⟨jRP_fr rP hz (by simp) (by simp), jRD_fr rD hz (by simp) (by simp), jRC_fr (show n ≤ n + 1 by omega) rC hz (by simp) (by simp), jRS_fr rS hz (by simp) (by simp), hRR, jRK_fr rK hz (by simp) (by simp), jR5_fr r5 hz (by simp), jRL_fr rL hz (by intro q hq z; simp at z <;> omega), jMC_fr rM hz (by intro q hq z; simp at z <;> omega) (by simp), jRX_fr rX hz (by simp)⟩⟩
                · refine jm_Ev.bl 1 (pc' := 54) (A' := [jR 56, jI p, jI w, jI (hp 19 w)]) (st' := [jI (-1)]) (hp' := (jm_hs (jm_hs hp 18 (w * 3 + hp 19 w) p) 19 w (hp 19 w + 1))) rfl ?_
                  exact absurd c51 m50
              · refine jm_Ev.bl 1 (pc' := 39) (A' := [jR 56, jI p, jI w, jI (hp 19 w)]) (st' := [jI (-104)]) (hp' := (jm_hs (jm_hs hp 18 (w * 3 + hp 19 w) p) 19 w (hp 19 w + 1))) rfl ?_
                exact absurd c33 (fun z => z (Or.inr (by omega)))
            · refine jm_Ev.bl 1 (pc' := 25) (A' := [jR 56, jI p, jI w, jU]) (st' := [jI (-102)]) (hp' := (jm_hs (jm_hs hp 18 (w * 3 + hp 19 w) p) 19 w (hp 19 w + 1))) rfl ?_
              exact absurd (show 0 ≤ w ∧ w ≤ 4 by omega) m20
          · refine jm_Ev.bl 1 (pc' := 10) (A' := [jR 56, jI p, jI w, jU]) (st' := [jI (-101)]) (hp' := (jm_hs (jm_hs hp 18 (w * 3 + hp 19 w) p) 19 w (hp 19 w + 1))) rfl ?_
            exact absurd (ghd.mp c9) m5
      · refine jm_Ev.bl 1 (pc' := 38) (A' := [jR 0, jI p, jI w]) (st' := [jI (-104)]) (hp' := hp) rfl ?_
        refine jE_ret rfl ⟨_, rfl, by omega, rX, ?_⟩
        show jm_Ev 196 0 [jR 56, jI p, jI w, jU] [] hp _
        refine jm_Ev.bl 2 (pc' := 2) (A' := [jR 56, jI p, jI w, jU]) (st' := [jI p, jR 56]) (hp' := hp) rfl ?_
        refine jE_callI (vs := [jR 56, jI p]) (r := []) (nx := 5) (v := jI (jb (decide ((0 ≤ p ∧ p < hp 3 1 * hp 3 2) ∧ hp 58 p ≠ -1)))) (hp1 := hp) rfl (e67 ▸ c_m_hasDot hp rM.1 p hp32) ?_
        refine jE_ifd_ne rfl (fun m5 => ?_) (fun m5 => ?_)
        · refine jm_Ev.bl 1 (pc' := 12) (A' := [jR 56, jI p, jI w, jU]) (st' := [jI w]) (hp' := hp) rfl ?_
          refine jE_i2l rfl (by omega) ?_
          refine jm_Ev.bl 2 (pc' := 17) (A' := [jR 56, jI p, jI w, jU]) (st' := [jL 4, jL 0, jL w]) (hp' := hp) rfl ?_
          refine jE_callI (vs := [jL w, jL 0, jL 4]) (r := []) (nx := 20) (v := jI (jb (decide (0 ≤ w ∧ w ≤ 4)))) (hp1 := hp) rfl (c_m_in hp w 0 4 (by omega) (by omega) (by omega)) ?_
          refine jE_ifd_ne rfl (fun m20 => ?_) (fun m20 => ?_)
          · refine jm_Ev.bl 2 (pc' := 28) (A' := [jR 56, jI p, jI w, jU]) (st' := [jI w, jR 56]) (hp' := hp) rfl ?_
            refine jE_callI (vs := [jR 56, jI w]) (r := []) (nx := 31) (v := jI (hp 19 w)) (hp1 := hp) rfl (c_m_rackedOf hp w (hp 19 w) (by omega) (rR.1 w (by omega) (by omega)) (fun b b0 b1 => by have z := rR.2 w b (by omega) (by omega) b0 b1; show jR32 (hp 74 (3 * w + b)) ∧ (hp 74 (3 * w + b) ≠ -1 ↔ b < hp 19 w); rw [z.1]; split; exact ⟨⟨by have := z.2 ‹_›; omega, by have := z.2 ‹_›; omega⟩, fun _ => ‹_›, fun _ => by have := z.2 ‹_›; omega⟩; exact ⟨⟨by omega, by omega⟩, fun y => absurd rfl y, fun y => absurd y ‹_›⟩)) ?_
            refine jm_Ev.bl 3 (pc' := 34) (A' := [jR 56, jI p, jI w, jI (hp 19 w)]) (st' := [jI 3, jI (hp 19 w)]) (hp' := hp) rfl ?_
            refine jE_icmp_ne rfl (by have := rR.1 w (by omega) (by omega); omega) (by have := rR.1 w (by omega) (by omega); omega) (fun m34 => ?_) (fun m34 => ?_)
            · refine jm_Ev.bl 3 (pc' := 45) (A' := [jR 56, jI p, jI w, jI (hp 19 w)]) (st' := [jI p, jR 58]) (hp' := hp) rfl ?_
              refine jE_iald (n := 25) (f := hp 58) rfl rfl (by omega) ?_
              refine jE_top (w := (jgp (hp 3 1) (hp 3 2) (hp 4) p)) (gin m5.1) ?_
              refine jm_Ev.bl 1 (pc' := 47) (A' := [jR 56, jI p, jI w, jI (hp 19 w)]) (st' := [jI w, jI (jgp (hp 3 1) (hp 3 2) (hp 4) p)]) (hp' := hp) rfl ?_
              refine jE_callI (vs := [jI (jgp (hp 3 1) (hp 3 2) (hp 4) p), jI w]) (r := []) (nx := 50) (v := jI (jb (decide (jals (jgp (hp 3 1) (hp 3 2) (hp 4) p) w)))) (hp1 := hp) rfl (c_m_isOf hp (jgp (hp 3 1) (hp 3 2) (hp 4) p) w gr hw) ?_
              refine jE_ifd_ne rfl (fun m50 => ?_) (fun m50 => ?_)
              · have rw3 := rR.1 w (by omega) (by omega)
                refine jm_Ev.bl 8 (pc' := 65) (A' := [jR 56, jI p, jI w, jI (hp 19 w)]) (st' := [jI p, jI ((3 * w) + (hp 19 w)), jR 74]) (hp' := hp) rfl ?_
                refine jE_iast (n := 15) rfl rfl (by omega) ?_
                refine jm_Ev.bl 3 (pc' := 69) (A' := [jR 56, jI p, jI w, jI (hp 19 w)]) (st' := [jI ((hp 19 w) + 1)]) (hp' := (jm_hs hp 74 ((3 * w) + (hp 19 w)) p)) rfl ?_
                exact absurd (rR.1 w (by omega) (by omega)) (by omega)
              · refine jm_Ev.bl 1 (pc' := 54) (A' := [jR 56, jI p, jI w, jI (hp 19 w)]) (st' := [jI (-1)]) (hp' := hp) rfl ?_
                exact absurd (rR.1 w (by omega) (by omega)) (by omega)
            · refine jm_Ev.bl 1 (pc' := 39) (A' := [jR 56, jI p, jI w, jI (hp 19 w)]) (st' := [jI (-104)]) (hp' := hp) rfl ?_
              exact jE_ret rfl ⟨rfl, ⟨jRP_fr rP (jFq.rf (S := []) (F := [])) (by simp) (by simp), jRD_fr rD (jFq.rf (S := []) (F := [])) (by simp) (by simp), jRC_fr (show n ≤ n + 1 by omega) rC (jFq.rf (S := []) (F := [])) (by simp) (by simp), jRS_fr rS (jFq.rf (S := []) (F := [])) (by simp) (by simp), jRR_fr rR (jFq.rf (S := []) (F := [])) (by simp), jRK_fr rK (jFq.rf (S := []) (F := [])) (by simp) (by simp), jR5_fr r5 (jFq.rf (S := []) (F := [])) (by simp), jRL_fr rL (jFq.rf (S := []) (F := [])) (by intro q hq z; simp at z <;> omega), jMC_fr rM (jFq.rf (S := []) (F := [])) (by intro q hq z; simp at z <;> omega) (by simp), jRX_fr rX (jFq.rf (S := []) (F := [])) (by simp)⟩⟩
          · refine jm_Ev.bl 1 (pc' := 25) (A' := [jR 56, jI p, jI w, jU]) (st' := [jI (-102)]) (hp' := hp) rfl ?_
            exact absurd (show 0 ≤ w ∧ w ≤ 4 by omega) m20
        · refine jm_Ev.bl 1 (pc' := 10) (A' := [jR 56, jI p, jI w, jU]) (st' := [jI (-101)]) (hp' := hp) rfl ?_
          exact absurd (ghd.mp c9) m5
    · refine jm_Ev.bl 1 (pc' := 24) (A' := [jR 0, jI p, jI w]) (st' := [jI (-102)]) (hp' := hp) rfl ?_
      refine jE_ret rfl ⟨_, rfl, by omega, rX, ?_⟩
      show jm_Ev 196 0 [jR 56, jI p, jI w, jU] [] hp _
      refine jm_Ev.bl 2 (pc' := 2) (A' := [jR 56, jI p, jI w, jU]) (st' := [jI p, jR 56]) (hp' := hp) rfl ?_
      refine jE_callI (vs := [jR 56, jI p]) (r := []) (nx := 5) (v := jI (jb (decide ((0 ≤ p ∧ p < hp 3 1 * hp 3 2) ∧ hp 58 p ≠ -1)))) (hp1 := hp) rfl (e67 ▸ c_m_hasDot hp rM.1 p hp32) ?_
      refine jE_ifd_ne rfl (fun m5 => ?_) (fun m5 => ?_)
      · refine jm_Ev.bl 1 (pc' := 12) (A' := [jR 56, jI p, jI w, jU]) (st' := [jI w]) (hp' := hp) rfl ?_
        refine jE_i2l rfl (by omega) ?_
        refine jm_Ev.bl 2 (pc' := 17) (A' := [jR 56, jI p, jI w, jU]) (st' := [jL 4, jL 0, jL w]) (hp' := hp) rfl ?_
        refine jE_callI (vs := [jL w, jL 0, jL 4]) (r := []) (nx := 20) (v := jI (jb (decide (0 ≤ w ∧ w ≤ 4)))) (hp1 := hp) rfl (c_m_in hp w 0 4 (by omega) (by omega) (by omega)) ?_
        refine jE_ifd_ne rfl (fun m20 => ?_) (fun m20 => ?_)
        · refine jm_Ev.bl 2 (pc' := 28) (A' := [jR 56, jI p, jI w, jU]) (st' := [jI w, jR 56]) (hp' := hp) rfl ?_
          refine jE_callI (vs := [jR 56, jI w]) (r := []) (nx := 31) (v := jI (hp 19 w)) (hp1 := hp) rfl (c_m_rackedOf hp w (hp 19 w) (by omega) (rR.1 w (by omega) (by omega)) (fun b b0 b1 => by have z := rR.2 w b (by omega) (by omega) b0 b1; show jR32 (hp 74 (3 * w + b)) ∧ (hp 74 (3 * w + b) ≠ -1 ↔ b < hp 19 w); rw [z.1]; split; exact ⟨⟨by have := z.2 ‹_›; omega, by have := z.2 ‹_›; omega⟩, fun _ => ‹_›, fun _ => by have := z.2 ‹_›; omega⟩; exact ⟨⟨by omega, by omega⟩, fun y => absurd rfl y, fun y => absurd y ‹_›⟩)) ?_
          refine jm_Ev.bl 3 (pc' := 34) (A' := [jR 56, jI p, jI w, jI (hp 19 w)]) (st' := [jI 3, jI (hp 19 w)]) (hp' := hp) rfl ?_
          refine jE_icmp_ne rfl (by have := rR.1 w (by omega) (by omega); omega) (by have := rR.1 w (by omega) (by omega); omega) (fun m34 => ?_) (fun m34 => ?_)
          · refine jm_Ev.bl 3 (pc' := 45) (A' := [jR 56, jI p, jI w, jI (hp 19 w)]) (st' := [jI p, jR 58]) (hp' := hp) rfl ?_
            refine jE_iald (n := 25) (f := hp 58) rfl rfl (by omega) ?_
            refine jE_top (w := (jgp (hp 3 1) (hp 3 2) (hp 4) p)) (gin m5.1) ?_
            refine jm_Ev.bl 1 (pc' := 47) (A' := [jR 56, jI p, jI w, jI (hp 19 w)]) (st' := [jI w, jI (jgp (hp 3 1) (hp 3 2) (hp 4) p)]) (hp' := hp) rfl ?_
            refine jE_callI (vs := [jI (jgp (hp 3 1) (hp 3 2) (hp 4) p), jI w]) (r := []) (nx := 50) (v := jI (jb (decide (jals (jgp (hp 3 1) (hp 3 2) (hp 4) p) w)))) (hp1 := hp) rfl (c_m_isOf hp (jgp (hp 3 1) (hp 3 2) (hp 4) p) w gr hw) ?_
            refine jE_ifd_ne rfl (fun m50 => ?_) (fun m50 => ?_)
            · have rw3 := rR.1 w (by omega) (by omega)
              refine jm_Ev.bl 8 (pc' := 65) (A' := [jR 56, jI p, jI w, jI (hp 19 w)]) (st' := [jI p, jI ((3 * w) + (hp 19 w)), jR 74]) (hp' := hp) rfl ?_
              refine jE_iast (n := 15) rfl rfl (by omega) ?_
              refine jm_Ev.bl 3 (pc' := 69) (A' := [jR 56, jI p, jI w, jI (hp 19 w)]) (st' := [jI ((hp 19 w) + 1)]) (hp' := (jm_hs hp 74 ((3 * w) + (hp 19 w)) p)) rfl ?_
              exact absurd (show 0 ≤ w ∧ w < 5 by omega) c19
            · refine jm_Ev.bl 1 (pc' := 54) (A' := [jR 56, jI p, jI w, jI (hp 19 w)]) (st' := [jI (-1)]) (hp' := hp) rfl ?_
              exact absurd (show 0 ≤ w ∧ w < 5 by omega) c19
          · refine jm_Ev.bl 1 (pc' := 39) (A' := [jR 56, jI p, jI w, jI (hp 19 w)]) (st' := [jI (-104)]) (hp' := hp) rfl ?_
            exact absurd (show 0 ≤ w ∧ w < 5 by omega) c19
        · refine jm_Ev.bl 1 (pc' := 25) (A' := [jR 56, jI p, jI w, jU]) (st' := [jI (-102)]) (hp' := hp) rfl ?_
          exact jE_ret rfl ⟨rfl, ⟨jRP_fr rP (jFq.rf (S := []) (F := [])) (by simp) (by simp), jRD_fr rD (jFq.rf (S := []) (F := [])) (by simp) (by simp), jRC_fr (show n ≤ n + 1 by omega) rC (jFq.rf (S := []) (F := [])) (by simp) (by simp), jRS_fr rS (jFq.rf (S := []) (F := [])) (by simp) (by simp), jRR_fr rR (jFq.rf (S := []) (F := [])) (by simp), jRK_fr rK (jFq.rf (S := []) (F := [])) (by simp) (by simp), jR5_fr r5 (jFq.rf (S := []) (F := [])) (by simp), jRL_fr rL (jFq.rf (S := []) (F := [])) (by intro q hq z; simp at z <;> omega), jMC_fr rM (jFq.rf (S := []) (F := [])) (by intro q hq z; simp at z <;> omega) (by simp), jRX_fr rX (jFq.rf (S := []) (F := [])) (by simp)⟩⟩
      · refine jm_Ev.bl 1 (pc' := 10) (A' := [jR 56, jI p, jI w, jU]) (st' := [jI (-101)]) (hp' := hp) rfl ?_
        exact absurd (ghd.mp c9) m5
  · refine jm_Ev.bl 1 (pc' := 14) (A' := [jR 0, jI p, jI w]) (st' := [jI (-101)]) (hp' := hp) rfl ?_
    refine jE_ret rfl ⟨_, rfl, by omega, rX, ?_⟩
    show jm_Ev 196 0 [jR 56, jI p, jI w, jU] [] hp _
    refine jm_Ev.bl 2 (pc' := 2) (A' := [jR 56, jI p, jI w, jU]) (st' := [jI p, jR 56]) (hp' := hp) rfl ?_
    refine jE_callI (vs := [jR 56, jI p]) (r := []) (nx := 5) (v := jI (jb (decide ((0 ≤ p ∧ p < hp 3 1 * hp 3 2) ∧ hp 58 p ≠ -1)))) (hp1 := hp) rfl (e67 ▸ c_m_hasDot hp rM.1 p hp32) ?_
    refine jE_ifd_ne rfl (fun m5 => ?_) (fun m5 => ?_)
    · refine jm_Ev.bl 1 (pc' := 12) (A' := [jR 56, jI p, jI w, jU]) (st' := [jI w]) (hp' := hp) rfl ?_
      refine jE_i2l rfl (by omega) ?_
      refine jm_Ev.bl 2 (pc' := 17) (A' := [jR 56, jI p, jI w, jU]) (st' := [jL 4, jL 0, jL w]) (hp' := hp) rfl ?_
      refine jE_callI (vs := [jL w, jL 0, jL 4]) (r := []) (nx := 20) (v := jI (jb (decide (0 ≤ w ∧ w ≤ 4)))) (hp1 := hp) rfl (c_m_in hp w 0 4 (by omega) (by omega) (by omega)) ?_
      refine jE_ifd_ne rfl (fun m20 => ?_) (fun m20 => ?_)
      · refine jm_Ev.bl 2 (pc' := 28) (A' := [jR 56, jI p, jI w, jU]) (st' := [jI w, jR 56]) (hp' := hp) rfl ?_
        refine jE_callI (vs := [jR 56, jI w]) (r := []) (nx := 31) (v := jI (hp 19 w)) (hp1 := hp) rfl (c_m_rackedOf hp w (hp 19 w) (by omega) (rR.1 w (by omega) (by omega)) (fun b b0 b1 => by have z := rR.2 w b (by omega) (by omega) b0 b1; show jR32 (hp 74 (3 * w + b)) ∧ (hp 74 (3 * w + b) ≠ -1 ↔ b < hp 19 w); rw [z.1]; split; exact ⟨⟨by have := z.2 ‹_›; omega, by have := z.2 ‹_›; omega⟩, fun _ => ‹_›, fun _ => by have := z.2 ‹_›; omega⟩; exact ⟨⟨by omega, by omega⟩, fun y => absurd rfl y, fun y => absurd y ‹_›⟩)) ?_
        refine jm_Ev.bl 3 (pc' := 34) (A' := [jR 56, jI p, jI w, jI (hp 19 w)]) (st' := [jI 3, jI (hp 19 w)]) (hp' := hp) rfl ?_
        refine jE_icmp_ne rfl (by have := rR.1 w (by omega) (by omega); omega) (by have := rR.1 w (by omega) (by omega); omega) (fun m34 => ?_) (fun m34 => ?_)
        · refine jm_Ev.bl 3 (pc' := 45) (A' := [jR 56, jI p, jI w, jI (hp 19 w)]) (st' := [jI p, jR 58]) (hp' := hp) rfl ?_
          refine jE_iald (n := 25) (f := hp 58) rfl rfl (by omega) ?_
          refine jE_top (w := (jgp (hp 3 1) (hp 3 2) (hp 4) p)) (gin m5.1) ?_
          refine jm_Ev.bl 1 (pc' := 47) (A' := [jR 56, jI p, jI w, jI (hp 19 w)]) (st' := [jI w, jI (jgp (hp 3 1) (hp 3 2) (hp 4) p)]) (hp' := hp) rfl ?_
          refine jE_callI (vs := [jI (jgp (hp 3 1) (hp 3 2) (hp 4) p), jI w]) (r := []) (nx := 50) (v := jI (jb (decide (jals (jgp (hp 3 1) (hp 3 2) (hp 4) p) w)))) (hp1 := hp) rfl (c_m_isOf hp (jgp (hp 3 1) (hp 3 2) (hp 4) p) w gr hw) ?_
          refine jE_ifd_ne rfl (fun m50 => ?_) (fun m50 => ?_)
          · have rw3 := rR.1 w (by omega) (by omega)
            refine jm_Ev.bl 8 (pc' := 65) (A' := [jR 56, jI p, jI w, jI (hp 19 w)]) (st' := [jI p, jI ((3 * w) + (hp 19 w)), jR 74]) (hp' := hp) rfl ?_
            refine jE_iast (n := 15) rfl rfl (by omega) ?_
            refine jm_Ev.bl 3 (pc' := 69) (A' := [jR 56, jI p, jI w, jI (hp 19 w)]) (st' := [jI ((hp 19 w) + 1)]) (hp' := (jm_hs hp 74 ((3 * w) + (hp 19 w)) p)) rfl ?_
            exact absurd (ghd.mpr m5) (fun z => z c9)
          · refine jm_Ev.bl 1 (pc' := 54) (A' := [jR 56, jI p, jI w, jI (hp 19 w)]) (st' := [jI (-1)]) (hp' := hp) rfl ?_
            exact absurd (ghd.mpr m5) (fun z => z c9)
        · refine jm_Ev.bl 1 (pc' := 39) (A' := [jR 56, jI p, jI w, jI (hp 19 w)]) (st' := [jI (-104)]) (hp' := hp) rfl ?_
          exact absurd (ghd.mpr m5) (fun z => z c9)
      · refine jm_Ev.bl 1 (pc' := 25) (A' := [jR 56, jI p, jI w, jU]) (st' := [jI (-102)]) (hp' := hp) rfl ?_
        exact absurd (ghd.mpr m5) (fun z => z c9)
    · refine jm_Ev.bl 1 (pc' := 10) (A' := [jR 56, jI p, jI w, jU]) (st' := [jI (-101)]) (hp' := hp) rfl ?_
      exact jE_ret rfl ⟨rfl, ⟨jRP_fr rP (jFq.rf (S := []) (F := [])) (by simp) (by simp), jRD_fr rD (jFq.rf (S := []) (F := [])) (by simp) (by simp), jRC_fr (show n ≤ n + 1 by omega) rC (jFq.rf (S := []) (F := [])) (by simp) (by simp), jRS_fr rS (jFq.rf (S := []) (F := [])) (by simp) (by simp), jRR_fr rR (jFq.rf (S := []) (F := [])) (by simp), jRK_fr rK (jFq.rf (S := []) (F := [])) (by simp) (by simp), jR5_fr r5 (jFq.rf (S := []) (F := [])) (by simp), jRL_fr rL (jFq.rf (S := []) (F := [])) (by intro q hq z; simp at z <;> omega), jMC_fr rM (jFq.rf (S := []) (F := [])) (by intro q hq z; simp at z <;> omega) (by simp), jRX_fr rX (jFq.rf (S := []) (F := [])) (by simp)⟩⟩
theorem k_forget (xs ls : Int → Int) (n : Int) (hp : jm_H) (hR : jREL xs ls n hp) (hn : n ≤ 1000000) : jm_Ev 112 0 [jR 0, jU] [] hp (jSam 200 [jR 56] xs ls n) := by
  obtain ⟨rP, rD, rC, rS, rR, rK, r5, rL, rM, rX⟩ := id hR
  refine jm_Ev.bl 9 (pc' := 17) (A' := [jR 0, jI (hp 9 3)]) (st' := [jI (hp 9 3)]) (hp' := (jm_hs hp 9 3 0)) rfl ?_
  have s1 := rS.1.1
  have s2 := rS.1.2.1
  refine jE_ret rfl ⟨_, rfl, ⟨by omega, by omega⟩, rX, ?_⟩
  show jm_Ev 200 0 [jR 56, jU] [] (jm_hs hp 9 3 0) _
  refine jm_Ev.bl 2 (pc' := 4) (A' := [jR 56, jU]) (st' := [jI ((jm_hs hp 9 3 0) 56 30)]) (hp' := (jm_hs hp 9 3 0)) rfl ?_
  rw [show (jm_hs hp 9 3 0) 56 30 = hp 9 3 from rS.2.1]
  refine jm_Ev.bl 5 (pc' := 11) (A' := [jR 56, jI (hp 9 3)]) (st' := [jI (hp 9 3)]) (hp' := (jm_hs (jm_hs hp 9 3 0) 56 30 0)) rfl ?_
  have hz : jFq hp (jm_hs (jm_hs hp 9 3 0) 56 30 0) [9] [30] := ((((jFr.rf (hp := hp)).set (k := 9) (j := 3) (v := 0) (S := [9]) (by simp)).q.wk (V := [9]) (E := [30]) (by simp) (by simp)).sf (by simp))
  exact jE_ret rfl ⟨rfl, ⟨jRP_fr rP hz (by simp) (by simp), jRD_fr rD hz (by simp) (by simp), jRC_fr (show n ≤ n + 1 by omega) rC hz (by simp) (by simp), ⟨⟨by show (0 : Int) ≤ 0; omega, by show (0 : Int) ≤ 6; omega, rS.1.2.2⟩, rfl, fun j a b => absurd (show j < 0 from b) (by omega)⟩, jRR_fr rR hz (by simp), jRK_fr rK hz (by simp) (by simp), jR5_fr r5 hz (by simp), jRL_fr rL hz (by intro q hq z; simp at z <;> omega), jMC_fr rM hz (by intro q hq z; simp at z <;> omega) (by simp), jRX_fr rX hz (by simp)⟩⟩
