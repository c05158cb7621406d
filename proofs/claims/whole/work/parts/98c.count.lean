/-! call by call: count -/
/-- as hp, but for caches and the hash -/
def jDg (hp h : jm_H) : Prop := jFq hp h [31, 32, 33, 34, 35, 36, 37, 38, 39, 40, 41, 42, 59, 60, 61, 62, 63, 64, 65, 66, 67, 68, 69, 70, 71, 72] [10, 11, 26, 39] ∧ jCl h (jK0 hp) (jO0 hp) ∧ jMC h
def jct (hp : jm_H) (w : Int) : Int := if w = 0 then jcnt (hp 4) (hp 3 1 * hp 3 2).toNat else if w = 1 then hp 3 1 else if w = 2 then hp 3 2 else if w = 3 then ((jO0 hp).length : Int) else if w = 4 then jho (jO0 hp) (jO0 hp).length else if w = 5 then jalc (jK0 hp) (jO0 hp) (jO0 hp).length else if w = 6 then hp 19 0 + hp 19 1 + hp 19 2 + hp 19 3 + hp 19 4 else if w = 7 then hp 9 3 else if w = 8 then hp 1 1 else if w = 9 then hp 0 13 else hp 0 14
theorem jREL_d {xs ls : Int → Int} {n : Int} {hp h : jm_H} (hR : jREL xs ls n hp) (hd : jDg hp h) : jREL xs ls (n + 1) h := by
  obtain ⟨rP, rD, rC, rS, rR, rK, r5, rL, rM, rX⟩ := id hR
  obtain ⟨hz, hC, hM⟩ := hd
  have hL : jRL h := jRL_c hC hz (by simp) (by simp)
  exact ⟨jRP_fr rP hz (by simp) (by simp), jRD_fr rD hz (by simp) (by simp), jRC_fr (show n ≤ n + 1 by omega) rC hz (by simp) (by simp), jRS_fr rS hz (by simp) (by simp), jRR_fr rR hz (by simp), jRK_fr rK hz (by simp) (by simp), jR5_fr r5 hz (by simp), hL, hM, jRX_fr rX hz (by simp)⟩
theorem jDg_0 {xs ls : Int → Int} {n : Int} {hp : jm_H} (hR : jREL xs ls n hp) : jDg hp hp := ⟨jFq.rf, hR.2.2.2.2.2.2.2.1, hR.2.2.2.2.2.2.2.2.1⟩
/-- the class's caches -/
theorem jDg_c {hp h h1 : jm_H} (hd : jDg hp h) (hC : jCl h1 (jK0 hp) (jO0 hp)) (hf : jFr h h1 [31, 32, 33, 34, 35, 36, 37, 38, 39, 40, 41, 42]) : jDg hp h1 := ⟨hd.1.tr hf.q (by simp) (by simp) (by simp) (by simp), hC, jMC_fr hd.2.2 hf.q (by intro q hq z; simp at z <;> omega) (by simp)⟩
/-- the model's caches -/
theorem jDg_m {hp h h1 : jm_H} (hd : jDg hp h) (hM : jMC h1) (hf : jFq h h1 [59, 60, 61, 62, 63, 64, 65, 66, 67, 68, 69, 70, 71, 72] [10, 11, 26]) : jDg hp h1 := ⟨hd.1.tr hf (by simp) (by simp) (by simp) (by simp), jCl_m hd.2.1 hf (by intro q hq z; simp at z <;> omega), hM⟩
/-- the hash -/
theorem jDg_h {hp h : jm_H} (hd : jDg hp h) (v : Int) : jDg hp (jm_hs h 56 39 v) := by
  have hf : jFq h (jm_hs h 56 39 v) [] [39] := jFq.rf.sf (by simp)
  exact ⟨hd.1.sf (by simp), jCl_m hd.2.1 hf (by intro q hq z; simp at z <;> omega), jMC_fr hd.2.2 hf (by intro q hq z; simp at z <;> omega) (by simp)⟩
theorem jKd {hp h : jm_H} (D : jRD hp) (hd : jDg hp h) : jmK h = jK0 hp ∧ jmO h = jO0 hp := by
  have a := jmK_fr hd.1 (by simp) (by simp) (by simp) (by simp)
  have b := jKm D
  exact ⟨a.1.trans b.1, a.2.trans b.2⟩
theorem jho_r (O : List (List jT)) (n : Nat) : 0 ≤ jho O n ∧ jho O n ≤ n := by
  induction n with
  | zero => unfold jho; omega
  | succ n ih => unfold jho; split <;> omega
theorem jct_r {xs ls : Int → Int} {n : Int} {hp : jm_H} (hR : jREL xs ls n hp) (hn : n ≤ 1000000) (w : Int) : jR32 (jct hp w) := by
  obtain ⟨rP, rD, rC, rS, rR, rK, r5, rL, rM, rX⟩ := id hR
  have wh := jwh rD.1
  have a := jcnt_r (hp 4) (hp 3 1 * hp 3 2).toNat
  have b := jInv_15 rL.1 rL.2.1
  have c := jho_r (jO0 hp) (jO0 hp).length
  have d := jalc_60 rL.1 rL.2.1
  have e0 := rR.1 0 (by omega) (by omega)
  have e1 := rR.1 1 (by omega) (by omega)
  have e2 := rR.1 2 (by omega) (by omega)
  have e3 := rR.1 3 (by omega) (by omega)
  have e4 := rR.1 4 (by omega) (by omega)
  have f1 := rS.1.1
  have f2 := rS.1.2.1
  have g1 := rP.1.1
  have g2 := rP.1.2.1
  have i1 := rC.1
  have i2 := rC.2.2.2.1
  have j1 := rD.1.1
  have j2 := rD.1.2.1
  have j3 := rD.1.2.2.1
  have j4 := rD.1.2.2.2.1
  unfold jct
  repeat' split
  all_goals exact ⟨by omega, by omega⟩
def jcd (hp : jm_H) (v : Int) : Option jm_V → jm_H → Prop := fun rv h => rv = some (jI v) ∧ jDg hp h
theorem c_x_countD (xs ls : Int → Int) (n : Int) (hp : jm_H) (hR : jREL xs ls n hp) (hn : n ≤ 1000000) (h : jm_H) (hd : jDg hp h) (w : Int) (hw : 0 ≤ w ∧ w ≤ 10) : jm_Ev 121 0 [jR 0, jI w] [] h (jcd hp (jct hp w)) := by
  obtain ⟨rP, rD, rC, rS, rR, rK, r5, rL, rM, rX⟩ := id hR
  have hz := hd.1
  have e0 : h 0 = hp 0 := hz.pl 0 (by simp) (by simp)
  have e1 : h 1 = hp 1 := hz.pl 1 (by simp) (by simp)
  have e3 : h 3 = hp 3 := hz.pl 3 (by simp) (by simp)
  have e4 : h 4 = hp 4 := hz.pl 4 (by simp) (by simp)
  have e9 : h 9 = hp 9 := hz.pl 9 (by simp) (by simp)
  have e19 : h 19 = hp 19 := hz.pl 19 (by simp) (by simp)
  have e74 : h 74 = hp 74 := hz.pl 74 (by simp) (by simp)
  have e58 : h 58 = hp 58 := hz.pl 58 (by simp) (by simp)
  have eCd : jcnt (h 4) (h 3 1 * h 3 2).toNat = jcnt (hp 4) (hp 3 1 * hp 3 2).toNat := by rw [e3, e4]
  refine jm_Ev.bl 1 (pc' := 1) (A' := [jR 0, jI w]) (st' := [jI w]) (hp' := h) rfl ?_
  rcases (show w = 0 ∨ w = 1 ∨ w = 2 ∨ w = 3 ∨ w = 4 ∨ w = 5 ∨ w = 6 ∨ w = 7 ∨ w = 8 ∨ w = 9 ∨ (w < 0 ∨ 9 < w) by omega) with c1 | c1 | c1 | c1 | c1 | c1 | c1 | c1 | c1 | c1 | c1
  · subst c1
    refine jm_Ev.bl 3 (pc' := 60) (A' := [jR 0, jI 0]) (st' := [jR 3]) (hp' := h) rfl ?_
    refine jE_callI (vs := [jR 3]) (r := []) (nx := 63) (v := jI (jcnt (hp 4) (hp 3 1 * hp 3 2).toNat)) (hp1 := h) rfl (eCd ▸ c_g_dots_3 h (by unfold jG; rw [e3, e4]; exact rD.1)) ?_
    exact jE_ret rfl ⟨rfl, hd⟩
  · subst c1
    refine jm_Ev.bl 4 (pc' := 71) (A' := [jR 0, jI 1]) (st' := [jI (h 3 1)]) (hp' := h) rfl ?_
    exact jE_ret rfl ⟨jrI (by rw [e3]; rfl), hd⟩
  · subst c1
    refine jm_Ev.bl 4 (pc' := 79) (A' := [jR 0, jI 2]) (st' := [jI (h 3 2)]) (hp' := h) rfl ?_
    exact jE_ret rfl ⟨jrI (by rw [e3]; rfl), hd⟩
  · subst c1
    refine jm_Ev.bl 4 (pc' := 87) (A' := [jR 0, jI 3]) (st' := [jI (h 20 0)]) (hp' := h) rfl ?_
    exact jE_ret rfl ⟨jrI hd.2.1.2.2.1.1, hd⟩
  · subst c1
    refine jm_Ev.bl 3 (pc' := 92) (A' := [jR 0, jI 4]) (st' := [jR 20]) (hp' := h) rfl ?_
    refine jE_callI (vs := [jR 20]) (r := []) (nx := 95) (v := jI (jho (jO0 hp) (jO0 hp).length)) (hp1 := h) rfl (c_o_holes h (jK0 hp) (jO0 hp) hd.2.1) ?_
    exact jE_ret rfl ⟨rfl, hd⟩
  · subst c1
    refine jm_Ev.bl 2 (pc' := 97) (A' := [jR 0, jI 5]) (st' := [jR 0]) (hp' := h) rfl ?_
    refine jE_call (vs := [jR 0]) (r := []) (nx := 100) rfl (c_x_allCorners h (jK0 hp) (jO0 hp) hd.2.1) (fun rv97 h1 hh => ?_)
    obtain ⟨rfl, hC1, hf1⟩ := hh
    exact jE_ret rfl ⟨rfl, jDg_c hd hC1 hf1⟩
  · subst c1
    refine jm_Ev.bl 3 (pc' := 105) (A' := [jR 0, jI 6]) (st' := [jR 17]) (hp' := h) rfl ?_
    refine jE_callI (vs := [jR 17]) (r := []) (nx := 108) (v := jI (hp 19 0 + hp 19 1 + hp 19 2 + hp 19 3 + hp 19 4)) (hp1 := h) rfl (e19 ▸ c_r_total h) ?_
    exact jE_ret rfl ⟨rfl, hd⟩
  · subst c1
    refine jm_Ev.bl 4 (pc' := 116) (A' := [jR 0, jI 7]) (st' := [jI (h 9 3)]) (hp' := h) rfl ?_
    exact jE_ret rfl ⟨jrI (by rw [e9]; rfl), hd⟩
  · subst c1
    refine jm_Ev.bl 4 (pc' := 124) (A' := [jR 0, jI 8]) (st' := [jI (h 1 1)]) (hp' := h) rfl ?_
    exact jE_ret rfl ⟨jrI (by rw [e1]; rfl), hd⟩
  · subst c1
    refine jm_Ev.bl 3 (pc' := 129) (A' := [jR 0, jI 9]) (st' := [jI (h 0 13)]) (hp' := h) rfl ?_
    exact jE_ret rfl ⟨jrI (by rw [e0]; rfl), hd⟩
  · refine jE_tswd rfl (by omega) c1 ?_
    refine jm_Ev.bl 2 (pc' := 134) (A' := [jR 0, jI w]) (st' := [jI (h 0 14)]) (hp' := h) rfl ?_
    exact jE_ret rfl ⟨jrI (by rw [show w = 10 by omega, e0]; rfl), hd⟩
def jcm (hp h0 : jm_H) (v : Int) : Option jm_V → jm_H → Prop := fun rv h => rv = some (jI v) ∧ jDg hp h ∧ h 56 39 = h0 56 39
theorem c_m_countO (xs ls : Int → Int) (n : Int) (hp : jm_H) (hR : jREL xs ls n hp) (hn : n ≤ 1000000) (h : jm_H) (hd : jDg hp h) (w : Int) (hw : 3 ≤ w ∧ w ≤ 5) : jm_Ev 211 0 [jR 56, jI w] [] h (jcm hp h (jct hp w)) := by
  obtain ⟨rP, rD, rC, rS, rR, rK, r5, rL, rM, rX⟩ := id hR
  have hz := hd.1
  have e0 : h 0 = hp 0 := hz.pl 0 (by simp) (by simp)
  have e1 : h 1 = hp 1 := hz.pl 1 (by simp) (by simp)
  have e3 : h 3 = hp 3 := hz.pl 3 (by simp) (by simp)
  have e4 : h 4 = hp 4 := hz.pl 4 (by simp) (by simp)
  have e9 : h 9 = hp 9 := hz.pl 9 (by simp) (by simp)
  have e19 : h 19 = hp 19 := hz.pl 19 (by simp) (by simp)
  have e74 : h 74 = hp 74 := hz.pl 74 (by simp) (by simp)
  have e58 : h 58 = hp 58 := hz.pl 58 (by simp) (by simp)
  have f6 : h 56 6 = hp 3 1 := (hz.fd 6 (by simp) (by simp)).trans rD.2.1
  have f7 : h 56 7 = hp 3 2 := (hz.fd 7 (by simp) (by simp)).trans rD.2.2.1
  have kk := jKd rD hd
  have b15 := jInv_15 rL.1 rL.2.1
  refine jm_Ev.bl 1 (pc' := 1) (A' := [jR 56, jI w]) (st' := [jR 56]) (hp' := h) rfl ?_
  refine jE_callI (vs := [jR 56]) (r := []) (nx := 4) (v := jI (jb (decide (h 56 6 = 0)))) (hp1 := h) rfl (c_m_lacks h hd.2.2.1) ?_
  refine jE_ifd_eq rfl (fun c4 => ?_) (fun c4 => ?_)
  · refine jm_Ev.bl 1 (pc' := 10) (A' := [jR 56, jI w]) (st' := [jR 56]) (hp' := h) rfl ?_
    refine jE_call (vs := [jR 56]) (r := []) (nx := 13) rfl (c_m_freshen h hd.2.2.1 hd.2.2.2.1 hd.2.2.2.2) (fun rv10 h1 hh => ?_)
    obtain ⟨rfl, f10, hL, hf1⟩ := hh
    have hM1 := jMC_fre hd.2.2.1 f10 hL hf1
    have hd1 := jDg_m hd hM1 hf1
    have f39 := hf1.fd 39 (by simp) (by simp)
    rw [kk.1, kk.2] at hL
    refine jm_Ev.bl 2 (pc' := 15) (A' := [jR 56, jI w]) (st' := [jI 3, jI w]) (hp' := h1) rfl ?_
    refine jE_icmp_ne rfl (by omega) (by omega) (fun c15 => ?_) (fun c15 => ?_)
    · refine jm_Ev.bl 2 (pc' := 27) (A' := [jR 56, jI w]) (st' := [jI 4, jI w]) (hp' := h1) rfl ?_
      refine jE_icmp_ne rfl (by omega) (by omega) (fun c27 => ?_) (fun c27 => ?_)
      · refine jm_Ev.bl 1 (pc' := 38) (A' := [jR 56, jI w]) (st' := [jR 56]) (hp' := h1) rfl ?_
        refine jE_callI (vs := [jR 56]) (r := []) (nx := 41) (v := jI (jalc (jK0 hp) (jO0 hp) (jO0 hp).length)) (hp1 := h1) rfl (c_m_cornersAll h1 (jK0 hp) (jO0 hp) hL b15) ?_
        exact jE_ret rfl ⟨jrI (by rw [show w = 5 by omega]; rfl), hd1, f39⟩
      · refine jm_Ev.bl 1 (pc' := 31) (A' := [jR 56, jI w]) (st' := [jR 56]) (hp' := h1) rfl ?_
        refine jE_callI (vs := [jR 56]) (r := []) (nx := 34) (v := jI (jho (jO0 hp) (jO0 hp).length)) (hp1 := h1) rfl (c_m_holes h1 (jK0 hp) (jO0 hp) rL.1 rL.2.1 hL) ?_
        refine jm_Ev.bl 1 (pc' := 41) (A' := [jR 56, jI w]) (st' := [jI (jho (jO0 hp) (jO0 hp).length)]) (hp' := h1) rfl ?_
        exact jE_ret rfl ⟨jrI (by rw [c27]; rfl), hd1, f39⟩
    · refine jm_Ev.bl 3 (pc' := 41) (A' := [jR 56, jI w]) (st' := [jI (h1 56 11)]) (hp' := h1) rfl ?_
      exact jE_ret rfl ⟨jrI (by rw [c15]; exact hL.2.1.1), hd1, f39⟩
  · refine jm_Ev.bl 1 (pc' := 8) (A' := [jR 56, jI w]) (st' := [jI 0]) (hp' := h) rfl ?_
    have on : jO0 hp = [] := by rw [← kk.2]; exact jmO_nil hd.2.2.1 c4
    exact jE_ret rfl ⟨jrI (by unfold jct; rw [if_neg (by omega), if_neg (by omega), if_neg (by omega)]; rw [on]; rcases (show w = 3 ∨ w = 4 ∨ w = 5 by omega) with z | z | z; rw [if_pos z]; rfl; rw [if_neg (by omega), if_pos z]; rfl; rw [if_neg (by omega), if_neg (by omega), if_pos z]; rfl), hd, rfl⟩
theorem c_m_countD (xs ls : Int → Int) (n : Int) (hp : jm_H) (hR : jREL xs ls n hp) (hn : n ≤ 1000000) (h : jm_H) (hd : jDg hp h) (w : Int) (hw : jR32 w) : jm_Ev 212 0 [jR 56, jI w] [] h (jcm hp h (if 0 ≤ w ∧ w ≤ 10 then jct hp w else -102)) := by
  obtain ⟨rP, rD, rC, rS, rR, rK, r5, rL, rM, rX⟩ := id hR
  have hz := hd.1
  have e0 : h 0 = hp 0 := hz.pl 0 (by simp) (by simp)
  have e1 : h 1 = hp 1 := hz.pl 1 (by simp) (by simp)
  have e3 : h 3 = hp 3 := hz.pl 3 (by simp) (by simp)
  have e4 : h 4 = hp 4 := hz.pl 4 (by simp) (by simp)
  have e9 : h 9 = hp 9 := hz.pl 9 (by simp) (by simp)
  have e19 : h 19 = hp 19 := hz.pl 19 (by simp) (by simp)
  have e74 : h 74 = hp 74 := hz.pl 74 (by simp) (by simp)
  have e58 : h 58 = hp 58 := hz.pl 58 (by simp) (by simp)
  have f6 : h 56 6 = hp 3 1 := (hz.fd 6 (by simp) (by simp)).trans rD.2.1
  have f7 : h 56 7 = hp 3 2 := (hz.fd 7 (by simp) (by simp)).trans rD.2.2.1
  have kk := jKd rD hd
  have b15 := jInv_15 rL.1 rL.2.1
  have eCm : jcnt (h 58) (h 56 6 * h 56 7).toNat = jcnt (hp 4) (hp 3 1 * hp 3 2).toNat := by rw [f6, f7, e58]; exact jcnt_cg _ (fun j a b => rD.2.2.2.1 j a (by have := jwh rD.1; omega))
  refine jm_Ev.bl 1 (pc' := 1) (A' := [jR 56, jI w]) (st' := [jI w]) (hp' := h) rfl ?_
  rcases (show w = 0 ∨ w = 1 ∨ w = 2 ∨ w = 3 ∨ w = 4 ∨ w = 5 ∨ w = 6 ∨ w = 7 ∨ w = 8 ∨ w = 9 ∨ w = 10 ∨ (w < 0 ∨ 10 < w) by omega) with c1 | c1 | c1 | c1 | c1 | c1 | c1 | c1 | c1 | c1 | c1 | c1
  · subst c1
    refine jm_Ev.bl 2 (pc' := 61) (A' := [jR 56, jI 0]) (st' := [jR 56]) (hp' := h) rfl ?_
    refine jE_callI (vs := [jR 56]) (r := []) (nx := 64) (v := jI (jcnt (hp 4) (hp 3 1 * hp 3 2).toNat)) (hp1 := h) rfl (eCm ▸ c_m_dotMany h hd.2.2.1) ?_
    exact jE_ret rfl ⟨rfl, hd, rfl⟩
  · subst c1
    refine jm_Ev.bl 3 (pc' := 69) (A' := [jR 56, jI 1]) (st' := [jI (h 56 6)]) (hp' := h) rfl ?_
    exact jE_ret rfl ⟨jrI (f6), hd, rfl⟩
  · subst c1
    refine jm_Ev.bl 3 (pc' := 74) (A' := [jR 56, jI 2]) (st' := [jI (h 56 7)]) (hp' := h) rfl ?_
    exact jE_ret rfl ⟨jrI (f7), hd, rfl⟩
  · subst c1
    refine jm_Ev.bl 3 (pc' := 77) (A' := [jR 56, jI 3]) (st' := [jI 3, jR 56]) (hp' := h) rfl ?_
    refine jE_call (vs := [jR 56, jI 3]) (r := []) (nx := 80) rfl (c_m_countO xs ls n hp hR hn h hd 3 (by omega)) (fun rv77 h1 hh => ?_)
    obtain ⟨rfl, hd1, f39⟩ := hh
    exact jE_ret rfl ⟨rfl, hd1, f39⟩
  · subst c1
    refine jm_Ev.bl 3 (pc' := 77) (A' := [jR 56, jI 4]) (st' := [jI 4, jR 56]) (hp' := h) rfl ?_
    refine jE_call (vs := [jR 56, jI 4]) (r := []) (nx := 80) rfl (c_m_countO xs ls n hp hR hn h hd 4 (by omega)) (fun rv77 h1 hh => ?_)
    obtain ⟨rfl, hd1, f39⟩ := hh
    exact jE_ret rfl ⟨rfl, hd1, f39⟩
  · subst c1
    refine jm_Ev.bl 3 (pc' := 77) (A' := [jR 56, jI 5]) (st' := [jI 5, jR 56]) (hp' := h) rfl ?_
    refine jE_call (vs := [jR 56, jI 5]) (r := []) (nx := 80) rfl (c_m_countO xs ls n hp hR hn h hd 5 (by omega)) (fun rv77 h1 hh => ?_)
    obtain ⟨rfl, hd1, f39⟩ := hh
    exact jE_ret rfl ⟨rfl, hd1, f39⟩
  · subst c1
    refine jm_Ev.bl 2 (pc' := 82) (A' := [jR 56, jI 6]) (st' := [jR 56]) (hp' := h) rfl ?_
    refine jE_callI (vs := [jR 56]) (r := []) (nx := 85) (v := jI (hp 19 0 + hp 19 1 + hp 19 2 + hp 19 3 + hp 19 4)) (hp1 := h) rfl (c_m_rackedAll h (hp 19) (fun a a0 a1 => rR.1 a a0 a1) (fun a a0 a1 b b0 b1 => by have z := rR.2 a b a0 a1 b0 b1; rw [e74, z.1]; split; exact ⟨⟨by have := z.2 ‹_›; omega, by have := z.2 ‹_›; omega⟩, fun _ => ‹_›, fun _ => by have := z.2 ‹_›; omega⟩; exact ⟨⟨by omega, by omega⟩, fun y => absurd rfl y, fun y => absurd y ‹_›⟩)) ?_
    exact jE_ret rfl ⟨rfl, hd, rfl⟩
  · subst c1
    refine jm_Ev.bl 3 (pc' := 90) (A' := [jR 56, jI 7]) (st' := [jI (h 56 30)]) (hp' := h) rfl ?_
    exact jE_ret rfl ⟨jrI ((hz.fd 30 (by simp) (by simp)).trans rS.2.1), hd, rfl⟩
  · subst c1
    refine jm_Ev.bl 3 (pc' := 95) (A' := [jR 56, jI 8]) (st' := [jI (h 56 1)]) (hp' := h) rfl ?_
    exact jE_ret rfl ⟨jrI ((hz.fd 1 (by simp) (by simp)).trans rP.2.1), hd, rfl⟩
  · subst c1
    refine jm_Ev.bl 3 (pc' := 100) (A' := [jR 56, jI 9]) (st' := [jI (h 56 8)]) (hp' := h) rfl ?_
    exact jE_ret rfl ⟨jrI ((hz.fd 8 (by simp) (by simp)).trans rC.2.1), hd, rfl⟩
  · subst c1
    refine jm_Ev.bl 3 (pc' := 105) (A' := [jR 56, jI 10]) (st' := [jI (h 56 29)]) (hp' := h) rfl ?_
    exact jE_ret rfl ⟨jrI ((hz.fd 29 (by simp) (by simp)).trans rC.2.2.2.2), hd, rfl⟩
  · refine jE_tswd rfl (by omega) c1 ?_
    refine jm_Ev.bl 1 (pc' := 108) (A' := [jR 56, jI w]) (st' := [jI (-102)]) (hp' := h) rfl ?_
    exact jE_ret rfl ⟨jrI (by rw [if_neg (fun z => by omega)]), hd, rfl⟩
theorem k_count (xs ls : Int → Int) (n : Int) (hp : jm_H) (hR : jREL xs ls n hp) (hn : n ≤ 1000000) (w : Int) (hw : jR32 w) : jm_Ev 116 0 [jR 0, jI w] [] hp (jSam 213 [jR 56, jI w] xs ls n) := by
  refine jm_Ev.bl 1 (pc' := 1) (A' := [jR 0, jI w]) (st' := [jI w]) (hp' := hp) rfl ?_
  refine jE_if_lt rfl (by omega) (fun c1 => ?_) (fun c1 => ?_)
  · refine jm_Ev.bl 1 (pc' := 12) (A' := [jR 0, jI w]) (st' := [jI (-102)]) (hp' := hp) rfl ?_
    refine jE_ret rfl ⟨_, rfl, by omega, hR.2.2.2.2.2.2.2.2.2, ?_⟩
    show jm_Ev 213 0 [jR 56, jI w] [] hp _
    refine jm_Ev.bl 2 (pc' := 2) (A' := [jR 56, jI w]) (st' := [jI w, jR 56]) (hp' := hp) rfl ?_
    refine jE_call (vs := [jR 56, jI w]) (r := []) (nx := 5) rfl (c_m_countD xs ls n hp hR hn hp (jDg_0 hR) w hw) (fun rv2 h2 hh2 => ?_)
    obtain ⟨rfl, hd2, _⟩ := hh2
    exact jE_ret rfl ⟨jrI (if_neg (fun z => by omega)), jREL_d hR hd2⟩
  · refine jm_Ev.bl 2 (pc' := 7) (A' := [jR 0, jI w]) (st' := [jI 11, jI w]) (hp' := hp) rfl ?_
    refine jE_icmp_lt rfl (by omega) (by omega) (fun c7 => ?_) (fun c7 => ?_)
    · refine jm_Ev.bl 2 (pc' := 15) (A' := [jR 0, jI w]) (st' := [jI w, jR 0]) (hp' := hp) rfl ?_
      refine jE_call (vs := [jR 0, jI w]) (r := []) (nx := 18) rfl (c_x_countD xs ls n hp hR hn hp (jDg_0 hR) w (by omega)) (fun rv15 h1 hh => ?_)
      obtain ⟨rfl, hd1⟩ := hh
      refine jE_ret rfl ⟨_, rfl, jct_r hR hn w, ⟨(hd1.1.pl 82 (by simp) (by simp)).trans hR.2.2.2.2.2.2.2.2.2.1, (hd1.1.pl 85 (by simp) (by simp)).trans hR.2.2.2.2.2.2.2.2.2.2⟩, ?_⟩
      show jm_Ev 213 0 [jR 56, jI w] [] h1 _
      refine jm_Ev.bl 2 (pc' := 2) (A' := [jR 56, jI w]) (st' := [jI w, jR 56]) (hp' := h1) rfl ?_
      refine jE_call (vs := [jR 56, jI w]) (r := []) (nx := 5) rfl (c_m_countD xs ls n hp hR hn h1 hd1 w hw) (fun rv2 h2 hh2 => ?_)
      obtain ⟨rfl, hd2, _⟩ := hh2
      exact jE_ret rfl ⟨jrI (if_pos ⟨by omega, by omega⟩), jREL_d hR hd2⟩
    · refine jm_Ev.bl 1 (pc' := 12) (A' := [jR 0, jI w]) (st' := [jI (-102)]) (hp' := hp) rfl ?_
      refine jE_ret rfl ⟨_, rfl, by omega, hR.2.2.2.2.2.2.2.2.2, ?_⟩
      show jm_Ev 213 0 [jR 56, jI w] [] hp _
      refine jm_Ev.bl 2 (pc' := 2) (A' := [jR 56, jI w]) (st' := [jI w, jR 56]) (hp' := hp) rfl ?_
      refine jE_call (vs := [jR 56, jI w]) (r := []) (nx := 5) rfl (c_m_countD xs ls n hp hR hn hp (jDg_0 hR) w hw) (fun rv2 h2 hh2 => ?_)
      obtain ⟨rfl, hd2, _⟩ := hh2
      exact jE_ret rfl ⟨jrI (if_neg (fun z => by omega)), jREL_d hR hd2⟩
