/-! call by call: digest; the model -/
/-- as hp, the hash is v -/
def jDv (hp h : jm_H) (v : Int) : Prop := jDg hp h ∧ h 56 39 = v
theorem jDv_s {hp h : jm_H} {v : Int} (hd : jDv hp h v) (w : Int) : jDv hp (jm_hs h 56 39 w) w := ⟨jDg_h hd.1 w, rfl⟩
def jDf (hp h : jm_H) (v : Int) : Prop := jDv hp h v ∧ h 56 10 = 0
theorem jDf_s {hp h : jm_H} {v : Int} (hd : jDf hp h v) (w : Int) : jDf hp (jm_hs h 56 39 w) w := ⟨jDv_s hd.1 w, hd.2⟩
theorem jDf_L {hp h : jm_H} {v : Int} (D : jRD hp) (hd : jDf hp h v) : jML h (jK0 hp) (jO0 hp) := by
  have k := jKd D hd.1.1
  have b := hd.1.1.2.2.2.2 hd.2
  rw [k.1, k.2] at b
  exact b
def jdn (hp : jm_H) (v : Int) : Option jm_V → jm_H → Prop := fun rv h => rv = none ∧ jDf hp h v
def jdl (hp : jm_H) (v : Int) : Option jm_V → jm_H → Prop := fun rv h => rv = some (jL v) ∧ jDg hp h
theorem c_m_say (hp : jm_H) (v : Int) : jm_Ev 214 0 [jR 56, jL v, jU] [] hp (jK none (jm_hs hp 56 39 (31 * hp 56 39 + v))) := by
  refine jm_Ev.bl 8 (pc' := 14) (A' := [jR 56, jL v, jU]) (st' := []) (hp' := (jm_hs hp 56 39 ((31 * (hp 56 39)) + v))) rfl ?_
  exact jE_ret rfl ⟨rfl, rfl⟩
theorem c_m_so_3 {Q : Option jm_V → jm_H → Prop} (xs ls : Int → Int) (n : Int) (hp : jm_H) (hR : jREL xs ls n hp) (hn : n ≤ 1000000) (i : Nat) (q : List jT) (hq : (jO0 hp)[i]? = some q) (b : Int) (m : Int) (hm : 0 ≤ m ∧ m < q.length) (k : ∀ z h, jDf hp h (jfx (fun w => jtp (jK0 hp) q m w) 5 (jfm (jK0 hp) q m.toNat (jfx (fun w => jto (jK0 hp) q w) 7 b))) → jm_Ev 215 62 [jR 56, jI (i : Int), jI m, z] [] h Q) : ∀ (c : Nat) (w : Int) (h : jm_H), 0 ≤ w → w ≤ 5 → jDf hp h (jfx (fun w => jtp (jK0 hp) q m w) w.toNat (jfm (jK0 hp) q m.toNat (jfx (fun w => jto (jK0 hp) q w) 7 b))) → 5 - w < c → jm_Ev 215 39 [jR 56, jI (i : Int), jI m, jI w] [] h Q := by
  obtain ⟨rP, rD, rC, rS, rR, rK, r5, rL, rM, rX⟩ := id hR
  have hos := jOs rL.1 rL.2.1 hq
  have hW := jOw rL.1 rL.2.1 hq
  have hN4 := hW.1
  have hN6 := hW.2.1
  intro fu
  induction fu with
  | zero => intro w h h0 h1 hd hc; omega
  | succ fu ih =>
    intro w h h0 h1 hd hc
    refine jm_Ev.bl 2 (pc' := 41) (A' := [jR 56, jI (i : Int), jI m, jI w]) (st' := [jI 5, jI w]) (hp' := h) rfl ?_
    refine jE_icmp_ge rfl (by omega) (by omega) (fun c41 => ?_) (fun c41 => ?_)
    · exact k (jI w) h (by rw [show w.toNat = 5 by omega] at hd; exact hd)
    · have e39 := hd.1.2
      have vr := jtp_r rL.1 rL.2.1 hq hm.1 hm.2 w
      refine jm_Ev.bl 5 (pc' := 49) (A' := [jR 56, jI (i : Int), jI m, jI w]) (st' := [jI w, jI m, jI (i : Int), jR 56, jR 56]) (hp' := h) rfl ?_
      refine jE_callI (vs := [jR 56, jI (i : Int), jI m, jI w]) (r := [jR 56]) (nx := 52) (v := jI (jtp (jK0 hp) q m w)) (hp1 := h) rfl ((show jtn (jK0 hp) q m w = jtp (jK0 hp) q m w from if_pos ⟨by omega, by omega⟩) ▸ c_m_tellPoint h (jK0 hp) (jO0 hp) rL.1 rL.2.1 (jDf_L rD hd) i q hq m hm w (by omega)) ?_
      refine jE_i2l rfl (by omega) ?_
      refine jE_callV (vs := [jR 56, jL (jtp (jK0 hp) q m w)]) (r := []) (nx := 56) (hp1 := (jm_hs h 56 39 (31 * (jfx (fun w => jtp (jK0 hp) q m w) w.toNat (jfm (jK0 hp) q m.toNat (jfx (fun w => jto (jK0 hp) q w) 7 b))) + (jtp (jK0 hp) q m w)))) rfl (e39 ▸ c_m_say h (jtp (jK0 hp) q m w)) ?_
      refine jm_Ev.bl 2 (pc' := 39) (A' := [jR 56, jI (i : Int), jI m, jI (w + 1)]) (st' := []) (hp' := (jm_hs h 56 39 (31 * (jfx (fun w => jtp (jK0 hp) q m w) w.toNat (jfm (jK0 hp) q m.toNat (jfx (fun w => jto (jK0 hp) q w) 7 b))) + (jtp (jK0 hp) q m w)))) rfl ?_
      have y := ih (w + 1) (jm_hs h 56 39 (31 * (jfx (fun w => jtp (jK0 hp) q m w) w.toNat (jfm (jK0 hp) q m.toNat (jfx (fun w => jto (jK0 hp) q w) 7 b))) + (jtp (jK0 hp) q m w))) (by omega) (by omega) (by rw [jfx_s (f := fun w => jtp (jK0 hp) q m w) (by omega)]; exact jDf_s hd _) (by omega)
      exact y
theorem c_m_so_2 (xs ls : Int → Int) (n : Int) (hp : jm_H) (hR : jREL xs ls n hp) (hn : n ≤ 1000000) (i : Nat) (q : List jT) (hq : (jO0 hp)[i]? = some q) (b : Int) : ∀ (c : Nat) (m : Int) (z : jm_V) (h : jm_H), 0 ≤ m → m ≤ q.length → jDf hp h (jfm (jK0 hp) q m.toNat (jfx (fun w => jto (jK0 hp) q w) 7 b)) → q.length - m < c → jm_Ev 215 27 [jR 56, jI (i : Int), jI m, z] [] h (jdn hp (jfq (jK0 hp) q b)) := by
  obtain ⟨rP, rD, rC, rS, rR, rK, r5, rL, rM, rX⟩ := id hR
  have hos := jOs rL.1 rL.2.1 hq
  have hW := jOw rL.1 rL.2.1 hq
  have hN4 := hW.1
  have hN6 := hW.2.1
  intro fu
  induction fu with
  | zero => intro m z h h0 h1 hd hc; omega
  | succ fu ih =>
    intro m z h h0 h1 hd hc
    refine jm_Ev.bl 4 (pc' := 33) (A' := [jR 56, jI (i : Int), jI m, z]) (st' := [jI (i : Int), jR 60, jI m]) (hp' := h) rfl ?_
    refine jE_iald (n := 32) (f := h 60) rfl rfl (by omega) ?_
    refine jE_top (w := (q.length : Int)) (((jDf_L rD hd).2.1.2 i q hq).2.1) ?_
    refine jE_icmp_ge rfl (by omega) (by omega) (fun c34 => ?_) (fun c34 => ?_)
    · exact jE_ret rfl ⟨rfl, by unfold jfq; rw [show m.toNat = q.length by omega] at hd; exact hd⟩
    · refine jm_Ev.bl 2 (pc' := 39) (A' := [jR 56, jI (i : Int), jI m, jI 0]) (st' := []) (hp' := h) rfl ?_
      refine c_m_so_3 xs ls n hp hR hn i q hq b m (by omega) (fun z h hd => ?_) 6 0 h (by omega) (by omega) hd (by omega)
      refine jm_Ev.bl 2 (pc' := 27) (A' := [jR 56, jI (i : Int), jI (m + 1), z]) (st' := []) (hp' := h) rfl ?_
      exact ih (m + 1) z h (by omega) (by omega) (by rw [jfm_s (by omega)]; exact hd) (by omega)
theorem c_m_so_1 (xs ls : Int → Int) (n : Int) (hp : jm_H) (hR : jREL xs ls n hp) (hn : n ≤ 1000000) (i : Nat) (q : List jT) (hq : (jO0 hp)[i]? = some q) (b : Int) : ∀ (c : Nat) (w : Int) (h : jm_H), 0 ≤ w → w ≤ 7 → jDf hp h (jfx (fun w => jto (jK0 hp) q w) w.toNat b) → 7 - w < c → jm_Ev 215 2 [jR 56, jI (i : Int), jI w, jU] [] h (jdn hp (jfq (jK0 hp) q b)) := by
  obtain ⟨rP, rD, rC, rS, rR, rK, r5, rL, rM, rX⟩ := id hR
  have hos := jOs rL.1 rL.2.1 hq
  have hW := jOw rL.1 rL.2.1 hq
  have hN4 := hW.1
  have hN6 := hW.2.1
  intro fu
  induction fu with
  | zero => intro w h h0 h1 hd hc; omega
  | succ fu ih =>
    intro w h h0 h1 hd hc
    refine jm_Ev.bl 2 (pc' := 5) (A' := [jR 56, jI (i : Int), jI w, jU]) (st' := [jI 7, jI w]) (hp' := h) rfl ?_
    refine jE_icmp_ge rfl (by omega) (by omega) (fun c5 => ?_) (fun c5 => ?_)
    · refine jm_Ev.bl 2 (pc' := 27) (A' := [jR 56, jI (i : Int), jI 0, jU]) (st' := []) (hp' := h) rfl ?_
      exact c_m_so_2 xs ls n hp hR hn i q hq b 62 0 _ h (by omega) (by omega) (by rw [show w.toNat = 7 by omega] at hd; exact hd) (by omega)
    · have e39 := hd.1.2
      have vr := jto_r rL.1 rL.2.1 hq w
      refine jm_Ev.bl 4 (pc' := 12) (A' := [jR 56, jI (i : Int), jI w, jU]) (st' := [jI w, jI (i : Int), jR 56, jR 56]) (hp' := h) rfl ?_
      refine jE_callI (vs := [jR 56, jI (i : Int), jI w]) (r := [jR 56]) (nx := 15) (v := jI (jto (jK0 hp) q w)) (hp1 := h) rfl ((show jtw (jK0 hp) q w = jto (jK0 hp) q w from if_pos ⟨by omega, by omega⟩) ▸ c_m_tellOutline h (jK0 hp) (jO0 hp) rL.1 rL.2.1 (jDf_L rD hd) i q hq w (by omega)) ?_
      refine jE_i2l rfl (by omega) ?_
      refine jE_callV (vs := [jR 56, jL (jto (jK0 hp) q w)]) (r := []) (nx := 19) (hp1 := (jm_hs h 56 39 (31 * (jfx (fun w => jto (jK0 hp) q w) w.toNat b) + (jto (jK0 hp) q w)))) rfl (e39 ▸ c_m_say h (jto (jK0 hp) q w)) ?_
      refine jm_Ev.bl 2 (pc' := 2) (A' := [jR 56, jI (i : Int), jI (w + 1), jU]) (st' := []) (hp' := (jm_hs h 56 39 (31 * (jfx (fun w => jto (jK0 hp) q w) w.toNat b) + (jto (jK0 hp) q w)))) rfl ?_
      exact ih (w + 1) (jm_hs h 56 39 (31 * (jfx (fun w => jto (jK0 hp) q w) w.toNat b) + (jto (jK0 hp) q w))) (by omega) (by omega) (by rw [jfx_s (f := fun w => jto (jK0 hp) q w) (by omega)]; exact jDf_s hd _) (by omega)
theorem c_m_sayOutline (xs ls : Int → Int) (n : Int) (hp : jm_H) (hR : jREL xs ls n hp) (hn : n ≤ 1000000) (i : Nat) (q : List jT) (hq : (jO0 hp)[i]? = some q) (b : Int) (h : jm_H) (hd : jDf hp h b) : jm_Ev 215 0 [jR 56, jI (i : Int), jU, jU] [] h (jdn hp (jfq (jK0 hp) q b)) := by
  refine jm_Ev.bl 2 (pc' := 2) (A' := [jR 56, jI (i : Int), jI 0, jU]) (st' := []) (hp' := h) rfl ?_
  exact c_m_so_1 xs ls n hp hR hn i q hq b 8 0 h (by omega) (by omega) hd (by omega)
theorem c_m_dg_5 (xs ls : Int → Int) (n : Int) (hp : jm_H) (hR : jREL xs ls n hp) (hn : n ≤ 1000000) : ∀ (c : Nat) (w : Int) (z : jm_V) (h : jm_H), 0 ≤ w → w ≤ 11 → jDv hp h (jfx (fun w => jct hp w) w.toNat (jd4 hp)) → 11 - w < c → jm_Ev 216 138 [jR 56, jI w, z] [] h (jdl hp (jdg hp)) := by
  obtain ⟨rP, rD, rC, rS, rR, rK, r5, rL, rM, rX⟩ := id hR
  have wh := jwh rD.1
  have p1 := rP.1.1
  have p2 := rP.1.2.1
  have o15 := jInv_15 rL.1 rL.2.1
  intro fu
  induction fu with
  | zero => intro w z h h0 h1 hd hc; omega
  | succ fu ih =>
    intro w z h h0 h1 hd hc
    refine jm_Ev.bl 2 (pc' := 141) (A' := [jR 56, jI w, z]) (st' := [jI 11, jI w]) (hp' := h) rfl ?_
    refine jE_icmp_ge rfl (by omega) (by omega) (fun c141 => ?_) (fun c141 => ?_)
    · refine jm_Ev.bl 2 (pc' := 164) (A' := [jR 56, jI w, z]) (st' := [jL (h 56 39)]) (hp' := h) rfl ?_
      exact jE_ret rfl ⟨jrL (by rw [hd.2, show w.toNat = 11 by omega]; rfl), hd.1⟩
    · refine jm_Ev.bl 3 (pc' := 147) (A' := [jR 56, jI w, z]) (st' := [jI w, jR 56, jR 56]) (hp' := h) rfl ?_
      refine jE_call (vs := [jR 56, jI w]) (r := [jR 56]) (nx := 150) rfl (c_m_countD xs ls n hp hR hn h hd.1 w (by omega)) (fun rv147 h1 hh => ?_)
      obtain ⟨rfl, hd1, f39⟩ := hh
      have e39 := f39.trans hd.2
      rw [if_pos (show 0 ≤ w ∧ w ≤ 10 by omega)]
      have vr := jct_r hR hn w
      refine jE_i2l rfl (by omega) ?_
      refine jE_callV (vs := [jR 56, jL (jct hp w)]) (r := []) (nx := 154) (hp1 := (jm_hs h1 56 39 (31 * (jfx (fun w => jct hp w) w.toNat (jd4 hp)) + (jct hp w)))) rfl (e39 ▸ c_m_say h1 (jct hp w)) ?_
      refine jm_Ev.bl 2 (pc' := 138) (A' := [jR 56, jI (w + 1), z]) (st' := []) (hp' := (jm_hs h1 56 39 (31 * (jfx (fun w => jct hp w) w.toNat (jd4 hp)) + (jct hp w)))) rfl ?_
      exact ih (w + 1) z (jm_hs h1 56 39 (31 * (jfx (fun w => jct hp w) w.toNat (jd4 hp)) + (jct hp w))) (by omega) (by omega) (by rw [jfx_s (f := fun w => jct hp w) (by omega)]; exact ⟨jDg_h hd1 _, rfl⟩) (by omega)
theorem c_m_dg_4 (xs ls : Int → Int) (n : Int) (hp : jm_H) (hR : jREL xs ls n hp) (hn : n ≤ 1000000) : ∀ (c : Nat) (j : Int) (z : jm_V) (h : jm_H), 0 ≤ j → j ≤ hp 1 1 → jDv hp h (jfx (fun k => hp 2 k) j.toNat (jd3 hp)) → hp 1 1 - j < c → jm_Ev 216 111 [jR 56, jI j, z] [] h (jdl hp (jdg hp)) := by
  obtain ⟨rP, rD, rC, rS, rR, rK, r5, rL, rM, rX⟩ := id hR
  have wh := jwh rD.1
  have p1 := rP.1.1
  have p2 := rP.1.2.1
  have o15 := jInv_15 rL.1 rL.2.1
  intro fu
  induction fu with
  | zero => intro j z h h0 h1 hd hc; omega
  | succ fu ih =>
    intro j z h h0 h1 hd hc
    refine jm_Ev.bl 3 (pc' := 116) (A' := [jR 56, jI j, z]) (st' := [jI (h 56 1), jI j]) (hp' := h) rfl ?_
    rw [show h 56 1 = hp 1 1 from (hd.1.1.fd 1 (by simp) (by simp)).trans rP.2.1]
    refine jE_icmp_ge rfl (by omega) (by omega) (fun c116 => ?_) (fun c116 => ?_)
    · refine jm_Ev.bl 2 (pc' := 138) (A' := [jR 56, jI 0, z]) (st' := []) (hp' := h) rfl ?_
      exact c_m_dg_5 xs ls n hp hR hn 12 0 (z) h (by omega) (by omega) (by rw [show j.toNat = (hp 1 1).toNat by omega] at hd; exact hd) (by omega)
    · have vr := rP.1.2.2 j (by omega) (by omega)
      have e39 := hd.2
      refine jm_Ev.bl 4 (pc' := 125) (A' := [jR 56, jI j, z]) (st' := [jI j, jR 57, jR 56]) (hp' := h) rfl ?_
      refine jE_iald (n := 32) (f := h 57) rfl rfl (by omega) ?_
      refine jE_top (w := hp 2 j) ((congrFun (hd.1.1.pl 57 (by simp) (by simp)) j).trans (rP.2.2 j (by omega) (by omega))) ?_
      refine jE_i2l rfl (by omega) ?_
      refine jE_callV (vs := [jR 56, jL (hp 2 j)]) (r := []) (nx := 130) (hp1 := (jm_hs h 56 39 (31 * (jfx (fun k => hp 2 k) j.toNat (jd3 hp)) + (hp 2 j)))) rfl (e39 ▸ c_m_say h (hp 2 j)) ?_
      refine jm_Ev.bl 2 (pc' := 111) (A' := [jR 56, jI (j + 1), z]) (st' := []) (hp' := (jm_hs h 56 39 (31 * (jfx (fun k => hp 2 k) j.toNat (jd3 hp)) + (hp 2 j)))) rfl ?_
      exact ih (j + 1) z (jm_hs h 56 39 (31 * (jfx (fun k => hp 2 k) j.toNat (jd3 hp)) + (hp 2 j))) (by omega) (by omega) (by rw [jfx_s (f := fun k => hp 2 k) (by omega)]; exact jDv_s hd _) (by omega)
theorem c_m_dg_3 (xs ls : Int → Int) (n : Int) (hp : jm_H) (hR : jREL xs ls n hp) (hn : n ≤ 1000000) : ∀ (c : Nat) (j : Int) (z : jm_V) (h : jm_H), 0 ≤ j → j ≤ 15 → jDv hp h (jfx (fun k => hp 74 k) j.toNat (jd2 hp)) → 15 - j < c → jm_Ev 216 86 [jR 56, jI j, z] [] h (jdl hp (jdg hp)) := by
  obtain ⟨rP, rD, rC, rS, rR, rK, r5, rL, rM, rX⟩ := id hR
  have wh := jwh rD.1
  have p1 := rP.1.1
  have p2 := rP.1.2.1
  have o15 := jInv_15 rL.1 rL.2.1
  intro fu
  induction fu with
  | zero => intro j z h h0 h1 hd hc; omega
  | succ fu ih =>
    intro j z h h0 h1 hd hc
    refine jm_Ev.bl 2 (pc' := 89) (A' := [jR 56, jI j, z]) (st' := [jI 15, jI j]) (hp' := h) rfl ?_
    refine jE_icmp_ge rfl (by omega) (by omega) (fun c89 => ?_) (fun c89 => ?_)
    · refine jm_Ev.bl 2 (pc' := 111) (A' := [jR 56, jI 0, z]) (st' := []) (hp' := h) rfl ?_
      exact c_m_dg_4 xs ls n hp hR hn 33 0 (z) h (by omega) (by omega) (by rw [show j.toNat = 15 by omega] at hd; exact hd) (by omega)
    · have vr : jR32 (hp 74 j) := by
        have z := rR.2 (j / 3) (j % 3) (by omega) (by omega) (by omega) (by omega)
        rw [show 3 * (j / 3) + j % 3 = j by omega] at z
        rw [z.1]
        split
        · have := z.2 ‹_›; exact ⟨by omega, by omega⟩
        · exact ⟨by omega, by omega⟩
      have e39 := hd.2
      refine jm_Ev.bl 4 (pc' := 98) (A' := [jR 56, jI j, z]) (st' := [jI j, jR 74, jR 56]) (hp' := h) rfl ?_
      refine jE_iald (n := 15) (f := h 74) rfl rfl (by omega) ?_
      refine jE_top (w := hp 74 j) (congrFun (hd.1.1.pl 74 (by simp) (by simp)) j) ?_
      refine jE_i2l rfl (by omega) ?_
      refine jE_callV (vs := [jR 56, jL (hp 74 j)]) (r := []) (nx := 103) (hp1 := (jm_hs h 56 39 (31 * (jfx (fun k => hp 74 k) j.toNat (jd2 hp)) + (hp 74 j)))) rfl (e39 ▸ c_m_say h (hp 74 j)) ?_
      refine jm_Ev.bl 2 (pc' := 86) (A' := [jR 56, jI (j + 1), z]) (st' := []) (hp' := (jm_hs h 56 39 (31 * (jfx (fun k => hp 74 k) j.toNat (jd2 hp)) + (hp 74 j)))) rfl ?_
      exact ih (j + 1) z (jm_hs h 56 39 (31 * (jfx (fun k => hp 74 k) j.toNat (jd2 hp)) + (hp 74 j))) (by omega) (by omega) (by rw [jfx_s (f := fun k => hp 74 k) (by omega)]; exact jDv_s hd _) (by omega)
theorem c_m_dg_2 (xs ls : Int → Int) (n : Int) (hp : jm_H) (hR : jREL xs ls n hp) (hn : n ≤ 1000000) : ∀ (c : Nat) (i : Nat) (z : jm_V) (h : jm_H), i ≤ (jO0 hp).length → jDf hp h (jfO (jK0 hp) (jO0 hp) i (jd1 hp)) → (jO0 hp).length - i < c → jm_Ev 216 65 [jR 56, jI (i : Int), z] [] h (jdl hp (jdg hp)) := by
  obtain ⟨rP, rD, rC, rS, rR, rK, r5, rL, rM, rX⟩ := id hR
  have wh := jwh rD.1
  have p1 := rP.1.1
  have p2 := rP.1.2.1
  have o15 := jInv_15 rL.1 rL.2.1
  intro fu
  induction fu with
  | zero => intro i z h h1 hd hc; omega
  | succ fu ih =>
    intro i z h h1 hd hc
    refine jm_Ev.bl 3 (pc' := 70) (A' := [jR 56, jI (i : Int), z]) (st' := [jI (h 56 11), jI (i : Int)]) (hp' := h) rfl ?_
    rw [show h 56 11 = ((jO0 hp).length : Int) from (jDf_L rD hd).2.1.1]
    refine jE_icmp_ge rfl (by omega) (by omega) (fun c70 => ?_) (fun c70 => ?_)
    · refine jm_Ev.bl 2 (pc' := 86) (A' := [jR 56, jI 0, z]) (st' := []) (hp' := h) rfl ?_
      exact c_m_dg_3 xs ls n hp hR hn 16 0 (z) h (by omega) (by omega) (by rw [show i = (jO0 hp).length by omega] at hd; exact hd.1) (by omega)
    · obtain ⟨q, hq⟩ : ∃ q, (jO0 hp)[i]? = some q := ⟨_, List.getElem?_eq_getElem (show i < (jO0 hp).length by omega)⟩
      refine jm_Ev.bl 2 (pc' := 75) (A' := [jR 56, jI (i : Int), z]) (st' := [jI (i : Int), jR 56]) (hp' := h) rfl ?_
      refine jE_call (vs := [jR 56, jI (i : Int)]) (r := []) (nx := 78) rfl (c_m_sayOutline xs ls n hp hR hn i q hq (jfO (jK0 hp) (jO0 hp) i (jd1 hp)) h hd) (fun rv75 h1 hh => ?_)
      obtain ⟨rfl, hd1⟩ := hh
      refine jm_Ev.bl 2 (pc' := 65) (A' := [jR 56, jI ((i : Int) + 1), z]) (st' := []) (hp' := h1) rfl ?_
      have y := ih (i + 1) z h1 (by omega) (by rw [jfO_s hq]; exact hd1) (by omega)
      rw [show ((i + 1 : Nat) : Int) = (i : Int) + 1 by omega] at y
      exact y
theorem c_m_dg_1c (xs ls : Int → Int) (n : Int) (hp : jm_H) (hR : jREL xs ls n hp) (hn : n ≤ 1000000) (h : jm_H) (hd : jDv hp h (jd1 hp)) (z1 z : jm_V) : jm_Ev 216 52 [jR 56, z1, z] [] h (jdl hp (jdg hp)) := by
  obtain ⟨rP, rD, rC, rS, rR, rK, r5, rL, rM, rX⟩ := id hR
  have wh := jwh rD.1
  have p1 := rP.1.1
  have p2 := rP.1.2.1
  have o15 := jInv_15 rL.1 rL.2.1
  refine jm_Ev.bl 1 (pc' := 53) (A' := [jR 56, z1, z]) (st' := [jR 56]) (hp' := h) rfl ?_
  refine jE_callI (vs := [jR 56]) (r := []) (nx := 56) (v := jI (jb (decide (h 56 6 = 0)))) (hp1 := h) rfl (c_m_lacks h hd.1.2.2.1) ?_
  refine jE_ifd_ne rfl (fun c56 => ?_) (fun c56 => ?_)
  · refine jm_Ev.bl 2 (pc' := 86) (A' := [jR 56, jI 0, z]) (st' := []) (hp' := h) rfl ?_
    have on : jO0 hp = [] := by rw [← (jKd rD hd.1).2]; exact jmO_nil hd.1.2.2.1 c56
    exact c_m_dg_3 xs ls n hp hR hn 16 0 _ h (by omega) (by omega) ⟨hd.1, by rw [hd.2]; unfold jd2; rw [on]; rfl⟩ (by omega)
  · refine jm_Ev.bl 1 (pc' := 60) (A' := [jR 56, z1, z]) (st' := [jR 56]) (hp' := h) rfl ?_
    refine jE_call (vs := [jR 56]) (r := []) (nx := 63) rfl (c_m_freshen h hd.1.2.2.1 hd.1.2.2.2.1 hd.1.2.2.2.2) (fun rv60 h1 hh => ?_)
    obtain ⟨rfl, f10, hL, hf1⟩ := hh
    have hM1 := jMC_fre hd.1.2.2.1 f10 hL hf1
    have hd1 : jDf hp h1 (jd1 hp) := ⟨⟨jDg_m hd.1 hM1 hf1, (hf1.fd 39 (by simp) (by simp)).trans hd.2⟩, f10⟩
    refine jm_Ev.bl 2 (pc' := 65) (A' := [jR 56, jI 0, z]) (st' := []) (hp' := h1) rfl ?_
    exact c_m_dg_2 xs ls n hp hR hn 16 0 _ h1 (by omega) hd1 (by omega)
theorem jdt_fr {hp h : jm_H} (hd : jDg hp h) (p w : Int) : jdt h p w = jdt hp p w := by
  unfold jdt
  rw [hd.1.pl 4 (by simp) (by simp), hd.1.pl 9 (by simp) (by simp), hd.1.pl 10 (by simp) (by simp), hd.1.pl 11 (by simp) (by simp), hd.1.pl 12 (by simp) (by simp)]
theorem c_m_dg_1b {Q : Option jm_V → jm_H → Prop} (xs ls : Int → Int) (n : Int) (hp : jm_H) (hR : jREL xs ls n hp) (hn : n ≤ 1000000) (p : Int) (hpr : 0 ≤ p ∧ p < hp 3 1 * hp 3 2) (k : ∀ z h, jDv hp h (jfx (fun w => jdt hp p w) 3 (jfD hp p.toNat 1439)) → jm_Ev 216 46 [jR 56, jI p, z] [] h Q) : ∀ (c : Nat) (w : Int) (h : jm_H), 0 ≤ w → w ≤ 3 → jDv hp h (jfx (fun w => jdt hp p w) w.toNat (jfD hp p.toNat 1439)) → 3 - w < c → jm_Ev 216 24 [jR 56, jI p, jI w] [] h Q := by
  obtain ⟨rP, rD, rC, rS, rR, rK, r5, rL, rM, rX⟩ := id hR
  have wh := jwh rD.1
  have p1 := rP.1.1
  have p2 := rP.1.2.1
  have o15 := jInv_15 rL.1 rL.2.1
  intro fu
  induction fu with
  | zero => intro w h h0 h1 hd hc; omega
  | succ fu ih =>
    intro w h h0 h1 hd hc
    refine jm_Ev.bl 2 (pc' := 26) (A' := [jR 56, jI p, jI w]) (st' := [jI 3, jI w]) (hp' := h) rfl ?_
    refine jE_icmp_ge rfl (by omega) (by omega) (fun c26 => ?_) (fun c26 => ?_)
    · exact k (jI w) h (by rw [show w.toNat = 3 by omega] at hd; exact hd)
    · have vr := jdt_r rD rS (p := p) (w := w) hpr
      have e39 := hd.2
      have eT : (if 0 ≤ w ∧ w ≤ 2 then jdt h p w else -102) = jdt hp p w := by rw [if_pos ⟨by omega, by omega⟩]; exact jdt_fr hd.1 p w
      refine jm_Ev.bl 4 (pc' := 33) (A' := [jR 56, jI p, jI w]) (st' := [jI w, jI p, jR 56, jR 56]) (hp' := h) rfl ?_
      refine jE_callI (vs := [jR 56, jI p, jI w]) (r := [jR 56]) (nx := 36) (v := jI (jdt hp p w)) (hp1 := h) rfl (eT ▸ c_m_tellDot h (jRD_fr rD hd.1.1 (by simp) (by simp)) (jRS_fr rS hd.1.1 (by simp) (by simp)) p w (by rw [hd.1.1.pl 3 (by simp) (by simp)]; exact hpr) (by omega)) ?_
      refine jE_i2l rfl (by omega) ?_
      refine jE_callV (vs := [jR 56, jL (jdt hp p w)]) (r := []) (nx := 40) (hp1 := (jm_hs h 56 39 (31 * (jfx (fun w => jdt hp p w) w.toNat (jfD hp p.toNat 1439)) + (jdt hp p w)))) rfl (e39 ▸ c_m_say h (jdt hp p w)) ?_
      refine jm_Ev.bl 2 (pc' := 24) (A' := [jR 56, jI p, jI (w + 1)]) (st' := []) (hp' := (jm_hs h 56 39 (31 * (jfx (fun w => jdt hp p w) w.toNat (jfD hp p.toNat 1439)) + (jdt hp p w)))) rfl ?_
      exact ih (w + 1) (jm_hs h 56 39 (31 * (jfx (fun w => jdt hp p w) w.toNat (jfD hp p.toNat 1439)) + (jdt hp p w))) (by omega) (by omega) (by rw [jfx_s (f := fun w => jdt hp p w) (by omega)]; exact jDv_s hd _) (by omega)
theorem c_m_dg_1 (xs ls : Int → Int) (n : Int) (hp : jm_H) (hR : jREL xs ls n hp) (hn : n ≤ 1000000) : ∀ (c : Nat) (p : Int) (z : jm_V) (h : jm_H), 0 ≤ p → p ≤ hp 3 1 * hp 3 2 → jDv hp h (jfD hp p.toNat 1439) → hp 3 1 * hp 3 2 - p < c → jm_Ev 216 9 [jR 56, jI p, z] [] h (jdl hp (jdg hp)) := by
  obtain ⟨rP, rD, rC, rS, rR, rK, r5, rL, rM, rX⟩ := id hR
  have wh := jwh rD.1
  have p1 := rP.1.1
  have p2 := rP.1.2.1
  have o15 := jInv_15 rL.1 rL.2.1
  intro fu
  induction fu with
  | zero => intro p z h h0 h1 hd hc; omega
  | succ fu ih =>
    intro p z h h0 h1 hd hc
    refine jm_Ev.bl 3 (pc' := 14) (A' := [jR 56, jI p, z]) (st' := [jI (h 56 6), jI p]) (hp' := h) rfl ?_
    rw [show h 56 6 = hp 3 1 from (hd.1.1.fd 6 (by simp) (by simp)).trans rD.2.1]
    refine jm_Ev.bl 2 (pc' := 18) (A' := [jR 56, jI p, z]) (st' := [jI (h 56 7), jI (hp 3 1), jI p]) (hp' := h) rfl ?_
    rw [show h 56 7 = hp 3 2 from (hd.1.1.fd 7 (by simp) (by simp)).trans rD.2.2.1]
    refine jm_Ev.bl 1 (pc' := 19) (A' := [jR 56, jI p, z]) (st' := [jI ((hp 3 1) * (hp 3 2)), jI p]) (hp' := h) rfl ?_
    refine jE_icmp_ge rfl (by omega) (by omega) (fun c19 => ?_) (fun c19 => ?_)
    · exact c_m_dg_1c xs ls n hp hR hn h (by rw [show p.toNat = (hp 3 1 * hp 3 2).toNat by omega] at hd; exact hd) _ _
    · refine jm_Ev.bl 2 (pc' := 24) (A' := [jR 56, jI p, jI 0]) (st' := []) (hp' := h) rfl ?_
      refine c_m_dg_1b xs ls n hp hR hn p (by omega) (fun z h hd => ?_) 4 0 h (by omega) (by omega) hd (by omega)
      refine jm_Ev.bl 2 (pc' := 9) (A' := [jR 56, jI (p + 1), z]) (st' := []) (hp' := h) rfl ?_
      exact ih (p + 1) z h (by omega) (by omega) (by rw [jfD_s (by omega)]; exact hd) (by omega)
theorem c_m_digest (xs ls : Int → Int) (n : Int) (hp : jm_H) (hR : jREL xs ls n hp) (hn : n ≤ 1000000) (h : jm_H) (hd : jDg hp h) : jm_Ev 216 0 [jR 56, jU, jU] [] h (jdl hp (jdg hp)) := by
  obtain ⟨rP, rD, rC, rS, rR, rK, r5, rL, rM, rX⟩ := id hR
  have wh := jwh rD.1
  have p1 := rP.1.1
  have p2 := rP.1.2.1
  have o15 := jInv_15 rL.1 rL.2.1
  refine jm_Ev.bl 5 (pc' := 9) (A' := [jR 56, jI 0, jU]) (st' := []) (hp' := (jm_hs h 56 39 1439)) rfl ?_
  exact c_m_dg_1 xs ls n hp hR hn 26 0 _ (jm_hs h 56 39 1439) (by omega) (by omega) ⟨jDg_h hd _, rfl⟩ (by omega)
def jSaml (y : Nat) (vs : List jm_V) (xs ls : Int → Int) (n : Int) : Option jm_V → jm_H → Prop := fun rv h1 => ∃ v, rv = some (jL v) ∧ jm_Ev y 0 (jm_en y vs) [] h1 (fun rv2 h2 => rv2 = some (jL v) ∧ jREL xs ls (n + 1) h2)
theorem k_digest (xs ls : Int → Int) (n : Int) (hp : jm_H) (hR : jREL xs ls n hp) (hn : n ≤ 1000000) : jm_Ev 117 0 [jR 0, jU, jU, jU, jU] [] hp (jSaml 216 [jR 56] xs ls n) := by
  refine jm_Ev.mono (c_x_digest xs ls n hp hR hn) (fun rv h hh => ?_)
  obtain ⟨rfl, hd⟩ := hh
  refine ⟨_, rfl, jm_Ev.mono (c_m_digest xs ls n hp hR hn h hd) (fun rv h hh => ?_)⟩
  obtain ⟨rfl, hd⟩ := hh
  exact ⟨rfl, jREL_d hR hd⟩
