/-! call by call: digest; the class -/
def jfx (f : Int → Int) : Nat → Int → Int
  | 0, h => h
  | k + 1, h => 31 * jfx f k h + f (k : Int)
theorem jfx_s {f : Int → Int} {k h : Int} (hk : 0 ≤ k) : jfx f (k + 1).toNat h = 31 * jfx f k.toNat h + f k := by
  have e : (k + 1).toNat = k.toNat + 1 := by omega
  have e2 : ((k.toNat : Nat) : Int) = k := by omega
  rw [e]
  conv => lhs; unfold jfx
  rw [e2]
def jfm (K : Int → Int → Int) (q : List jT) : Nat → Int → Int
  | 0, h => h
  | m + 1, h => jfx (fun w => jtp K q (m : Int) w) 5 (jfm K q m h)
theorem jfm_s {K : Int → Int → Int} {q : List jT} {m h : Int} (hm : 0 ≤ m) : jfm K q (m + 1).toNat h = jfx (fun w => jtp K q m w) 5 (jfm K q m.toNat h) := by
  have e : (m + 1).toNat = m.toNat + 1 := by omega
  have e2 : ((m.toNat : Nat) : Int) = m := by omega
  rw [e]
  conv => lhs; unfold jfm
  rw [e2]
def jfq (K : Int → Int → Int) (q : List jT) (b : Int) : Int := jfm K q q.length (jfx (fun w => jto K q w) 7 b)
def jfO (K : Int → Int → Int) (O : List (List jT)) : Nat → Int → Int
  | 0, h => h
  | i + 1, h => jfq K ((O[i]?).getD []) (jfO K O i h)
theorem jfO_s {K : Int → Int → Int} {O : List (List jT)} {i : Nat} {q : List jT} {h : Int} (hq : O[i]? = some q) : jfO K O (i + 1) h = jfq K q (jfO K O i h) := by
  show jfq K ((O[i]?).getD []) (jfO K O i h) = _
  rw [hq]
  rfl
def jfD (hp : jm_H) : Nat → Int → Int
  | 0, h => h
  | k + 1, h => jfx (fun w => jdt hp (k : Int) w) 3 (jfD hp k h)
theorem jfD_s {hp : jm_H} {k h : Int} (hk : 0 ≤ k) : jfD hp (k + 1).toNat h = jfx (fun w => jdt hp k w) 3 (jfD hp k.toNat h) := by
  have e : (k + 1).toNat = k.toNat + 1 := by omega
  have e2 : ((k.toNat : Nat) : Int) = k := by omega
  rw [e]
  conv => lhs; unfold jfD
  rw [e2]
def jd1 (hp : jm_H) : Int := jfD hp (hp 3 1 * hp 3 2).toNat 1439
def jd2 (hp : jm_H) : Int := jfO (jK0 hp) (jO0 hp) (jO0 hp).length (jd1 hp)
def jd3 (hp : jm_H) : Int := jfx (fun k => hp 74 k) 15 (jd2 hp)
def jd4 (hp : jm_H) : Int := jfx (fun k => hp 2 k) (hp 1 1).toNat (jd3 hp)
def jdg (hp : jm_H) : Int := jfx (fun w => jct hp w) 11 (jd4 hp)
def jcl4 (hp : jm_H) (v : Int) : Option jm_V → jm_H → Prop := fun rv h => rv = some (jL v) ∧ jDg hp h
theorem c_x_dgo_3 {Q : Option jm_V → jm_H → Prop} (xs ls : Int → Int) (n : Int) (hp : jm_H) (hR : jREL xs ls n hp) (hn : n ≤ 1000000) (i : Nat) (q : List jT) (hq : (jO0 hp)[i]? = some q) (b : Int) (m : Int) (hm : 0 ≤ m ∧ m < q.length) (k : ∀ z h, jDg hp h → jm_Ev 122 86 [jR 0, jL b, jU, jI (i : Int), jL (jfx (fun w => jtp (jK0 hp) q m w) 5 (jfm (jK0 hp) q m.toNat (jfx (fun w => jto (jK0 hp) q w) 7 b))), jU, jI m, z] [] h Q) : ∀ (c : Nat) (w : Int) (h : jm_H), 0 ≤ w → w ≤ 5 → jDg hp h → 5 - w < c → jm_Ev 122 55 [jR 0, jL b, jU, jI (i : Int), jL (jfx (fun w => jtp (jK0 hp) q m w) w.toNat (jfm (jK0 hp) q m.toNat (jfx (fun w => jto (jK0 hp) q w) 7 b))), jU, jI m, jI w] [] h Q := by
  obtain ⟨rP, rD, rC, rS, rR, rK, r5, rL, rM, rX⟩ := id hR
  have hos := jOs rL.1 rL.2.1 hq
  have hW := jOw rL.1 rL.2.1 hq
  have hN4 := hW.1
  have hN6 := hW.2.1
  intro fu
  induction fu with
  | zero => intro w h h0 h1 hd hc; omega
  | succ fu ih =>
    intro w h h0 h1 hd hc
    refine jm_Ev.bl 2 (pc' := 58) (A' := [jR 0, jL b, jU, jI (i : Int), jL (jfx (fun w => jtp (jK0 hp) q m w) w.toNat (jfm (jK0 hp) q m.toNat (jfx (fun w => jto (jK0 hp) q w) 7 b))), jU, jI m, jI w]) (st' := [jI 5, jI w]) (hp' := h) rfl ?_
    refine jE_icmp_ge rfl (by omega) (by omega) (fun c58 => ?_) (fun c58 => ?_)
    · have z := k (jI w) h hd
      rw [show w.toNat = 5 by omega]
      exact z
    · refine jm_Ev.bl 7 (pc' := 73) (A' := [jR 0, jL b, jU, jI (i : Int), jL (jfx (fun w => jtp (jK0 hp) q m w) w.toNat (jfm (jK0 hp) q m.toNat (jfx (fun w => jto (jK0 hp) q w) 7 b))), jU, jI m, jI w]) (st' := [jI w, jI m, jI (i : Int), jR 0, jL (31 * (jfx (fun w => jtp (jK0 hp) q m w) w.toNat (jfm (jK0 hp) q m.toNat (jfx (fun w => jto (jK0 hp) q w) 7 b))))]) (hp' := h) rfl ?_
      refine jE_call (vs := [jR 0, jI (i : Int), jI m, jI w]) (r := [jL (31 * (jfx (fun w => jtp (jK0 hp) q m w) w.toNat (jfm (jK0 hp) q m.toNat (jfx (fun w => jto (jK0 hp) q w) 7 b))))]) (nx := 76) rfl (c_x_pointAnswer h (jK0 hp) (jO0 hp) hd.2.1 i q hq m hm w (by omega)) (fun rv73 h1 hh => ?_)
      obtain ⟨rfl, hC1, hf1⟩ := hh
      have hd1 := jDg_c hd hC1 hf1
      have vr := jtp_r rL.1 rL.2.1 hq hm.1 hm.2 w
      refine jE_i2l rfl (by omega) ?_
      refine jm_Ev.bl 2 (pc' := 80) (A' := [jR 0, jL b, jU, jI (i : Int), jL ((31 * (jfx (fun w => jtp (jK0 hp) q m w) w.toNat (jfm (jK0 hp) q m.toNat (jfx (fun w => jto (jK0 hp) q w) 7 b)))) + (jtp (jK0 hp) q m w)), jU, jI m, jI w]) (st' := []) (hp' := h1) rfl ?_
      rw [← jfx_s (f := fun w => jtp (jK0 hp) q m w) (by omega)]
      refine jm_Ev.bl 2 (pc' := 55) (A' := [jR 0, jL b, jU, jI (i : Int), jL (jfx (fun w => jtp (jK0 hp) q m w) (w + 1).toNat (jfm (jK0 hp) q m.toNat (jfx (fun w => jto (jK0 hp) q w) 7 b))), jU, jI m, jI (w + 1)]) (st' := []) (hp' := h1) rfl ?_
      exact ih (w + 1) h1 (by omega) (by omega) hd1 (by omega)
theorem c_x_dgo_2 (xs ls : Int → Int) (n : Int) (hp : jm_H) (hR : jREL xs ls n hp) (hn : n ≤ 1000000) (i : Nat) (q : List jT) (hq : (jO0 hp)[i]? = some q) (b : Int) : ∀ (c : Nat) (m : Int) (z : jm_V) (h : jm_H), 0 ≤ m → m ≤ q.length → jDg hp h → q.length - m < c → jm_Ev 122 39 [jR 0, jL b, jU, jI (i : Int), jL (jfm (jK0 hp) q m.toNat (jfx (fun w => jto (jK0 hp) q w) 7 b)), jU, jI m, z] [] h (jcl4 hp (jfq (jK0 hp) q b)) := by
  obtain ⟨rP, rD, rC, rS, rR, rK, r5, rL, rM, rX⟩ := id hR
  have hos := jOs rL.1 rL.2.1 hq
  have hW := jOw rL.1 rL.2.1 hq
  have hN4 := hW.1
  have hN6 := hW.2.1
  intro fu
  induction fu with
  | zero => intro m z h h0 h1 hd hc; omega
  | succ fu ih =>
    intro m z h h0 h1 hd hc
    refine jm_Ev.bl 4 (pc' := 46) (A' := [jR 0, jL b, jU, jI (i : Int), jL (jfm (jK0 hp) q m.toNat (jfx (fun w => jto (jK0 hp) q w) 7 b)), jU, jI m, z]) (st' := [jI (i : Int), jR 20, jI m]) (hp' := h) rfl ?_
    refine jE_callI (vs := [jR 20, jI (i : Int)]) (r := [jI m]) (nx := 49) (v := jI (q.length : Int)) (hp1 := h) rfl ((hd.2.1.2.2.1.2 i q hq).2.1 ▸ c_o_len_20 h (by have := hd.2.1.2.2.1.1; omega) i (by omega) (by have := hd.2.1.2.2.1.1; omega)) ?_
    refine jE_icmp_ge rfl (by omega) (by omega) (fun c49 => ?_) (fun c49 => ?_)
    · refine jm_Ev.bl 1 (pc' := 94) (A' := [jR 0, jL b, jU, jI (i : Int), jL (jfm (jK0 hp) q m.toNat (jfx (fun w => jto (jK0 hp) q w) 7 b)), jU, jI m, z]) (st' := [jL (jfm (jK0 hp) q m.toNat (jfx (fun w => jto (jK0 hp) q w) 7 b))]) (hp' := h) rfl ?_
      exact jE_ret rfl ⟨jrL (by unfold jfq; rw [show m.toNat = q.length by omega]), hd⟩
    · refine jm_Ev.bl 2 (pc' := 55) (A' := [jR 0, jL b, jU, jI (i : Int), jL (jfm (jK0 hp) q m.toNat (jfx (fun w => jto (jK0 hp) q w) 7 b)), jU, jI m, jI 0]) (st' := []) (hp' := h) rfl ?_
      refine c_x_dgo_3 xs ls n hp hR hn i q hq b m (by omega) (fun z h hd => ?_) 6 0 h (by omega) (by omega) hd (by omega)
      refine jm_Ev.bl 2 (pc' := 39) (A' := [jR 0, jL b, jU, jI (i : Int), jL (jfx (fun w => jtp (jK0 hp) q m w) 5 (jfm (jK0 hp) q m.toNat (jfx (fun w => jto (jK0 hp) q w) 7 b))), jU, jI (m + 1), z]) (st' := []) (hp' := h) rfl ?_
      rw [← jfm_s (by omega)]
      exact ih (m + 1) z h (by omega) (by omega) hd (by omega)
theorem c_x_dgo_1 (xs ls : Int → Int) (n : Int) (hp : jm_H) (hR : jREL xs ls n hp) (hn : n ≤ 1000000) (i : Nat) (q : List jT) (hq : (jO0 hp)[i]? = some q) (b : Int) : ∀ (c : Nat) (w : Int) (h : jm_H), 0 ≤ w → w ≤ 7 → jDg hp h → 7 - w < c → jm_Ev 122 6 [jR 0, jL b, jU, jI (i : Int), jL (jfx (fun w => jto (jK0 hp) q w) w.toNat b), jU, jI w, jU] [] h (jcl4 hp (jfq (jK0 hp) q b)) := by
  obtain ⟨rP, rD, rC, rS, rR, rK, r5, rL, rM, rX⟩ := id hR
  have hos := jOs rL.1 rL.2.1 hq
  have hW := jOw rL.1 rL.2.1 hq
  have hN4 := hW.1
  have hN6 := hW.2.1
  intro fu
  induction fu with
  | zero => intro w h h0 h1 hd hc; omega
  | succ fu ih =>
    intro w h h0 h1 hd hc
    refine jm_Ev.bl 2 (pc' := 10) (A' := [jR 0, jL b, jU, jI (i : Int), jL (jfx (fun w => jto (jK0 hp) q w) w.toNat b), jU, jI w, jU]) (st' := [jI 7, jI w]) (hp' := h) rfl ?_
    refine jE_icmp_ge rfl (by omega) (by omega) (fun c10 => ?_) (fun c10 => ?_)
    · refine jm_Ev.bl 2 (pc' := 39) (A' := [jR 0, jL b, jU, jI (i : Int), jL (jfx (fun w => jto (jK0 hp) q w) w.toNat b), jU, jI 0, jU]) (st' := []) (hp' := h) rfl ?_
      have z := c_x_dgo_2 xs ls n hp hR hn i q hq b 62 0 jU h (by omega) (by omega) hd (by omega)
      rw [show w.toNat = 7 by omega]
      exact z
    · refine jm_Ev.bl 6 (pc' := 23) (A' := [jR 0, jL b, jU, jI (i : Int), jL (jfx (fun w => jto (jK0 hp) q w) w.toNat b), jU, jI w, jU]) (st' := [jI w, jI (i : Int), jR 0, jL (31 * (jfx (fun w => jto (jK0 hp) q w) w.toNat b))]) (hp' := h) rfl ?_
      refine jE_call (vs := [jR 0, jI (i : Int), jI w]) (r := [jL (31 * (jfx (fun w => jto (jK0 hp) q w) w.toNat b))]) (nx := 26) rfl (c_x_outlineAnswer h (jK0 hp) (jO0 hp) hd.2.1 i q hq w (by omega)) (fun rv23 h1 hh => ?_)
      obtain ⟨rfl, hC1, hf1⟩ := hh
      have hd1 := jDg_c hd hC1 hf1
      have vr := jto_r rL.1 rL.2.1 hq w
      refine jE_i2l rfl (by omega) ?_
      refine jm_Ev.bl 2 (pc' := 30) (A' := [jR 0, jL b, jU, jI (i : Int), jL ((31 * (jfx (fun w => jto (jK0 hp) q w) w.toNat b)) + (jto (jK0 hp) q w)), jU, jI w, jU]) (st' := []) (hp' := h1) rfl ?_
      rw [← jfx_s (f := fun w => jto (jK0 hp) q w) (by omega)]
      refine jm_Ev.bl 2 (pc' := 6) (A' := [jR 0, jL b, jU, jI (i : Int), jL (jfx (fun w => jto (jK0 hp) q w) (w + 1).toNat b), jU, jI (w + 1), jU]) (st' := []) (hp' := h1) rfl ?_
      exact ih (w + 1) h1 (by omega) (by omega) hd1 (by omega)
theorem c_x_digestOutline (xs ls : Int → Int) (n : Int) (hp : jm_H) (hR : jREL xs ls n hp) (hn : n ≤ 1000000) (i : Nat) (q : List jT) (hq : (jO0 hp)[i]? = some q) (b : Int) (h : jm_H) (hd : jDg hp h) : jm_Ev 122 0 [jR 0, jL b, jU, jI (i : Int), jU, jU, jU, jU] [] h (jcl4 hp (jfq (jK0 hp) q b)) := by
  refine jm_Ev.bl 4 (pc' := 6) (A' := [jR 0, jL b, jU, jI (i : Int), jL b, jU, jI 0, jU]) (st' := []) (hp' := h) rfl ?_
  exact c_x_dgo_1 xs ls n hp hR hn i q hq b 8 0 h (by omega) (by omega) hd (by omega)
theorem c_x_dg_5 (xs ls : Int → Int) (n : Int) (hp : jm_H) (hR : jREL xs ls n hp) (hn : n ≤ 1000000) : ∀ (c : Nat) (w : Int) (z : jm_V) (h : jm_H), 0 ≤ w → w ≤ 11 → jDg hp h → 11 - w < c → jm_Ev 117 162 [jR 0, jL (jfx (fun w => jct hp w) w.toNat (jd4 hp)), jU, jI w, z] [] h (jcl4 hp (jdg hp)) := by
  obtain ⟨rP, rD, rC, rS, rR, rK, r5, rL, rM, rX⟩ := id hR
  have wh := jwh rD.1
  have p1 := rP.1.1
  have p2 := rP.1.2.1
  have o15 := jInv_15 rL.1 rL.2.1
  intro fu
  induction fu with
  | zero => intro w z h h0 h1 hd hc; omega
  | succ fu ih =>
    intro w z h h0 h1 hd hc
    refine jm_Ev.bl 2 (pc' := 165) (A' := [jR 0, jL (jfx (fun w => jct hp w) w.toNat (jd4 hp)), jU, jI w, z]) (st' := [jI 11, jI w]) (hp' := h) rfl ?_
    refine jE_icmp_ge rfl (by omega) (by omega) (fun c165 => ?_) (fun c165 => ?_)
    · refine jm_Ev.bl 1 (pc' := 188) (A' := [jR 0, jL (jfx (fun w => jct hp w) w.toNat (jd4 hp)), jU, jI w, z]) (st' := [jL (jfx (fun w => jct hp w) w.toNat (jd4 hp))]) (hp' := h) rfl ?_
      exact jE_ret rfl ⟨jrL (by rw [show w.toNat = 11 by omega]; rfl), hd⟩
    · refine jm_Ev.bl 5 (pc' := 175) (A' := [jR 0, jL (jfx (fun w => jct hp w) w.toNat (jd4 hp)), jU, jI w, z]) (st' := [jI w, jR 0, jL (31 * (jfx (fun w => jct hp w) w.toNat (jd4 hp)))]) (hp' := h) rfl ?_
      refine jE_call (vs := [jR 0, jI w]) (r := [jL (31 * (jfx (fun w => jct hp w) w.toNat (jd4 hp)))]) (nx := 178) rfl (c_x_countD xs ls n hp hR hn h hd w (by omega)) (fun rv175 h1 hh => ?_)
      obtain ⟨rfl, hd1⟩ := hh
      have vr := jct_r hR hn w
      refine jE_i2l rfl (by omega) ?_
      refine jm_Ev.bl 2 (pc' := 181) (A' := [jR 0, jL ((31 * (jfx (fun w => jct hp w) w.toNat (jd4 hp))) + (jct hp w)), jU, jI w, z]) (st' := []) (hp' := h1) rfl ?_
      rw [← jfx_s (f := fun w => jct hp w) (by omega)]
      refine jm_Ev.bl 2 (pc' := 162) (A' := [jR 0, jL (jfx (fun w => jct hp w) (w + 1).toNat (jd4 hp)), jU, jI (w + 1), z]) (st' := []) (hp' := h1) rfl ?_
      exact ih (w + 1) z h1 (by omega) (by omega) hd1 (by omega)
theorem c_x_dg_4 (xs ls : Int → Int) (n : Int) (hp : jm_H) (hR : jREL xs ls n hp) (hn : n ≤ 1000000) (h : jm_H) (hd : jDg hp h) : ∀ (c : Nat) (j : Int) (z : jm_V), 0 ≤ j → j ≤ hp 1 1 → hp 1 1 - j < c → jm_Ev 117 127 [jR 0, jL (jfx (fun k => hp 2 k) j.toNat (jd3 hp)), jU, jI j, z] [] h (jcl4 hp (jdg hp)) := by
  obtain ⟨rP, rD, rC, rS, rR, rK, r5, rL, rM, rX⟩ := id hR
  have wh := jwh rD.1
  have p1 := rP.1.1
  have p2 := rP.1.2.1
  have o15 := jInv_15 rL.1 rL.2.1
  intro fu
  induction fu with
  | zero => intro j z h0 h1 hc; omega
  | succ fu ih =>
    intro j z h0 h1 hc
    refine jm_Ev.bl 4 (pc' := 135) (A' := [jR 0, jL (jfx (fun k => hp 2 k) j.toNat (jd3 hp)), jU, jI j, z]) (st' := [jI (h 1 1), jI j]) (hp' := h) rfl ?_
    rw [hd.1.pl 1 (by simp) (by simp)]
    refine jE_icmp_ge rfl (by omega) (by omega) (fun c135 => ?_) (fun c135 => ?_)
    · refine jm_Ev.bl 2 (pc' := 162) (A' := [jR 0, jL (jfx (fun k => hp 2 k) j.toNat (jd3 hp)), jU, jI 0, z]) (st' := []) (hp' := h) rfl ?_
      have y := c_x_dg_5 xs ls n hp hR hn 12 0 (z) h (by omega) (by omega) hd (by omega)
      rw [show j.toNat = (hp 1 1).toNat by omega]
      exact y
    · have vr := rP.1.2.2 j (by omega) (by omega)
      refine jm_Ev.bl 6 (pc' := 148) (A' := [jR 0, jL (jfx (fun k => hp 2 k) j.toNat (jd3 hp)), jU, jI j, z]) (st' := [jI j, jR 1, jL (31 * (jfx (fun k => hp 2 k) j.toNat (jd3 hp)))]) (hp' := h) rfl ?_
      refine jE_callI (vs := [jR 1, jI j]) (r := [jL (31 * (jfx (fun k => hp 2 k) j.toNat (jd3 hp)))]) (nx := 151) (v := jI (hp 2 j)) (hp1 := h) rfl ((congrFun (hd.1.pl 2 (by simp) (by simp)) j) ▸ c_p_codeAt h j (by omega) (by omega)) ?_
      refine jE_i2l rfl (by omega) ?_
      refine jm_Ev.bl 2 (pc' := 154) (A' := [jR 0, jL ((31 * (jfx (fun k => hp 2 k) j.toNat (jd3 hp))) + (hp 2 j)), jU, jI j, z]) (st' := []) (hp' := h) rfl ?_
      rw [← jfx_s (f := fun k => hp 2 k) (by omega)]
      refine jm_Ev.bl 2 (pc' := 127) (A' := [jR 0, jL (jfx (fun k => hp 2 k) (j + 1).toNat (jd3 hp)), jU, jI (j + 1), z]) (st' := []) (hp' := h) rfl ?_
      exact ih (j + 1) z (by omega) (by omega) (by omega)
theorem c_x_dg_3b {Q : Option jm_V → jm_H → Prop} (xs ls : Int → Int) (n : Int) (hp : jm_H) (hR : jREL xs ls n hp) (hn : n ≤ 1000000) (h : jm_H) (hd : jDg hp h) (a : Int) (ha : 0 ≤ a ∧ a < 5) (k : ∀ z, jm_Ev 117 119 [jR 0, jL (jfx (fun k => hp 74 k) (3 * a + 3).toNat (jd2 hp)), jU, jI a, z] [] h Q) : ∀ (c : Nat) (b : Int), 0 ≤ b → b ≤ 3 → 3 - b < c → jm_Ev 117 89 [jR 0, jL (jfx (fun k => hp 74 k) (3 * a + b).toNat (jd2 hp)), jU, jI a, jI b] [] h Q := by
  obtain ⟨rP, rD, rC, rS, rR, rK, r5, rL, rM, rX⟩ := id hR
  have wh := jwh rD.1
  have p1 := rP.1.1
  have p2 := rP.1.2.1
  have o15 := jInv_15 rL.1 rL.2.1
  intro fu
  induction fu with
  | zero => intro b h0 h1 hc; omega
  | succ fu ih =>
    intro b h0 h1 hc
    refine jm_Ev.bl 2 (pc' := 92) (A' := [jR 0, jL (jfx (fun k => hp 74 k) (3 * a + b).toNat (jd2 hp)), jU, jI a, jI b]) (st' := [jI 3, jI b]) (hp' := h) rfl ?_
    refine jE_icmp_ge rfl (by omega) (by omega) (fun c92 => ?_) (fun c92 => ?_)
    · have y := k (jI b)
      rw [show 3 * a + b = 3 * a + 3 by omega]
      exact y
    · have ePV : (if 0 ≤ a ∧ a < 5 ∧ 0 ≤ b ∧ b < 3 ∧ b < hp 19 a then hp 18 (a * 3 + b) else -1) = hp 74 (3 * a + b) := by
        rw [(rR.2 a b (by omega) (by omega) (by omega) (by omega)).1]
        by_cases z : b < hp 19 a
        · rw [if_pos z, if_pos ⟨by omega, by omega, by omega, by omega, z⟩]
        · rw [if_neg z, if_neg (fun y => z y.2.2.2.2)]
      have vr : jR32 (hp 74 (3 * a + b)) := by
        have z := rR.2 a b (by omega) (by omega) (by omega) (by omega)
        rw [z.1]
        split
        · have := z.2 ‹_›; exact ⟨by omega, by omega⟩
        · exact ⟨by omega, by omega⟩
      have e18 : h 18 = hp 18 := hd.1.pl 18 (by simp) (by simp)
      have e19 : h 19 = hp 19 := hd.1.pl 19 (by simp) (by simp)
      refine jm_Ev.bl 7 (pc' := 107) (A' := [jR 0, jL (jfx (fun k => hp 74 k) (3 * a + b).toNat (jd2 hp)), jU, jI a, jI b]) (st' := [jI b, jI a, jR 17, jL (31 * (jfx (fun k => hp 74 k) (3 * a + b).toNat (jd2 hp)))]) (hp' := h) rfl ?_
      refine jE_callI (vs := [jR 17, jI a, jI b]) (r := [jL (31 * (jfx (fun k => hp 74 k) (3 * a + b).toNat (jd2 hp)))]) (nx := 110) (v := jI (hp 74 (3 * a + b))) (hp1 := h) rfl (ePV ▸ e18 ▸ e19 ▸ c_r_placeAt h (by unfold jRk; rw [e19]; exact rR.1) a b (by omega) (by omega)) ?_
      refine jE_i2l rfl (by omega) ?_
      refine jm_Ev.bl 2 (pc' := 113) (A' := [jR 0, jL ((31 * (jfx (fun k => hp 74 k) (3 * a + b).toNat (jd2 hp))) + (hp 74 (3 * a + b))), jU, jI a, jI b]) (st' := []) (hp' := h) rfl ?_
      rw [← jfx_s (f := fun k => hp 74 k) (by omega)]
      refine jm_Ev.bl 2 (pc' := 89) (A' := [jR 0, jL (jfx (fun k => hp 74 k) (3 * a + b + 1).toNat (jd2 hp)), jU, jI a, jI (b + 1)]) (st' := []) (hp' := h) rfl ?_
      have y := ih (b + 1) (by omega) (by omega) (by omega)
      rw [show 3 * a + (b + 1) = 3 * a + b + 1 by omega] at y
      exact y
theorem c_x_dg_3 (xs ls : Int → Int) (n : Int) (hp : jm_H) (hR : jREL xs ls n hp) (hn : n ≤ 1000000) (h : jm_H) (hd : jDg hp h) : ∀ (c : Nat) (a : Int) (z : jm_V), 0 ≤ a → a ≤ 5 → 5 - a < c → jm_Ev 117 81 [jR 0, jL (jfx (fun k => hp 74 k) (3 * a).toNat (jd2 hp)), jU, jI a, z] [] h (jcl4 hp (jdg hp)) := by
  obtain ⟨rP, rD, rC, rS, rR, rK, r5, rL, rM, rX⟩ := id hR
  have wh := jwh rD.1
  have p1 := rP.1.1
  have p2 := rP.1.2.1
  have o15 := jInv_15 rL.1 rL.2.1
  intro fu
  induction fu with
  | zero => intro a z h0 h1 hc; omega
  | succ fu ih =>
    intro a z h0 h1 hc
    refine jm_Ev.bl 2 (pc' := 83) (A' := [jR 0, jL (jfx (fun k => hp 74 k) (3 * a).toNat (jd2 hp)), jU, jI a, z]) (st' := [jI 5, jI a]) (hp' := h) rfl ?_
    refine jE_icmp_ge rfl (by omega) (by omega) (fun c83 => ?_) (fun c83 => ?_)
    · refine jm_Ev.bl 2 (pc' := 127) (A' := [jR 0, jL (jfx (fun k => hp 74 k) (3 * a).toNat (jd2 hp)), jU, jI 0, z]) (st' := []) (hp' := h) rfl ?_
      have y := c_x_dg_4 xs ls n hp hR hn h hd 33 0 (z) (by omega) (by omega) (by omega)
      rw [show (3 * a).toNat = 15 by omega]
      exact y
    · refine jm_Ev.bl 2 (pc' := 89) (A' := [jR 0, jL (jfx (fun k => hp 74 k) (3 * a).toNat (jd2 hp)), jU, jI a, jI 0]) (st' := []) (hp' := h) rfl ?_
      have y := c_x_dg_3b xs ls n hp hR hn h hd a (by omega) (fun z => jm_Ev.bl 2 (pc' := 81) (A' := [jR 0, jL (jfx (fun k => hp 74 k) (3 * a + 3).toNat (jd2 hp)), jU, jI (a + 1), z]) (st' := []) (hp' := h) rfl (by
        have y := ih (a + 1) z (by omega) (by omega) (by omega)
        rw [show 3 * (a + 1) = 3 * a + 3 by omega] at y
        exact y)) 4 0 (by omega) (by omega) (by omega)
      rw [show 3 * a + 0 = 3 * a by omega] at y
      exact y
theorem c_x_dg_2 (xs ls : Int → Int) (n : Int) (hp : jm_H) (hR : jREL xs ls n hp) (hn : n ≤ 1000000) : ∀ (c : Nat) (i : Nat) (z : jm_V) (h : jm_H), i ≤ (jO0 hp).length → jDg hp h → (jO0 hp).length - i < c → jm_Ev 117 55 [jR 0, jL (jfO (jK0 hp) (jO0 hp) i (jd1 hp)), jU, jI (i : Int), z] [] h (jcl4 hp (jdg hp)) := by
  obtain ⟨rP, rD, rC, rS, rR, rK, r5, rL, rM, rX⟩ := id hR
  have wh := jwh rD.1
  have p1 := rP.1.1
  have p2 := rP.1.2.1
  have o15 := jInv_15 rL.1 rL.2.1
  intro fu
  induction fu with
  | zero => intro i z h h1 hd hc; omega
  | succ fu ih =>
    intro i z h h1 hd hc
    refine jm_Ev.bl 4 (pc' := 63) (A' := [jR 0, jL (jfO (jK0 hp) (jO0 hp) i (jd1 hp)), jU, jI (i : Int), z]) (st' := [jI (h 20 0), jI (i : Int)]) (hp' := h) rfl ?_
    rw [show h 20 0 = ((jO0 hp).length : Int) from hd.2.1.2.2.1.1]
    refine jE_icmp_ge rfl (by omega) (by omega) (fun c63 => ?_) (fun c63 => ?_)
    · refine jm_Ev.bl 2 (pc' := 81) (A' := [jR 0, jL (jfO (jK0 hp) (jO0 hp) i (jd1 hp)), jU, jI 0, z]) (st' := []) (hp' := h) rfl ?_
      have y := c_x_dg_3 xs ls n hp hR hn h hd 6 0 (z) (by omega) (by omega) (by omega)
      rw [show i = (jO0 hp).length by omega]
      exact y
    · obtain ⟨q, hq⟩ : ∃ q, (jO0 hp)[i]? = some q := ⟨_, List.getElem?_eq_getElem (show i < (jO0 hp).length by omega)⟩
      refine jm_Ev.bl 3 (pc' := 69) (A' := [jR 0, jL (jfO (jK0 hp) (jO0 hp) i (jd1 hp)), jU, jI (i : Int), z]) (st' := [jI (i : Int), jL (jfO (jK0 hp) (jO0 hp) i (jd1 hp)), jR 0]) (hp' := h) rfl ?_
      refine jE_call (vs := [jR 0, jL (jfO (jK0 hp) (jO0 hp) i (jd1 hp)), jI (i : Int)]) (r := []) (nx := 72) rfl (c_x_digestOutline xs ls n hp hR hn i q hq (jfO (jK0 hp) (jO0 hp) i (jd1 hp)) h hd) (fun rv69 h1 hh => ?_)
      obtain ⟨rfl, hd1⟩ := hh
      refine jm_Ev.bl 3 (pc' := 55) (A' := [jR 0, jL (jfq (jK0 hp) q (jfO (jK0 hp) (jO0 hp) i (jd1 hp))), jU, jI ((i : Int) + 1), z]) (st' := []) (hp' := h1) rfl ?_
      have y := ih (i + 1) z h1 (by omega) hd1 (by omega)
      rw [jfO_s hq, show ((i + 1 : Nat) : Int) = (i : Int) + 1 by omega] at y
      exact y
theorem c_x_dg_1b {Q : Option jm_V → jm_H → Prop} (xs ls : Int → Int) (n : Int) (hp : jm_H) (hR : jREL xs ls n hp) (hn : n ≤ 1000000) (p : Int) (hpr : 0 ≤ p ∧ p < hp 3 1 * hp 3 2) (k : ∀ z, jm_Ev 117 47 [jR 0, jL (jfx (fun w => jdt hp p w) 3 (jfD hp p.toNat 1439)), jU, jI p, z] [] hp Q) : ∀ (c : Nat) (w : Int), 0 ≤ w → w ≤ 3 → 3 - w < c → jm_Ev 117 20 [jR 0, jL (jfx (fun w => jdt hp p w) w.toNat (jfD hp p.toNat 1439)), jU, jI p, jI w] [] hp Q := by
  obtain ⟨rP, rD, rC, rS, rR, rK, r5, rL, rM, rX⟩ := id hR
  have wh := jwh rD.1
  have p1 := rP.1.1
  have p2 := rP.1.2.1
  have o15 := jInv_15 rL.1 rL.2.1
  intro fu
  induction fu with
  | zero => intro w h0 h1 hc; omega
  | succ fu ih =>
    intro w h0 h1 hc
    refine jm_Ev.bl 2 (pc' := 23) (A' := [jR 0, jL (jfx (fun w => jdt hp p w) w.toNat (jfD hp p.toNat 1439)), jU, jI p, jI w]) (st' := [jI 3, jI w]) (hp' := hp) rfl ?_
    refine jE_icmp_ge rfl (by omega) (by omega) (fun c23 => ?_) (fun c23 => ?_)
    · have y := k (jI w)
      rw [show w.toNat = 3 by omega]
      exact y
    · have vr := jdt_r rD rS (p := p) (w := w) hpr
      refine jm_Ev.bl 6 (pc' := 35) (A' := [jR 0, jL (jfx (fun w => jdt hp p w) w.toNat (jfD hp p.toNat 1439)), jU, jI p, jI w]) (st' := [jI w, jI p, jR 0, jL (31 * (jfx (fun w => jdt hp p w) w.toNat (jfD hp p.toNat 1439)))]) (hp' := hp) rfl ?_
      refine jE_callI (vs := [jR 0, jI p, jI w]) (r := [jL (31 * (jfx (fun w => jdt hp p w) w.toNat (jfD hp p.toNat 1439)))]) (nx := 38) (v := jI (jdt hp p w)) (hp1 := hp) rfl (c_x_dotAnswer hp rD rS p w hpr (by omega)) ?_
      refine jE_i2l rfl (by omega) ?_
      refine jm_Ev.bl 2 (pc' := 41) (A' := [jR 0, jL ((31 * (jfx (fun w => jdt hp p w) w.toNat (jfD hp p.toNat 1439))) + (jdt hp p w)), jU, jI p, jI w]) (st' := []) (hp' := hp) rfl ?_
      rw [← jfx_s (f := fun w => jdt hp p w) (by omega)]
      refine jm_Ev.bl 2 (pc' := 20) (A' := [jR 0, jL (jfx (fun w => jdt hp p w) (w + 1).toNat (jfD hp p.toNat 1439)), jU, jI p, jI (w + 1)]) (st' := []) (hp' := hp) rfl ?_
      exact ih (w + 1) (by omega) (by omega) (by omega)
theorem c_x_dg_1 (xs ls : Int → Int) (n : Int) (hp : jm_H) (hR : jREL xs ls n hp) (hn : n ≤ 1000000) : ∀ (c : Nat) (p : Int) (z : jm_V), 0 ≤ p → p ≤ hp 3 1 * hp 3 2 → hp 3 1 * hp 3 2 - p < c → jm_Ev 117 6 [jR 0, jL (jfD hp p.toNat 1439), jU, jI p, z] [] hp (jcl4 hp (jdg hp)) := by
  obtain ⟨rP, rD, rC, rS, rR, rK, r5, rL, rM, rX⟩ := id hR
  have wh := jwh rD.1
  have p1 := rP.1.1
  have p2 := rP.1.2.1
  have o15 := jInv_15 rL.1 rL.2.1
  intro fu
  induction fu with
  | zero => intro p z h0 h1 hc; omega
  | succ fu ih =>
    intro p z h0 h1 hc
    refine jm_Ev.bl 3 (pc' := 11) (A' := [jR 0, jL (jfD hp p.toNat 1439), jU, jI p, z]) (st' := [jR 3, jI p]) (hp' := hp) rfl ?_
    refine jE_callI (vs := [jR 3]) (r := [jI p]) (nx := 14) (v := jI (hp 3 1 * hp 3 2)) (hp1 := hp) rfl (c_g_places_3 hp) ?_
    refine jE_icmp_ge rfl (by omega) (by omega) (fun c14 => ?_) (fun c14 => ?_)
    · refine jm_Ev.bl 2 (pc' := 55) (A' := [jR 0, jL (jfD hp p.toNat 1439), jU, jI 0, z]) (st' := []) (hp' := hp) rfl ?_
      have y := c_x_dg_2 xs ls n hp hR hn 16 0 (z) hp (by omega) (jDg_0 hR) (by omega)
      rw [show p.toNat = (hp 3 1 * hp 3 2).toNat by omega]
      exact y
    · refine jm_Ev.bl 2 (pc' := 20) (A' := [jR 0, jL (jfD hp p.toNat 1439), jU, jI p, jI 0]) (st' := []) (hp' := hp) rfl ?_
      refine c_x_dg_1b xs ls n hp hR hn p (by omega) (fun z => ?_) 4 0 (by omega) (by omega) (by omega)
      refine jm_Ev.bl 2 (pc' := 6) (A' := [jR 0, jL (jfx (fun w => jdt hp p w) 3 (jfD hp p.toNat 1439)), jU, jI (p + 1), z]) (st' := []) (hp' := hp) rfl ?_
      rw [← jfD_s (by omega)]
      exact ih (p + 1) z (by omega) (by omega) (by omega)
theorem c_x_digest (xs ls : Int → Int) (n : Int) (hp : jm_H) (hR : jREL xs ls n hp) (hn : n ≤ 1000000) : jm_Ev 117 0 [jR 0, jU, jU, jU, jU] [] hp (jcl4 hp (jdg hp)) := by
  obtain ⟨rP, rD, rC, rS, rR, rK, r5, rL, rM, rX⟩ := id hR
  have wh := jwh rD.1
  have p1 := rP.1.1
  have p2 := rP.1.2.1
  have o15 := jInv_15 rL.1 rL.2.1
  refine jm_Ev.bl 4 (pc' := 6) (A' := [jR 0, jL 1439, jU, jI 0, jU]) (st' := []) (hp' := hp) rfl ?_
  exact c_x_dg_1 xs ls n hp hR hn 26 0 _ (by omega) (by omega) (by omega)
