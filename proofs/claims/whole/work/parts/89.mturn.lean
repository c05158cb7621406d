/-! the model's outlinesNow, cornersNow, turn, mirror, weight -/
def jnow (hp : jm_H) (v : Int) : Option jm_V → jm_H → Prop := fun rv h => rv = some (jI v) ∧ (∀ j, 0 ≤ j → j < 15 → h 74 j = -1) ∧ jMC h ∧ jFq hp h [74, 59, 60, 61, 62, 63, 64, 65, 66, 67, 68, 69, 70, 71, 72] [10, 11, 26]
theorem j2d {H a b c d : Int} (b0 : 0 ≤ b) (b1 : b < H) (d0 : 0 ≤ d) (d1 : d < H) (e : a * H + b = c * H + d) : a = c ∧ b = d := by
  rcases Int.lt_trichotomy a c with h | h | h
  · have z : 1 * H ≤ (c - a) * H := Int.mul_le_mul_of_nonneg_right (by omega) (by omega)
    rw [Int.sub_mul] at z
    omega
  · subst h; omega
  · have z : 1 * H ≤ (a - c) * H := Int.mul_le_mul_of_nonneg_right (by omega) (by omega)
    rw [Int.sub_mul] at z
    omega
/-- a place, by its column and row -/
theorem jxy {W H k : Int} (hW : 0 < W) (k0 : 0 ≤ k) (k1 : k < W * H) : 0 ≤ k % W ∧ k % W < W ∧ 0 ≤ k / W ∧ k / W < H ∧ k = k / W * W + k % W := by
  have a := Int.emod_nonneg k (show W ≠ 0 by omega)
  have b := Int.emod_lt_of_pos k hW
  have c := Int.ediv_nonneg k0 (show 0 ≤ W by omega)
  have d := Int.mul_ediv_add_emod k W
  refine ⟨a, b, c, Int.ediv_lt_of_lt_mul hW (by rw [Int.mul_comm]; exact k1), by rw [Int.mul_comm]; omega⟩
theorem c_m_outlinesNow (hp : jm_H) (hM : jMG hp) : jm_Ev 189 0 [jR 56] [] hp (jnow hp ((jmO hp).length : Int)) := by
  refine jm_Ev.bl 1 (pc' := 1) (A' := [jR 56]) (st' := [jR 56]) (hp' := hp) rfl ?_
  refine jE_call (vs := [jR 56]) (r := []) (nx := 4) rfl (c_m_changed hp) (fun rv1 h1 hh => ?_)
  obtain ⟨rfl, b1, b2, b3, hf1⟩ := hh
  have hM1 : jMG h1 := jMG_fr hM hf1 (by simp) (by simp) (by simp) (by simp)
  have k1 := jmK_fr hf1 (by simp) (by simp) (by simp) (by simp)
  refine jm_Ev.bl 1 (pc' := 5) (A' := [jR 56]) (st' := [jR 56]) (hp' := h1) rfl ?_
  refine jE_call (vs := [jR 56]) (r := []) (nx := 8) rfl (c_m_freshen h1 hM1 (Or.inr b2) (fun z => by omega)) (fun rv5 h2 hh2 => ?_)
  obtain ⟨rfl, e10, hL, hf2⟩ := hh2
  have hC2 := jMC_fre hM1 e10 hL hf2
  rw [k1.1, k1.2] at hL
  have hf3 := hf1.tr hf2 (V := [74, 59, 60, 61, 62, 63, 64, 65, 66, 67, 68, 69, 70, 71, 72]) (E := [10, 11, 26]) (by simp) (by simp) (by simp) (by simp)
  refine jm_Ev.bl 2 (pc' := 12) (A' := [jR 56]) (st' := [jI (h2 56 11)]) (hp' := h2) rfl ?_
  exact jE_ret rfl ⟨jrI hL.2.1.1, fun j a b => by rw [show h2 74 = h1 74 from hf2.pl 74 (by simp) (by simp)]; exact b3 j a b, hC2, hf3⟩
theorem c_m_cornersNow (hp : jm_H) (hM : jMG hp) : jm_Ev 192 0 [jR 56] [] hp (jnow hp (jalc (jmK hp) (jmO hp) (jmO hp).length)) := by
  refine jm_Ev.bl 1 (pc' := 1) (A' := [jR 56]) (st' := [jR 56]) (hp' := hp) rfl ?_
  refine jE_call (vs := [jR 56]) (r := []) (nx := 4) rfl (c_m_changed hp) (fun rv1 h1 hh => ?_)
  obtain ⟨rfl, b1, b2, b3, hf1⟩ := hh
  have hM1 : jMG h1 := jMG_fr hM hf1 (by simp) (by simp) (by simp) (by simp)
  have k1 := jmK_fr hf1 (by simp) (by simp) (by simp) (by simp)
  refine jm_Ev.bl 1 (pc' := 5) (A' := [jR 56]) (st' := [jR 56]) (hp' := h1) rfl ?_
  refine jE_call (vs := [jR 56]) (r := []) (nx := 8) rfl (c_m_freshen h1 hM1 (Or.inr b2) (fun z => by omega)) (fun rv5 h2 hh2 => ?_)
  obtain ⟨rfl, e10, hL, hf2⟩ := hh2
  have hC2 := jMC_fre hM1 e10 hL hf2
  rw [k1.1, k1.2] at hL
  have hf3 := hf1.tr hf2 (V := [74, 59, 60, 61, 62, 63, 64, 65, 66, 67, 68, 69, 70, 71, 72]) (E := [10, 11, 26]) (by simp) (by simp) (by simp) (by simp)
  refine jm_Ev.bl 1 (pc' := 9) (A' := [jR 56]) (st' := [jR 56]) (hp' := h2) rfl ?_
  refine jE_callI (vs := [jR 56]) (r := []) (nx := 12) (v := jI (jalc (jmK hp) (jmO hp) (jmO hp).length)) (hp1 := h2) rfl (c_m_cornersAll h2 (jmK hp) (jmO hp) hL (jInv_15 (jmK5 hM) (jmOI hM))) ?_
  exact jE_ret rfl ⟨rfl, fun j a b => by rw [show h2 74 = h1 74 from hf2.pl 74 (by simp) (by simp)]; exact b3 j a b, hC2, hf3⟩
def jmtn (hp : jm_H) (W H : Int) (F : Int → Int → Int) : Option jm_V → jm_H → Prop := fun rv h => (∃ v, rv = some (jI v) ∧ v = jalc (jgk W H (h 58)) (jSc (jgk W H (h 58)) 144) (jSc (jgk W H (h 58)) 144).length) ∧ h 56 6 = W ∧ h 56 7 = H ∧ (∀ x y, 0 ≤ x → x < W → 0 ≤ y → y < H → h 58 (y * W + x) = F x y) ∧ (∀ j, 0 ≤ j → j < 15 → h 74 j = -1) ∧ jMC h ∧ jFq hp h [58, 73, 74, 59, 60, 61, 62, 63, 64, 65, 66, 67, 68, 69, 70, 71, 72] [6, 7, 10, 11, 26]
theorem c_m_turn_L {Q : Option jm_V → jm_H → Prop} (hp : jm_H) (d : Int → Int) (W H : Int) (hW : 1 ≤ W ∧ W ≤ 5) (hH : 1 ≤ H ∧ H ≤ 5) (hdr : ∀ j, 0 ≤ j → j < 25 → -1 ≤ d j ∧ d j ≤ 4) (kk : ∀ z h, h 56 6 = H → h 56 7 = W → (∀ x y, 0 ≤ x → x < H → 0 ≤ y → y < W → h 58 (y * H + x) = d ((H - 1 - x) * W + y)) → (∀ j, 0 ≤ j → j < 25 → -1 ≤ h 58 j ∧ h 58 j ≤ 4) → jFq hp h [58, 73] [6, 7] → jm_Ev 193 83 [jR 56, jI W, jI H, z] [] h Q) : ∀ (m : Nat) (k : Int) (h : jm_H), 0 ≤ k → k ≤ W * H → h 56 6 = H → h 56 7 = W → (∀ j, 0 ≤ j → j < 25 → h 73 j = d j) → (∀ j, 0 ≤ j → j < 25 → -1 ≤ h 58 j ∧ h 58 j ≤ 4) → (∀ x y, 0 ≤ x → x < H → 0 ≤ y → y < W → (H - 1 - x) * W + y < k → h 58 (y * H + x) = d ((H - 1 - x) * W + y)) → jFq hp h [58, 73] [6, 7] → W * H - k < m → jm_Ev 193 43 [jR 56, jI W, jI H, jI k] [] h Q := by
  have hwh := jm_mulb (show 0 ≤ W by omega) hW.2 (show 0 ≤ H by omega) hH.2
  intro fu
  induction fu with
  | zero => intro k h h0 h1 a6 a7 hd hr hi hfr hm; omega
  | succ fu ih =>
    intro k h h0 h1 a6 a7 hd hr hi hfr hm
    refine jm_Ev.bl 4 (pc' := 47) (A' := [jR 56, jI W, jI H, jI k]) (st' := [jI (W * H), jI k]) (hp' := h) rfl ?_
    refine jE_icmp_ge rfl (by omega) (by omega) (fun c47 => ?_) (fun c47 => ?_)
    · exact kk (jI k) h a6 a7 (fun x y x0 x1 y0 y1 => hi x y x0 x1 y0 y1 (by have m5 : (H - 1 - x + 1) * W ≤ H * W := Int.mul_le_mul_of_nonneg_right (by omega) (by omega); rw [Int.add_mul, Int.mul_comm H W] at m5; omega)) hr hfr
    · have q := jxy (W := W) (H := H) (k := k) (by omega) h0 (by omega)
      have m1 := jm_mulb (show 0 ≤ k / W by omega) (show k / W ≤ 4 by omega) (show 0 ≤ W by omega) hW.2
      have m2 := jm_mulb (show 0 ≤ k % W by omega) (show k % W ≤ 4 by omega) (show 0 ≤ H by omega) hH.2
      have m3 : (k / W + 1) * W ≤ H * W := Int.mul_le_mul_of_nonneg_right (by omega) (by omega)
      have m4 : (k % W + 1) * H ≤ W * H := Int.mul_le_mul_of_nonneg_right (by omega) (by omega)
      rw [Int.add_mul, Int.mul_comm H W] at m3
      rw [Int.add_mul] at m4
      refine jm_Ev.bl 4 (pc' := 56) (A' := [jR 56, jI W, jI H, jI k]) (st' := [jI W, jI k, jR 58]) (hp' := h) rfl ?_
      refine jE_irem rfl (by omega) (by omega) ?_
      refine jm_Ev.bl 2 (pc' := 61) (A' := [jR 56, jI W, jI H, jI k]) (st' := [jI (h 56 6), jI (k % W), jR 58]) (hp' := h) rfl ?_
      rw [a6]
      refine jm_Ev.bl 7 (pc' := 68) (A' := [jR 56, jI W, jI H, jI k]) (st' := [jI W, jI k, jI ((((k % W) * H) + H) - 1), jR 58]) (hp' := h) rfl ?_
      refine jE_idiv rfl (by omega) (by omega) ?_
      refine jm_Ev.bl 4 (pc' := 75) (A' := [jR 56, jI W, jI H, jI k]) (st' := [jI k, jR 73, jI (((((k % W) * H) + H) - 1) - (k / W)), jR 58]) (hp' := h) rfl ?_
      refine jE_iald (n := 25) (f := h 73) rfl rfl (by omega) ?_
      refine jE_top (w := (d k)) (hd k (by omega) (by omega)) ?_
      refine jE_iast (n := 25) rfl rfl (by omega) ?_
      refine jm_Ev.bl 2 (pc' := 43) (A' := [jR 56, jI W, jI H, jI (k + 1)]) (st' := []) (hp' := (jm_hs h 58 (((((k % W) * H) + H) - 1) - (k / W)) (d k))) rfl ?_
      refine ih (k + 1) _ (by omega) (by omega) a6 a7 hd (jhs_in hr (hdr k (by omega) (by omega))) (fun x y x0 x1 y0 y1 hs => ?_) (hfr.set (by simp)) (by omega)
      rw [js_hs_eq]
      by_cases e : y * H + x = (k % W * H + H - 1 - k / W)
      · rw [if_pos e]
        exact (by
          have z := j2d (H := H) (a := y) (b := x) (c := k % W) (d := H - 1 - k / W) (by omega) (by omega) (by omega) (by omega) (by omega)
          rw [show y = k % W by omega, show H - 1 - x = k / W by omega, ← q.2.2.2.2])
      · rw [if_neg e]
        have nk : (H - 1 - x) * W + y ≠ k := fun z => e (by have z2 := j2d (H := W) (a := H - 1 - x) (b := y) (c := k / W) (d := k % W) (by omega) (by omega) (by omega) (by omega) (by omega); rw [z2.2, show x = H - 1 - k / W by omega]; omega)
        exact hi x y x0 x1 y0 y1 (by omega)
theorem c_m_turn (hp : jm_H) (hM : jMG hp) (hW0 : ¬ hp 56 6 = 0) (hH0 : 1 ≤ hp 56 7) : jm_Ev 193 0 [jR 56, jU, jU, jU] [] hp (jmtn hp (hp 56 7) (hp 56 6) (fun x y => jgk (hp 56 6) (hp 56 7) (hp 58) y (hp 56 7 - 1 - x))) := by
  have hwh := jm_mulb hM.1 hM.2.1 hM.2.2.1 hM.2.2.2.1
  have hM1 := hM.1
  have hM2 := hM.2.1
  have hM4 := hM.2.2.2.1
  refine jm_Ev.bl 1 (pc' := 1) (A' := [jR 56, jU, jU, jU]) (st' := [jR 56]) (hp' := hp) rfl ?_
  refine jE_callI (vs := [jR 56]) (r := []) (nx := 4) (v := jI (jb (decide (hp 56 6 = 0)))) (hp1 := hp) rfl (c_m_lacks hp hM) ?_
  refine jE_ifd_eq rfl (fun c4 => ?_) (fun c4 => ?_)
  · refine jm_Ev.bl 4 (pc' := 18) (A' := [jR 56, jU, jU, jU]) (st' := [jR 73, jR 58]) (hp' := hp) rfl ?_
    refine jE_call (vs := [jR 58, jR 73]) (r := []) (nx := 21) rfl (c_m_copy_58_73 hp) (fun rv18 h1 hh => ?_)
    obtain ⟨rfl, hcp, hf1⟩ := hh
    have f6 := hf1.fd 6 (by simp) (by simp)
    have f7 := hf1.fd 7 (by simp) (by simp)
    refine jm_Ev.bl 2 (pc' := 25) (A' := [jR 56, jU, jU, jU]) (st' := [jI (h1 56 6)]) (hp' := h1) rfl ?_
    rw [f6]
    refine jm_Ev.bl 3 (pc' := 30) (A' := [jR 56, jI (hp 56 6), jU, jU]) (st' := [jI (h1 56 7)]) (hp' := h1) rfl ?_
    rw [f7]
    refine jm_Ev.bl 9 (pc' := 43) (A' := [jR 56, jI (hp 56 6), jI (hp 56 7), jI 0]) (st' := []) (hp' := (jm_hs (jm_hs h1 56 6 (hp 56 7)) 56 7 (hp 56 6))) rfl ?_
    refine c_m_turn_L hp (hp 58) (hp 56 6) (hp 56 7) (by omega) (by omega) hM.2.2.2.2 (fun z h a6 a7 hfin hr hfr => ?_) 26 0 (jm_hs (jm_hs h1 56 6 (hp 56 7)) 56 7 (hp 56 6)) (by omega) (by omega) rfl rfl (fun j a b => hcp j a b) (fun j a b => by show -1 ≤ h1 58 j ∧ h1 58 j ≤ 4; rw [show h1 58 = hp 58 from hf1.pl 58 (by simp) (by simp)]; exact hM.2.2.2.2 j a b) (fun x y x0 x1 y0 y1 z => ?_) (((hf1.wk (V := [58, 73]) (E := [6, 7]) (by simp) (by simp)).sf (by simp)).sf (by simp)) (by omega)
    · refine jm_Ev.bl 1 (pc' := 84) (A' := [jR 56, jI (hp 56 6), jI (hp 56 7), z]) (st' := [jR 56]) (hp' := h) rfl ?_
      refine jE_call (vs := [jR 56]) (r := []) (nx := 87) rfl (c_m_cornersNow h ⟨by omega, by omega, by omega, by omega, hr⟩) (fun rv84 h2 hh => ?_)
      obtain ⟨rfl, g2, g3, hf3⟩ := hh
      have e58 : h2 58 = h 58 := hf3.pl 58 (by simp) (by simp)
      refine jE_ret rfl ⟨⟨_, rfl, ?_⟩, (hf3.fd 6 (by simp) (by simp)).trans a6, (hf3.fd 7 (by simp) (by simp)).trans a7, fun x y x0 x1 y0 y1 => ?_, g2, g3, hfr.tr hf3 (by simp) (by simp) (by simp) (by simp)⟩
      · unfold jmO jmK
        rw [e58, a6, a7]
      · rw [e58, hfin x y x0 x1 y0 y1]
        exact (jgk_in (by omega) (by omega) (by omega) (by omega)).symm
    · exfalso
      have := Int.mul_nonneg (show 0 ≤ hp 56 7 - 1 - x by omega) (show 0 ≤ hp 56 6 by omega); omega
  · refine jm_Ev.bl 1 (pc' := 9) (A' := [jR 56, jU, jU, jU]) (st' := [jI (-103)]) (hp' := hp) rfl ?_
    exact absurd c4 hW0
theorem c_m_turn_0 (hp : jm_H) (hM : jMG hp) (hW0 : hp 56 6 = 0) : jm_Ev 193 0 [jR 56, jU, jU, jU] [] hp (jK (some (jI (-103))) hp) := by
  refine jm_Ev.bl 1 (pc' := 1) (A' := [jR 56, jU, jU, jU]) (st' := [jR 56]) (hp' := hp) rfl ?_
  refine jE_callI (vs := [jR 56]) (r := []) (nx := 4) (v := jI (jb (decide (hp 56 6 = 0)))) (hp1 := hp) rfl (c_m_lacks hp hM) ?_
  refine jE_ifd_eq rfl (fun c4 => ?_) (fun c4 => ?_)
  · exact absurd hW0 c4
  · refine jm_Ev.bl 1 (pc' := 9) (A' := [jR 56, jU, jU, jU]) (st' := [jI (-103)]) (hp' := hp) rfl ?_
    exact jE_ret rfl ⟨rfl, rfl⟩
theorem c_m_mirror_L {Q : Option jm_V → jm_H → Prop} (hp : jm_H) (d : Int → Int) (W H : Int) (hW : 1 ≤ W ∧ W ≤ 5) (hH : 1 ≤ H ∧ H ≤ 5) (hdr : ∀ j, 0 ≤ j → j < 25 → -1 ≤ d j ∧ d j ≤ 4) (kk : ∀ z h, h 56 6 = W → h 56 7 = H → (∀ x y, 0 ≤ x → x < W → 0 ≤ y → y < H → h 58 (y * W + x) = d (y * W + (W - 1 - x))) → (∀ j, 0 ≤ j → j < 25 → -1 ≤ h 58 j ∧ h 58 j ≤ 4) → jFq hp h [58, 73] [6, 7] → jm_Ev 194 78 [jR 56, z] [] h Q) : ∀ (m : Nat) (k : Int) (h : jm_H), 0 ≤ k → k ≤ W * H → h 56 6 = W → h 56 7 = H → (∀ j, 0 ≤ j → j < 25 → h 73 j = d j) → (∀ j, 0 ≤ j → j < 25 → -1 ≤ h 58 j ∧ h 58 j ≤ 4) → (∀ x y, 0 ≤ x → x < W → 0 ≤ y → y < H → y * W + (W - 1 - x) < k → h 58 (y * W + x) = d (y * W + (W - 1 - x))) → jFq hp h [58, 73] [6, 7] → W * H - k < m → jm_Ev 194 23 [jR 56, jI k] [] h Q := by
  have hwh := jm_mulb (show 0 ≤ W by omega) hW.2 (show 0 ≤ H by omega) hH.2
  intro fu
  induction fu with
  | zero => intro k h h0 h1 a6 a7 hd hr hi hfr hm; omega
  | succ fu ih =>
    intro k h h0 h1 a6 a7 hd hr hi hfr hm
    refine jm_Ev.bl 3 (pc' := 28) (A' := [jR 56, jI k]) (st' := [jI (h 56 6), jI k]) (hp' := h) rfl ?_
    rw [a6]
    refine jm_Ev.bl 2 (pc' := 32) (A' := [jR 56, jI k]) (st' := [jI (h 56 7), jI W, jI k]) (hp' := h) rfl ?_
    rw [a7]
    refine jm_Ev.bl 1 (pc' := 33) (A' := [jR 56, jI k]) (st' := [jI (W * H), jI k]) (hp' := h) rfl ?_
    refine jE_icmp_ge rfl (by omega) (by omega) (fun c33 => ?_) (fun c33 => ?_)
    · exact kk (jI k) h a6 a7 (fun x y x0 x1 y0 y1 => hi x y x0 x1 y0 y1 (by have m5 : (y + 1) * W ≤ H * W := Int.mul_le_mul_of_nonneg_right (by omega) (by omega); rw [Int.add_mul, Int.mul_comm H W] at m5; omega)) hr hfr
    · have q := jxy (W := W) (H := H) (k := k) (by omega) h0 (by omega)
      have m1 := jm_mulb (show 0 ≤ k / W by omega) (show k / W ≤ 4 by omega) (show 0 ≤ W by omega) hW.2
      have m2 := jm_mulb (show 0 ≤ k % W by omega) (show k % W ≤ 4 by omega) (show 0 ≤ H by omega) hH.2
      have m3 : (k / W + 1) * W ≤ H * W := Int.mul_le_mul_of_nonneg_right (by omega) (by omega)
      have m4 : (k % W + 1) * H ≤ W * H := Int.mul_le_mul_of_nonneg_right (by omega) (by omega)
      rw [Int.add_mul, Int.mul_comm H W] at m3
      rw [Int.add_mul] at m4
      refine jm_Ev.bl 5 (pc' := 45) (A' := [jR 56, jI k]) (st' := [jI (h 56 6), jI k, jR 58]) (hp' := h) rfl ?_
      rw [a6]
      refine jE_idiv rfl (by omega) (by omega) ?_
      refine jm_Ev.bl 2 (pc' := 50) (A' := [jR 56, jI k]) (st' := [jI (h 56 6), jI (k / W), jR 58]) (hp' := h) rfl ?_
      rw [a6]
      refine jm_Ev.bl 3 (pc' := 55) (A' := [jR 56, jI k]) (st' := [jI (h 56 6), jI ((k / W) * W), jR 58]) (hp' := h) rfl ?_
      rw [a6]
      refine jm_Ev.bl 6 (pc' := 63) (A' := [jR 56, jI k]) (st' := [jI (h 56 6), jI k, jI ((((k / W) * W) + W) - 1), jR 58]) (hp' := h) rfl ?_
      rw [a6]
      refine jE_irem rfl (by omega) (by omega) ?_
      refine jm_Ev.bl 4 (pc' := 70) (A' := [jR 56, jI k]) (st' := [jI k, jR 73, jI (((((k / W) * W) + W) - 1) - (k % W)), jR 58]) (hp' := h) rfl ?_
      refine jE_iald (n := 25) (f := h 73) rfl rfl (by omega) ?_
      refine jE_top (w := (d k)) (hd k (by omega) (by omega)) ?_
      refine jE_iast (n := 25) rfl rfl (by omega) ?_
      refine jm_Ev.bl 2 (pc' := 23) (A' := [jR 56, jI (k + 1)]) (st' := []) (hp' := (jm_hs h 58 (((((k / W) * W) + W) - 1) - (k % W)) (d k))) rfl ?_
      refine ih (k + 1) _ (by omega) (by omega) a6 a7 hd (jhs_in hr (hdr k (by omega) (by omega))) (fun x y x0 x1 y0 y1 hs => ?_) (hfr.set (by simp)) (by omega)
      rw [js_hs_eq]
      by_cases e : y * W + x = (k / W * W + W - 1 - k % W)
      · rw [if_pos e]
        exact (by
          have z := j2d (H := W) (a := y) (b := x) (c := k / W) (d := W - 1 - k % W) (by omega) (by omega) (by omega) (by omega) (by omega)
          rw [z.1, show W - 1 - x = k % W by omega, ← q.2.2.2.2])
      · rw [if_neg e]
        have nk : y * W + (W - 1 - x) ≠ k := fun z => e (by have z2 := j2d (H := W) (a := y) (b := W - 1 - x) (c := k / W) (d := k % W) (by omega) (by omega) (by omega) (by omega) (by omega); rw [z2.1, show x = W - 1 - k % W by omega]; omega)
        exact hi x y x0 x1 y0 y1 (by omega)
theorem c_m_mirror (hp : jm_H) (hM : jMG hp) (hW0 : ¬ hp 56 6 = 0) (hH0 : 1 ≤ hp 56 7) : jm_Ev 194 0 [jR 56, jU] [] hp (jmtn hp (hp 56 6) (hp 56 7) (fun x y => jgk (hp 56 6) (hp 56 7) (hp 58) (hp 56 6 - 1 - x) y)) := by
  have hwh := jm_mulb hM.1 hM.2.1 hM.2.2.1 hM.2.2.2.1
  have hM1 := hM.1
  have hM2 := hM.2.1
  have hM4 := hM.2.2.2.1
  refine jm_Ev.bl 1 (pc' := 1) (A' := [jR 56, jU]) (st' := [jR 56]) (hp' := hp) rfl ?_
  refine jE_callI (vs := [jR 56]) (r := []) (nx := 4) (v := jI (jb (decide (hp 56 6 = 0)))) (hp1 := hp) rfl (c_m_lacks hp hM) ?_
  refine jE_ifd_eq rfl (fun c4 => ?_) (fun c4 => ?_)
  · refine jm_Ev.bl 4 (pc' := 18) (A' := [jR 56, jU]) (st' := [jR 73, jR 58]) (hp' := hp) rfl ?_
    refine jE_call (vs := [jR 58, jR 73]) (r := []) (nx := 21) rfl (c_m_copy_58_73 hp) (fun rv18 h1 hh => ?_)
    obtain ⟨rfl, hcp, hf1⟩ := hh
    have f6 := hf1.fd 6 (by simp) (by simp)
    have f7 := hf1.fd 7 (by simp) (by simp)
    refine jm_Ev.bl 2 (pc' := 23) (A' := [jR 56, jI 0]) (st' := []) (hp' := h1) rfl ?_
    refine c_m_mirror_L hp (hp 58) (hp 56 6) (hp 56 7) (by omega) (by omega) hM.2.2.2.2 (fun z h a6 a7 hfin hr hfr => ?_) 26 0 h1 (by omega) (by omega) f6 f7 (fun j a b => hcp j a b) (fun j a b => by show -1 ≤ h1 58 j ∧ h1 58 j ≤ 4; rw [show h1 58 = hp 58 from hf1.pl 58 (by simp) (by simp)]; exact hM.2.2.2.2 j a b) (fun x y x0 x1 y0 y1 z => ?_) (hf1.wk (by simp) (by simp)) (by omega)
    · refine jm_Ev.bl 1 (pc' := 79) (A' := [jR 56, z]) (st' := [jR 56]) (hp' := h) rfl ?_
      refine jE_call (vs := [jR 56]) (r := []) (nx := 82) rfl (c_m_cornersNow h ⟨by omega, by omega, by omega, by omega, hr⟩) (fun rv79 h2 hh => ?_)
      obtain ⟨rfl, g2, g3, hf3⟩ := hh
      have e58 : h2 58 = h 58 := hf3.pl 58 (by simp) (by simp)
      refine jE_ret rfl ⟨⟨_, rfl, ?_⟩, (hf3.fd 6 (by simp) (by simp)).trans a6, (hf3.fd 7 (by simp) (by simp)).trans a7, fun x y x0 x1 y0 y1 => ?_, g2, g3, hfr.tr hf3 (by simp) (by simp) (by simp) (by simp)⟩
      · unfold jmO jmK
        rw [e58, a6, a7]
      · rw [e58, hfin x y x0 x1 y0 y1]
        exact (jgk_in (by omega) (by omega) (by omega) (by omega)).symm
    · exfalso
      have := Int.mul_nonneg y0 (show 0 ≤ hp 56 6 by omega); omega
  · refine jm_Ev.bl 1 (pc' := 9) (A' := [jR 56, jU]) (st' := [jI (-103)]) (hp' := hp) rfl ?_
    exact absurd c4 hW0
theorem c_m_mirror_0 (hp : jm_H) (hM : jMG hp) (hW0 : hp 56 6 = 0) : jm_Ev 194 0 [jR 56, jU] [] hp (jK (some (jI (-103))) hp) := by
  refine jm_Ev.bl 1 (pc' := 1) (A' := [jR 56, jU]) (st' := [jR 56]) (hp' := hp) rfl ?_
  refine jE_callI (vs := [jR 56]) (r := []) (nx := 4) (v := jI (jb (decide (hp 56 6 = 0)))) (hp1 := hp) rfl (c_m_lacks hp hM) ?_
  refine jE_ifd_eq rfl (fun c4 => ?_) (fun c4 => ?_)
  · exact absurd hW0 c4
  · refine jm_Ev.bl 1 (pc' := 9) (A' := [jR 56, jU]) (st' := [jI (-103)]) (hp' := hp) rfl ?_
    exact jE_ret rfl ⟨rfl, rfl⟩
