/-! readInto -/
def jblob (c : Int → Int) (n W H : Int) : Prop := (∃ r h w, jpst c n.toNat = some (r, h, w) ∧ 0 < h ∧ (w = 0 ∨ h = w) ∧ W = h ∧ H = r + 1) ∧ ∃ p, 0 ≤ p ∧ p < W * H ∧ jkb (c (p + p / W)) ≠ -1
theorem jcnt_pos {d : Int → Int} (n : Nat) : 0 < jcnt d n ↔ ∃ j : Int, 0 ≤ j ∧ j < n ∧ d j ≠ -1 := by
  induction n with
  | zero => simp only [jcnt]; exact ⟨fun h => absurd h (by omega), fun ⟨j, a, b, _⟩ => by omega⟩
  | succ n ih =>
    have hr := jcnt_r d n
    unfold jcnt
    by_cases h : d n = -1
    · rw [if_pos h, Int.add_zero, ih]
      constructor
      · rintro ⟨j, a, b, c⟩; exact ⟨j, a, by omega, c⟩
      · rintro ⟨j, a, b, c⟩
        have : j ≠ n := fun e => c (e ▸ h)
        exact ⟨j, a, by omega, c⟩
    · rw [if_neg h]
      exact ⟨fun _ => ⟨n, by omega, by omega, h⟩, fun _ => by omega⟩
theorem jpl {p W H : Int} (h0 : 0 ≤ p) (h1 : p < W * H) (hW : 0 < W) : 0 ≤ p / W ∧ p / W < H ∧ p + p / W + 1 < H * (W + 1) ∧ p = W * (p / W) + p % W ∧ 0 ≤ p % W ∧ p % W < W := by
  have e1 := Int.mul_ediv_add_emod p W
  have e2 := Int.emod_nonneg p (show W ≠ 0 by omega)
  have e3 := Int.emod_lt_of_pos p hW
  have e4 : 0 ≤ p / W := Int.ediv_nonneg h0 (by omega)
  have e5 : p / W < H := Int.ediv_lt_of_lt_mul hW (by rw [Int.mul_comm]; exact h1)
  have e6 : (p / W) * (W + 1) ≤ (H - 1) * (W + 1) := Int.mul_le_mul_of_nonneg_right (by omega) (by omega)
  have e7 : (p / W) * (W + 1) = W * (p / W) + p / W := by rw [Int.mul_add, Int.mul_one, Int.mul_comm]
  have e8 : (H - 1) * (W + 1) = H * (W + 1) - (W + 1) := by rw [Int.sub_mul, Int.one_mul]
  exact ⟨e4, e5, by omega, by omega, e2, e3⟩
/-- a good page that is whole -/
theorem jpst_w {c : Int → Int} {n r h w : Int} (hn : 0 ≤ n) (e : jpst c n.toNat = some (r, h, w)) (hh : 0 < h) (hw : w = 0 ∨ h = w) : n + 1 = (r + 1) * (h + 1) := by
  have q := jpst_i n.toNat e
  have q9 := q.2.2.2.2.2.2.2.2.1
  have m1 : (r + 1) * (h + 1) = r * (h + 1) + (h + 1) := by rw [Int.add_mul, Int.one_mul]
  rcases hw with rfl | rfl
  · have : r = 0 := q.2.2.2.2.2.2.1.mp rfl
    subst this
    omega
  · omega
theorem jfw {c : Int → Int} {n r h w : Int} (hn : 0 ≤ n) (e : jpst c n.toNat = some (r, h, w)) (i : Int) (a : 0 ≤ i) (b : i ≤ n) (f : ∀ j, 0 ≤ j → j < i → c j ≠ 47) (g : i < n → c i = 47) : i = if w = 0 then n else w := by
  obtain ⟨a1, a2, a3, a4, a5, a6, a7, a8, a9, a10, a11⟩ := jpst_i n.toNat e
  have en : ((n.toNat : Nat) : Int) = n := by omega
  rw [en] at a9 a10 a11
  by_cases hw : w = 0
  · rw [if_pos hw]
    by_cases hi : i < n
    · exact absurd ((a10 i a hi).mp (g hi)).1 (by omega)
    · omega
  · rw [if_neg hw]
    have hr : 1 ≤ r := by omega
    have m : 1 * (w + 1) ≤ r * (w + 1) := Int.mul_le_mul_of_nonneg_right hr (by omega)
    have hwn : w < n := by omega
    have c1 : c w = 47 := (a10 w a5 hwn).mpr ⟨hw, Int.emod_eq_of_lt (by omega) (by omega)⟩
    have h1 : i ≤ w := by
      by_cases h : i ≤ w
      · exact h
      · exact absurd c1 (f w a5 (by omega))
    have h2 : w ≤ i := by
      by_cases h : w ≤ i
      · exact h
      · have h3 := (a10 i a (by omega)).mp (g (by omega))
        rw [Int.emod_eq_of_lt (by omega) (by omega)] at h3
        omega
    omega
theorem jblob_no {c : Int → Int} {n : Int} (h : ¬ ∃ r h w, jpst c n.toNat = some (r, h, w) ∧ 0 < h ∧ (w = 0 ∨ h = w)) : ∀ W H, ¬ jblob c n W H := fun W H z => by
  obtain ⟨⟨r, x, w, a, b, d, _, _⟩, _⟩ := z
  exact h ⟨r, x, w, a, b, d⟩
/-- what readInto leaves -/
def jrdp (hp : jm_H) : Option jm_V → jm_H → Prop := fun rv h => jFr hp h [5, 6] ∧ jG h 5 6 ∧ ((∃ W H, jblob (hp 2) (hp 1 1) W H ∧ rv = some (jI 1) ∧ h 5 1 = W ∧ h 5 2 = H ∧ ∀ j, 0 ≤ j → j < W * H → h 6 j = jkb (hp 2 (j + j / W))) ∨ ((∀ W H, ¬ jblob (hp 2) (hp 1 1) W H) ∧ rv = some (jI 0)))
theorem jhs_in {h : jm_H} {k : Nat} {i v lo hi m : Int} (hc : ∀ j, 0 ≤ j → j < m → lo ≤ h k j ∧ h k j ≤ hi) (hv : lo ≤ v ∧ v ≤ hi) : ∀ j, 0 ≤ j → j < m → lo ≤ jm_hs h k i v k j ∧ jm_hs h k i v k j ≤ hi := fun j a b => by
  rw [js_hs_eq]
  split
  · exact hv
  · exact hc j a b
theorem c_p_read_L {Q : Option jm_V → jm_H → Prop} (hp : jm_H) (hP : jPg (hp 1 1) (hp 2)) (W H : Int) (hW0 : 0 < W) (hW : W ≤ 5) (hH0 : 0 ≤ H) (hH : H ≤ 5) (hWH : hp 1 1 + 1 = H * (W + 1)) (k : ∀ (h : jm_H) (z : jm_V), h 5 1 = W → h 5 2 = H → (∀ j, 0 ≤ j → j < 25 → -1 ≤ h 6 j ∧ h 6 j ≤ 4) → jFr hp h [5, 6] → (∀ j, 0 ≤ j → j < W * H → h 6 j = jkb (hp 2 (j + j / W))) → jm_Ev 80 120 [jR 1, jR 5, jI W, jI H, jI (W * H), z] [] h Q) : ∀ (n : Nat) (i : Int) (z : jm_V) (h : jm_H), 0 ≤ i → i ≤ W * H → h 5 1 = W → h 5 2 = H → (∀ j, 0 ≤ j → j < 25 → -1 ≤ h 6 j ∧ h 6 j ≤ 4) → jFr hp h [5, 6] → (∀ j, 0 ≤ j → j < i → h 6 j = jkb (hp 2 (j + j / W))) → W * H - i < n → jm_Ev 80 68 [jR 1, jR 5, jI W, jI H, jI i, z] [] h Q := by
  obtain ⟨h1, h2, h3⟩ := id hP
  have hm := jm_mulb (a := W) (b := H) (by omega) hW hH0 hH
  intro n
  induction n with
  | zero => intro i z h hi0 hi1 e1 e2 hk hf hc hn; omega
  | succ n ih =>
    intro i z h hi0 hi1 e1 e2 hk hf hc hn
    have hG5 : jG h 5 6 := ⟨by omega, by omega, by omega, by omega, hk⟩
    refine jm_Ev.bl 4 (pc' := 73) (A' := [jR 1, jR 5, jI W, jI H, jI i, z]) (st' := [jI (W * H), jI i]) (hp' := h) rfl ?_
    refine jE_icmp_ge rfl (by omega) (by omega) (fun c73 => ?_) (fun c73 => ?_)
    · have e : i = W * H := by omega
      subst e
      exact k h z e1 e2 hk hf hc
    · have hl := jpl hi0 c73 hW0
      refine jm_Ev.bl 4 (pc' := 82) (A' := [jR 1, jR 5, jI W, jI H, jI i, z]) (st' := [jI W, jI i, jI i, jR 1]) (hp' := h) rfl ?_
      refine jE_idiv rfl (by omega) (by omega) ?_
      refine jm_Ev.bl 1 (pc' := 84) (A' := [jR 1, jR 5, jI W, jI H, jI i, z]) (st' := [jI (i + (i / W)), jR 1]) (hp' := h) rfl ?_
      refine jE_callI (vs := [jR 1, jI (i + (i / W))]) (r := []) (nx := 87) (v := jI (h 2 (i + (i / W)))) (hp1 := h) rfl (c_p_codeAt h (i + (i / W)) (by omega) (by omega)) ?_
      have hcr : 1 ≤ h 2 (i + i / W) ∧ h 2 (i + i / W) ≤ 126 := by rw [hf 2 (by decide)]; exact h3 _ (by omega) (by omega)
      refine jm_Ev.bl 5 (pc' := 96) (A' := [jR 1, jR 5, jI W, jI H, jI i, jI (h 2 (i + (i / W)))]) (st' := [jI 46, jI (h 2 (i + (i / W))), jI i, jR 5]) (hp' := h) rfl ?_
      refine jE_icmp_ne rfl (by omega) (by omega) (fun c96 => ?_) (fun c96 => ?_)
      · refine jm_Ev.bl 2 (pc' := 107) (A' := [jR 1, jR 5, jI W, jI H, jI i, jI (h 2 (i + (i / W)))]) (st' := [jI (h 2 (i + (i / W))), jR 83, jI i, jR 5]) (hp' := h) rfl ?_
        refine jE_i2c rfl (by omega) ?_
        refine jE_callI (vs := [jR 83, jI (h 2 (i + (i / W)))]) (r := [jI i, jR 5]) (nx := 111) (v := jI (jkb (h 2 (i + (i / W))))) (hp1 := h) rfl (c_j_indexOf h (h 2 (i + (i / W))) (by omega)) ?_
        refine jE_callV (vs := [jR 5, jI i, jI (jkb (h 2 (i + (i / W))))]) (r := []) (nx := 114) (hp1 := (jm_hs h 6 i (jkb (h 2 (i + (i / W)))))) rfl (c_g_set_5 h hG5 _ _ hi0 (by rw [e1, e2]; exact c73)) ?_
        refine jm_Ev.bl 2 (pc' := 68) (A' := [jR 1, jR 5, jI W, jI H, jI (i + 1), jI (h 2 (i + (i / W)))]) (st' := []) (hp' := (jm_hs h 6 i (jkb (h 2 (i + (i / W)))))) rfl ?_
        have ev : jkb (h 2 (i + (i / W))) = jkb (hp 2 (i + i / W)) := by rw [hf 2 (by decide)]
        exact ih (i + 1) (jI (h 2 (i + (i / W)))) (jm_hs h 6 i (jkb (h 2 (i + (i / W))))) (by omega) (by omega) e1 e2 (jhs_in hk (by exact jkb_r _)) (hf.set (by decide)) (jhs_lt (F := fun j => jkb (hp 2 (j + j / W))) hc ev) (by omega)
      · refine jm_Ev.bl 2 (pc' := 111) (A' := [jR 1, jR 5, jI W, jI H, jI i, jI (h 2 (i + (i / W)))]) (st' := [jI (-1), jI i, jR 5]) (hp' := h) rfl ?_
        refine jE_callV (vs := [jR 5, jI i, jI (-1)]) (r := []) (nx := 114) (hp1 := (jm_hs h 6 i (-1))) rfl (c_g_set_5 h hG5 _ _ hi0 (by rw [e1, e2]; exact c73)) ?_
        refine jm_Ev.bl 2 (pc' := 68) (A' := [jR 1, jR 5, jI W, jI H, jI (i + 1), jI (h 2 (i + (i / W)))]) (st' := []) (hp' := (jm_hs h 6 i (-1))) rfl ?_
        have ev : (-1 : Int) = jkb (hp 2 (i + i / W)) := by rw [← hf 2 (by decide), c96]; rfl
        exact ih (i + 1) (jI (h 2 (i + (i / W)))) (jm_hs h 6 i (-1)) (by omega) (by omega) e1 e2 (jhs_in hk (by omega)) (hf.set (by decide)) (jhs_lt (F := fun j => jkb (hp 2 (j + j / W))) hc ev) (by omega)
theorem c_p_read_E (hp : jm_H) (r h0 w : Int) (hst : jpst (hp 2) (hp 1 1).toNat = some (r, h0, w)) (hh : 0 < h0) (hw : w = 0 ∨ h0 = w) (h : jm_H) (z : jm_V) (e1 : h 5 1 = h0) (e2 : h 5 2 = r + 1) (hk : ∀ j, 0 ≤ j → j < 25 → -1 ≤ h 6 j ∧ h 6 j ≤ 4) (hf : jFr hp h [5, 6]) (hc : ∀ j, 0 ≤ j → j < h0 * (r + 1) → h 6 j = jkb (hp 2 (j + j / h0))) : jm_Ev 80 120 [jR 1, jR 5, jI h0, jI (r + 1), jI (h0 * (r + 1)), z] [] h (jrdp hp) := by
  have q := jpst_i _ hst
  have hG5 : jG h 5 6 := ⟨by omega, by omega, by omega, by omega, hk⟩
  refine jm_Ev.bl 1 (pc' := 121) (A' := [jR 1, jR 5, jI h0, jI (r + 1), jI (h0 * (r + 1)), z]) (st' := [jR 5]) (hp' := h) rfl ?_
  refine jE_callI (vs := [jR 5]) (r := []) (nx := 124) (v := jI (jcnt (h 6) (h 5 1 * h 5 2).toNat)) (hp1 := h) rfl (c_g_dots_5 h hG5) ?_
  have hcr := jcnt_r (h 6) (h 5 1 * h 5 2).toNat
  have hcp := jcnt_pos (d := h 6) (h 5 1 * h 5 2).toNat
  rw [e1, e2] at hcp
  have hmm := jm_mulb (a := h0) (b := r + 1) (m := 5) (n := 5) (by omega) (by omega) (by omega) (by omega)
  refine jE_if_le rfl (by exact ⟨by omega, by have := jm_mulb hG5.1 hG5.2.1 hG5.2.2.1 hG5.2.2.2.1; omega⟩) (fun c124 => ?_) (fun c124 => ?_)
  · refine jm_Ev.bl 1 (pc' := 132) (A' := [jR 1, jR 5, jI h0, jI (r + 1), jI (h0 * (r + 1)), z]) (st' := [jI 0]) (hp' := h) rfl ?_
    exact jE_ret rfl ⟨hf, hG5, Or.inr ⟨fun W H z => by
      obtain ⟨⟨r1, x1, w1, a1, b1, d1, rfl, rfl⟩, j, f1, f2, f3⟩ := z
      rw [hst] at a1
      simp only [Option.some.injEq, Prod.mk.injEq] at a1
      obtain ⟨rfl, rfl, rfl⟩ := a1
      have := hcp.mpr ⟨j, f1, by omega, by rw [hc j f1 f2]; exact f3⟩
      rw [← e1, ← e2] at this
      omega, rfl⟩⟩
  · refine jm_Ev.bl 2 (pc' := 132) (A' := [jR 1, jR 5, jI h0, jI (r + 1), jI (h0 * (r + 1)), z]) (st' := [jI 1]) (hp' := h) rfl ?_
    exact jE_ret rfl ⟨hf, hG5, Or.inl ⟨h0, r + 1, ⟨⟨r, h0, w, hst, hh, hw, rfl, rfl⟩, by
      obtain ⟨j, a, b, d⟩ := hcp.mp (by rw [← e1, ← e2]; exact c124)
      exact ⟨j, a, by omega, by rw [← hc j a (by omega)]; exact d⟩⟩, rfl, e1, e2, hc⟩⟩
theorem c_p_read (hp : jm_H) (hP : jPg (hp 1 1) (hp 2)) (hG : jG hp 5 6) : jm_Ev 80 0 [jR 1, jR 5, jU, jU, jU, jU] [] hp (jrdp hp) := by
  obtain ⟨h1, h2, h3⟩ := id hP
  refine jm_Ev.bl 2 (pc' := 4) (A' := [jR 1, jR 5, jU, jU, jU, jU]) (st' := [jI (hp 1 1)]) (hp' := hp) rfl ?_
  refine jE_if_eq rfl (by omega) (fun c4 => ?_) (fun c4 => ?_)
  · refine jm_Ev.bl 1 (pc' := 19) (A' := [jR 1, jR 5, jU, jU, jU, jU]) (st' := [jI 0]) (hp' := hp) rfl ?_
    exact jE_ret rfl ⟨jFr.rf, hG, Or.inr ⟨jblob_no (fun ⟨r, h, w, a, b, d⟩ => by first | (rw [c4] at a; simp [jpst] at a; omega) | (have := jflt_b (c := hp 2) (hp 1 1).toNat (by rw [a]; simp); omega)), rfl⟩⟩
  · refine jm_Ev.bl 1 (pc' := 8) (A' := [jR 1, jR 5, jU, jU, jU, jU]) (st' := [jR 1]) (hp' := hp) rfl ?_
    refine jE_callI (vs := [jR 1]) (r := []) (nx := 11) (v := jI (jflt (hp 2) (hp 1 1).toNat)) (hp1 := hp) rfl (c_p_fault hp hP) ?_
    refine jm_Ev.bl 2 (pc' := 15) (A' := [jR 1, jR 5, jU, jU, jU, jU]) (st' := [jI (hp 1 1), jI (jflt (hp 2) (hp 1 1).toNat)]) (hp' := hp) rfl ?_
    have hfr := jflt_r (c := hp 2) (hp 1 1).toNat
    refine jE_icmp_ge rfl (by omega) (by omega) (fun c15 => ?_) (fun c15 => ?_)
    · have hst0 : jpst (hp 2) (hp 1 1).toNat ≠ none := fun z => by have := jflt_lt _ z; omega
      obtain ⟨⟨r, h0, w⟩, hst⟩ := Option.ne_none_iff_exists'.mp hst0
      obtain ⟨a1, a2, a3, a4, a5, a6, a7, a8, a9, a10, a11⟩ := jpst_i _ hst
      have en : (((hp 1 1).toNat : Nat) : Int) = hp 1 1 := by omega
      rw [en] at a9
      obtain ⟨FW, hFW⟩ : ∃ z, z = if w = 0 then hp 1 1 else w := ⟨_, rfl⟩
      have hF0 : 1 ≤ FW ∧ FW ≤ 5 := by
        by_cases hw : w = 0
        · rw [if_pos hw] at hFW
          have := a7.mp hw
          subst this
          omega
        · rw [if_neg hw] at hFW; omega
      refine jm_Ev.bl 1 (pc' := 21) (A' := [jR 1, jR 5, jU, jU, jU, jU]) (st' := [jR 1]) (hp' := hp) rfl ?_
      refine jE_callI (vs := [jR 1]) (r := []) (nx := 24) (v := jI FW) (hp1 := hp) rfl (c_p_firstRow hp hP FW ⟨trivial, fun i a b f g => (jfw h1 hst i a b f g).trans hFW.symm⟩) ?_
      refine jm_Ev.bl 3 (pc' := 27) (A' := [jR 1, jR 5, jI FW, jU, jU, jU]) (st' := [jI 1, jI FW]) (hp' := hp) rfl ?_
      refine jE_icmp_ge rfl (by omega) (by omega) (fun c27 => ?_) (fun c27 => ?_)
      · refine jm_Ev.bl 7 (pc' := 41) (A' := [jR 1, jR 5, jI FW, jU, jU, jU]) (st' := [jI (FW + 1), jI ((hp 1 1) + 1)]) (hp' := hp) rfl ?_
        refine jE_idiv rfl (by omega) (by omega) ?_
        refine jm_Ev.bl 1 (pc' := 43) (A' := [jR 1, jR 5, jI FW, jI (((hp 1 1) + 1) / (FW + 1)), jU, jU]) (st' := []) (hp' := hp) rfl ?_
        have d1 := Int.mul_ediv_add_emod (hp 1 1 + 1) (FW + 1)
        have d2 := Int.emod_nonneg (hp 1 1 + 1) (show FW + 1 ≠ 0 by omega)
        have d3 := Int.emod_lt_of_pos (hp 1 1 + 1) (show 0 < FW + 1 by omega)
        have d4 : (hp 1 1 + 1) / (FW + 1) ≤ hp 1 1 + 1 := Int.ediv_le_self _ (by omega)
        have d5 : 0 ≤ (hp 1 1 + 1) / (FW + 1) := Int.ediv_nonneg (by omega) (by omega)
        have d6 : (hp 1 1 + 1) / (FW + 1) * (FW + 1) = (FW + 1) * ((hp 1 1 + 1) / (FW + 1)) := Int.mul_comm _ _
        refine jm_Ev.bl 9 (pc' := 54) (A' := [jR 1, jR 5, jI FW, jI (((hp 1 1) + 1) / (FW + 1)), jU, jU]) (st' := [jI ((hp 1 1) + 1), jI ((((hp 1 1) + 1) / (FW + 1)) * (FW + 1))]) (hp' := hp) rfl ?_
        refine jE_icmp_eq rfl (by omega) (by omega) (fun c54 => ?_) (fun c54 => ?_)
        · have key : h0 = FW ∧ (hp 1 1 + 1) / (FW + 1) = r + 1 := by
            by_cases hw : w = 0
            · rw [if_pos hw] at hFW
              have := a7.mp hw
              subst this
              have e0 : h0 = FW := by omega
              refine ⟨e0, ?_⟩
              rw [← hFW, Int.ediv_self (by omega)]; omega
            · rw [if_neg hw] at hFW
              subst hFW
              have e0 : h0 = FW := by
                by_cases hlt : h0 = FW
                · exact hlt
                · have : (hp 1 1 + 1) % (FW + 1) = h0 + 1 := by
                    rw [a9, Int.add_assoc, Int.add_comm, Int.add_mul_emod_self_right]
                    exact Int.emod_eq_of_lt (by omega) (by omega)
                  omega
              refine ⟨e0, ?_⟩
              have m1 : (r + 1) * (FW + 1) = r * (FW + 1) + (FW + 1) := by rw [Int.add_mul, Int.one_mul]
              have : hp 1 1 + 1 = (r + 1) * (FW + 1) := by omega
              rw [this, Int.mul_ediv_cancel _ (by omega)]
          obtain ⟨k1, k2⟩ := key
          have hwz : w = 0 ∨ h0 = w := by
            by_cases hw : w = 0
            · exact Or.inl hw
            · rw [if_neg hw] at hFW; exact Or.inr (by omega)
          have hWH := jpst_w h1 hst (by omega) hwz
          refine jm_Ev.bl 3 (pc' := 62) (A' := [jR 1, jR 5, jI FW, jI (((hp 1 1) + 1) / (FW + 1)), jU, jU]) (st' := [jI (((hp 1 1) + 1) / (FW + 1)), jI FW, jR 5]) (hp' := hp) rfl ?_
          refine jE_call (vs := [jR 5, jI FW, jI (((hp 1 1) + 1) / (FW + 1))]) (r := []) (nx := 65) rfl (c_g_clear_5 hp FW ((hp 1 1 + 1) / (FW + 1))) (fun rv62 h hq => ?_)
          obtain ⟨rfl, qa, qb, qc, qd⟩ := hq
          refine jm_Ev.bl 2 (pc' := 68) (A' := [jR 1, jR 5, jI FW, jI (((hp 1 1) + 1) / (FW + 1)), jI 0, jU]) (st' := []) (hp' := h) rfl ?_
          rw [k2] at qb ⊢
          subst k1
          exact c_p_read_L hp hP h0 (r + 1) (by omega) (by omega) (by omega) (by omega) hWH (fun h z b1 b2 b3 b4 b5 => c_p_read_E hp r h0 w hst (by omega) hwz h z b1 b2 b3 b4 b5) 26 0 _ h (by omega) (by have := jm_mulb (a := h0) (b := r + 1) (m := 5) (n := 5) (by omega) (by omega) (by omega) (by omega); omega) qa qb (fun j a b => by rw [qc j a b]; omega) qd (fun j a b => by omega) (by have := jm_mulb (a := h0) (b := r + 1) (m := 5) (n := 5) (by omega) (by omega) (by omega) (by omega); omega)
        · refine jm_Ev.bl 1 (pc' := 58) (A' := [jR 1, jR 5, jI FW, jI (((hp 1 1) + 1) / (FW + 1)), jU, jU]) (st' := [jI 0]) (hp' := hp) rfl ?_
          refine jE_ret rfl ⟨jFr.rf, hG, Or.inr ⟨jblob_no (fun ⟨r', h', w', a, b, d⟩ => ?_), rfl⟩⟩
          rw [hst] at a
          simp only [Option.some.injEq, Prod.mk.injEq] at a
          obtain ⟨rfl, rfl, rfl⟩ := a
          have hWH := jpst_w h1 hst b d
          have : FW = h0 := by
            by_cases hw : w = 0
            · rw [if_pos hw] at hFW
              have := a7.mp hw
              subst this
              omega
            · rw [if_neg hw] at hFW; omega
          subst this
          refine c54 ?_
          rw [hWH, Int.mul_ediv_cancel _ (by omega)]
      · refine jm_Ev.bl 1 (pc' := 31) (A' := [jR 1, jR 5, jI FW, jU, jU, jU]) (st' := [jI 0]) (hp' := hp) rfl ?_
        exfalso; omega
    · refine jm_Ev.bl 1 (pc' := 19) (A' := [jR 1, jR 5, jU, jU, jU, jU]) (st' := [jI 0]) (hp' := hp) rfl ?_
      exact jE_ret rfl ⟨jFr.rf, hG, Or.inr ⟨jblob_no (fun ⟨r, h, w, a, b, d⟩ => by first | (rw [c4] at a; simp [jpst] at a; omega) | (have := jflt_b (c := hp 2) (hp 1 1).toNat (by rw [a]; simp); omega)), rfl⟩⟩
