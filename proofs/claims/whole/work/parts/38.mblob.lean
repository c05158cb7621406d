/-! the model's blob -/
theorem jdiv_eq {a b q r : Int} (h : a = b * q + r) (h0 : 0 ≤ r) (h1 : r < b) : a / b = q := by
  rw [h, Int.add_comm, Int.add_mul_ediv_left _ _ (by omega), Int.ediv_eq_zero_of_lt h0 h1]; omega
theorem jmod_eq {a b q r : Int} (h : a = b * q + r) (h0 : 0 ≤ r) (h1 : r < b) : a % b = r := by
  rw [h, Int.add_comm, Int.add_mul_emod_self_left]; exact Int.emod_eq_of_lt h0 h1
theorem jat {k W : Int} (hk : 0 ≤ k) (hW : 0 < W) : (k % (W + 1) = W → (k + 1) / (W + 1) = k / (W + 1) + 1) ∧ (k % (W + 1) ≠ W → (k + 1) / (W + 1) = k / (W + 1) ∧ (k - k / (W + 1)) / W = k / (W + 1)) ∧ 0 ≤ k / (W + 1) ∧ k / (W + 1) ≤ k := by
  have e1 := Int.mul_ediv_add_emod k (W + 1)
  have e2 := Int.emod_nonneg k (show W + 1 ≠ 0 by omega)
  have e3 := Int.emod_lt_of_pos k (show 0 < W + 1 by omega)
  have m1 : (W + 1) * (k / (W + 1) + 1) = (W + 1) * (k / (W + 1)) + (W + 1) := by rw [Int.mul_add, Int.mul_one]
  have m2 : (W + 1) * (k / (W + 1)) = W * (k / (W + 1)) + k / (W + 1) := by rw [Int.add_mul, Int.one_mul]
  refine ⟨fun h => jdiv_eq (r := 0) (by omega) (by omega) (by omega), fun h => ⟨jdiv_eq (r := k % (W + 1) + 1) (by omega) (by omega) (by omega), jdiv_eq (r := k % (W + 1)) (by omega) (by omega) (by omega)⟩, Int.ediv_nonneg hk (by omega), Int.ediv_le_self _ hk⟩
/-- the letters of a whole page: where the slashes are -/
theorem jpst_v {c : Int → Int} {n r h w : Int} (hn : 0 ≤ n) (e : jpst c n.toNat = some (r, h, w)) (hh : 0 < h) (hw : w = 0 ∨ h = w) : ∀ j, 0 ≤ j → j < n → (c j = 47 ↔ j % (h + 1) = h) := by
  obtain ⟨a1, a2, a3, a4, a5, a6, a7, a8, a9, a10, a11⟩ := jpst_i n.toNat e
  have en : ((n.toNat : Nat) : Int) = n := by omega
  rw [en] at a9 a10
  intro j b1 b2
  by_cases h0 : w = 0
  · have hr := a7.mp h0
    subst h0 hr
    have : j < h := by omega
    rw [a10 j b1 b2, Int.emod_eq_of_lt (a := j) (b := h + 1) b1 (by omega)]
    omega
  · have : h = w := by omega
    subst this
    rw [a10 j b1 b2]
    exact ⟨fun z => z.2, fun z => ⟨h0, z⟩⟩
/-- a dot among the letters is a dot among the places -/
theorem jdots_iff {c : Int → Int} {n r h w : Int} (hn : 0 ≤ n) (e : jpst c n.toNat = some (r, h, w)) (hh : 0 < h) (hw : w = 0 ∨ h = w) : 0 < jcnt (fun j => jkb (c j)) n.toNat ↔ ∃ p, 0 ≤ p ∧ p < h * (r + 1) ∧ jkb (c (p + p / h)) ≠ -1 := by
  have q := jpst_i _ e
  have hs := jpst_v hn e hh hw
  have hnn := jpst_w hn e hh hw
  rw [jcnt_pos]
  constructor
  · rintro ⟨j, a, b, d⟩
    have hne : j % (h + 1) ≠ h := fun z => d (by rw [(hs j a (by omega)).mpr z]; rfl)
    have t := jat a hh
    have t2 := t.2.1 hne
    have e1 := Int.mul_ediv_add_emod j (h + 1)
    have e2 := Int.emod_nonneg j (show h + 1 ≠ 0 by omega)
    have e3 := Int.emod_lt_of_pos j (show 0 < h + 1 by omega)
    have hy : j / (h + 1) < r + 1 := Int.ediv_lt_of_lt_mul (by omega) (by omega)
    have m2 : (h + 1) * (j / (h + 1)) = h * (j / (h + 1)) + j / (h + 1) := by rw [Int.add_mul, Int.one_mul]
    have m3 : h * (j / (h + 1)) ≤ h * r := Int.mul_le_mul_of_nonneg_left (by omega) (by omega)
    have m4 : h * (r + 1) = h * r + h := by rw [Int.mul_add, Int.mul_one]
    refine ⟨j - j / (h + 1), by omega, by omega, ?_⟩
    rw [t2.2, show j - j / (h + 1) + j / (h + 1) = j by omega]
    exact d
  · rintro ⟨p, a, b, d⟩
    have t := jpl a b hh
    have m4 : (r + 1) * (h + 1) = (r + 1) * (h + 1) := rfl
    exact ⟨p + p / h, by omega, by omega, d⟩
/-- what blob leaves -/
def jmbp (hp : jm_H) : Option jm_V → jm_H → Prop := fun rv h =>
  (∃ W H, jblob (hp 57) (hp 56 1) W H ∧ rv = some (jI (jcnt (h 58) (W * H).toNat)) ∧ jMG h ∧ h 56 6 = W ∧ h 56 7 = H ∧ (∀ j, 0 ≤ j → j < W * H → h 58 j = jkb (hp 57 (j + j / W))) ∧ h 56 30 = 0 ∧ h 56 8 = hp 56 8 + 1 ∧ h 56 1 = 0 ∧ h 56 10 = 1 ∧ (∀ j, 0 ≤ j → j < 15 → h 74 j = -1) ∧ jFq hp h [58, 74] [1, 2, 3, 4, 5, 6, 7, 8, 10, 30])
  ∨ ((∀ W H, ¬ jblob (hp 57) (hp 56 1) W H) ∧ rv = some (jI (-103)) ∧ jFq hp h [] [2, 3, 4, 5])
theorem c_m_blob_L {Q : Option jm_V → jm_H → Prop} (hp : jm_H) (hP : jPg (hp 56 1) (hp 57)) (W H : Int) (hW0 : 0 < W) (hW : W ≤ 5) (hH0 : 0 < H) (hH : H ≤ 5) (hWH : hp 56 1 + 1 = H * (W + 1)) (hsl : ∀ j, 0 ≤ j → j < hp 56 1 → (hp 57 j = 47 ↔ j % (W + 1) = W)) (k : ∀ (h : jm_H), h 56 6 = W → h 56 7 = H → (∀ j, 0 ≤ j → j < 25 → -1 ≤ h 58 j ∧ h 58 j ≤ 4) → jFq hp h [58] [2, 3, 4, 5, 6, 7] → (∀ j, 0 ≤ j → j < W * H → h 58 j = jkb (hp 57 (j + j / W))) → jm_Ev 141 121 [jR 56, jI 1, jI (W * H), jI (hp 56 1)] [] h Q) : ∀ (n : Nat) (i a : Int) (h : jm_H), 0 ≤ i → i ≤ hp 56 1 → a = i - i / (W + 1) → h 56 6 = W → h 56 7 = H → (∀ j, 0 ≤ j → j < 25 → -1 ≤ h 58 j ∧ h 58 j ≤ 4) → jFq hp h [58] [2, 3, 4, 5, 6, 7] → (∀ j, 0 ≤ j → j < a → h 58 j = jkb (hp 57 (j + j / W))) → hp 56 1 - i < n → jm_Ev 141 78 [jR 56, jI 1, jI a, jI i] [] h Q := by
  obtain ⟨h1, h2, h3⟩ := id hP
  have hm := jm_mulb (a := W) (b := H) (by omega) hW (by omega) hH
  intro n
  induction n with
  | zero => intro i a h hi0 hi1 ha e6 e7 hk hf hc hn; omega
  | succ n ih =>
    intro i a h hi0 hi1 ha e6 e7 hk hf hc hn
    have e1 := hf.fd 1 (by decide) (by decide)
    have e57 := hf.pl 57 (by decide) (by decide)
    have t0 := jat hi0 hW0
    refine jm_Ev.bl 3 (pc' := 83) (A' := [jR 56, jI 1, jI a, jI i]) (st' := [jI (h 56 1), jI i]) (hp' := h) rfl ?_
    refine jE_icmp_ge rfl (by omega) (by omega) (fun c83 => ?_) (fun c83 => ?_)
    · have e : i = hp 56 1 := by omega
      subst e
      have hat : a = W * H := by
        have : hp 56 1 / (W + 1) = H - 1 := jdiv_eq (r := W) (by rw [Int.mul_sub, Int.mul_one, Int.mul_comm]; omega) (by omega) (by omega)
        have m : H * (W + 1) = W * H + H := by rw [Int.mul_add, Int.mul_one, Int.mul_comm]
        omega
      subst hat
      exact k h e6 e7 hk hf hc
    · have t := jat hi0 hW0
      have hcr : 1 ≤ h 57 i ∧ h 57 i ≤ 126 := by rw [e57]; exact h3 i hi0 (by omega)
      have hb25 : i % (W + 1) ≠ W → a < 25 := fun z => by
        have v1 := Int.mul_ediv_add_emod i (W + 1)
        have v2 := Int.emod_nonneg i (show W + 1 ≠ 0 by omega)
        have v3 := Int.emod_lt_of_pos i (show 0 < W + 1 by omega)
        have hy : i / (W + 1) < H := Int.ediv_lt_of_lt_mul (by omega) (by omega)
        have m2 : (W + 1) * (i / (W + 1)) = W * (i / (W + 1)) + i / (W + 1) := by rw [Int.add_mul, Int.one_mul]
        have m3 : W * (i / (W + 1)) ≤ W * (H - 1) := Int.mul_le_mul_of_nonneg_left (by omega) (by omega)
        have m4 : W * (H - 1) = W * H - W := by rw [Int.mul_sub, Int.mul_one]
        omega
      refine jm_Ev.bl 3 (pc' := 91) (A' := [jR 56, jI 1, jI a, jI i]) (st' := [jI i, jR 57]) (hp' := h) rfl ?_
      refine jE_iald (n := 32) (f := h 57) rfl rfl (by omega) ?_
      refine jm_Ev.bl 1 (pc' := 94) (A' := [jR 56, jI 1, jI a, jI i]) (st' := [jI 47, jI (h 57 i)]) (hp' := h) rfl ?_
      refine jE_icmp_eq rfl (by omega) (by omega) (fun c94 => ?_) (fun c94 => ?_)
      · refine jm_Ev.bl 2 (pc' := 78) (A' := [jR 56, jI 1, jI a, jI (i + 1)]) (st' := []) (hp' := h) rfl ?_
        exact ih (i + 1) a h (by omega) (by omega) (by have := t.1 ((hsl i hi0 (by omega)).mp (by rw [← e57]; exact c94)); omega) e6 e7 hk hf hc (by omega)
      · refine jm_Ev.bl 6 (pc' := 107) (A' := [jR 56, jI 1, jI a, jI i]) (st' := [jI i, jR 57, jI a, jR 58]) (hp' := h) rfl ?_
        refine jE_iald (n := 32) (f := h 57) rfl rfl (by omega) ?_
        refine jE_callI (vs := [jI (h 57 i)]) (r := [jI a, jR 58]) (nx := 111) (v := jI (jkb (h 57 i))) (hp1 := h) rfl (c_m_kindBy h (h 57 i) (by omega)) ?_
        refine jE_iast (n := 25) rfl rfl (by exact ⟨by omega, hb25 (fun z => c94 (by rw [e57]; exact (hsl i hi0 (by omega)).mpr z)), by omega⟩) ?_
        refine jm_Ev.bl 3 (pc' := 78) (A' := [jR 56, jI 1, jI (a + 1), jI (i + 1)]) (st' := []) (hp' := (jm_hs h 58 a (jkb (h 57 i)))) rfl ?_
        have t2 := t.2.1 (fun z => c94 (by rw [e57]; exact (hsl i hi0 (by omega)).mpr z))
        exact ih (i + 1) (a + 1) (jm_hs h 58 a (jkb (h 57 i))) (by omega) (by omega) (by omega) e6 e7 (jhs_in hk (jkb_r _)) (hf.set (by decide)) (jhs_lt (F := fun j => jkb (hp 57 (j + j / W))) hc (by rw [ha, t2.2, e57, show i - i / (W + 1) + i / (W + 1) = i by omega])) (by omega)
theorem c_m_blob_E (hp : jm_H) (W H : Int) (hbl : jblob (hp 57) (hp 56 1) W H) (hW0 : 0 < W) (hW : W ≤ 5) (hH0 : 0 < H) (hH : H ≤ 5) (h3 : jm_H) (e6 : h3 56 6 = W) (e7 : h3 56 7 = H) (hk : ∀ j, 0 ≤ j → j < 25 → -1 ≤ h3 58 j ∧ h3 58 j ≤ 4) (hf3 : jFq hp h3 [58] [2, 3, 4, 5, 6, 7]) (hc : ∀ j, 0 ≤ j → j < W * H → h3 58 j = jkb (hp 57 (j + j / W))) : jm_Ev 141 121 [jR 56, jI 1, jI (W * H), jI (hp 56 1)] [] h3 (jmbp hp) := by
  refine jm_Ev.bl 13 (pc' := 142) (A' := [jR 56, jI 1, jI (W * H), jI (hp 56 1)]) (st' := [jR 56]) (hp' := (jm_hs (jm_hs (jm_hs h3 56 30 0) 56 8 ((h3 56 8) + 1)) 56 1 0)) rfl ?_
  refine jE_call (vs := [jR 56]) (r := []) (nx := 145) rfl (c_m_changed (jm_hs (jm_hs (jm_hs h3 56 30 0) 56 8 ((h3 56 8) + 1)) 56 1 0)) (fun rv142 h2 hq2 => ?_)
  obtain ⟨rfl, g11, g10, g74, gf⟩ := hq2
  have eW : h2 56 6 = W := by rw [gf.fd 6 (by decide) (by decide)]; exact e6
  have eH : h2 56 7 = H := by rw [gf.fd 7 (by decide) (by decide)]; exact e7
  have g58 : h2 58 = h3 58 := gf.pl 58 (by decide) (by decide)
  have hM2 : jMG h2 := ⟨by omega, by omega, by omega, by omega, by rw [g58]; exact hk⟩
  refine jm_Ev.bl 1 (pc' := 146) (A' := [jR 56, jI 1, jI (W * H), jI (hp 56 1)]) (st' := [jR 56]) (hp' := h2) rfl ?_
  refine jE_callI (vs := [jR 56]) (r := []) (nx := 149) (v := jI (jcnt (h2 58) (h2 56 6 * h2 56 7).toNat)) (hp1 := h2) rfl (c_m_dotMany h2 hM2) ?_
  exact jE_ret rfl (Or.inl ⟨W, H, hbl, by rw [eW, eH], hM2, eW, eH, fun j a b => by rw [g58]; exact hc j a b, gf.fd 30 (by decide) (by decide), by rw [gf.fd 8 (by decide) (by decide)]; show h3 56 8 + 1 = _; rw [hf3.fd 8 (by decide) (by decide)], gf.fd 1 (by decide) (by decide), g10, g74, (((hf3.wk (V := [58, 74]) (E := [1, 2, 3, 4, 5, 6, 7, 8, 10, 30]) (by decide) (by decide)).sf (by decide)).sf (by decide)).sf (by decide) |>.tr gf (by simp) (by simp) (by simp) (by simp)⟩)
theorem c_m_blob (hp : jm_H) (hP : jPg (hp 56 1) (hp 57)) (hM : jMG hp) : jm_Ev 141 0 [jR 56, jU, jU, jU] [] hp (jmbp hp) := by
  obtain ⟨h1, h2, h3⟩ := id hP
  refine jm_Ev.bl 1 (pc' := 1) (A' := [jR 56, jU, jU, jU]) (st' := [jR 56]) (hp' := hp) rfl ?_
  refine jE_call (vs := [jR 56]) (r := []) (nx := 4) rfl (c_m_faultOf hp hP) (fun rv1 h hq => ?_)
  obtain ⟨rfl, hf, hq⟩ := hq
  have hfr := jflt_r (c := hp 57) (hp 56 1).toNat
  have e1 := hf.fd 1 (by decide) (by decide)
  have e57 := hf.pl 57 (by decide) (by decide)
  refine jm_Ev.bl 2 (pc' := 8) (A' := [jR 56, jU, jU, jU]) (st' := [jI (h 56 1), jI (jflt (hp 57) (hp 56 1).toNat)]) (hp' := h) rfl ?_
  refine jE_icmp_ne rfl (by omega) (by omega) (fun c8 => ?_) (fun c8 => ?_)
  · refine jm_Ev.bl 3 (pc' := 50) (A' := [jR 56, jI 0, jU, jU]) (st' := [jI 0]) (hp' := h) rfl ?_
    refine jE_if_ne rfl (by omega) (fun c50 => absurd c50 (by omega)) (fun _ => ?_)
    refine jm_Ev.bl 1 (pc' := 55) (A' := [jR 56, jI 0, jU, jU]) (st' := [jI (-103)]) (hp' := h) rfl ?_
    refine jE_ret rfl (Or.inr ⟨fun W H z => ?_, rfl, hf⟩)
    obtain ⟨⟨r', x', w', a, b, d, eW', eH'⟩, hdot⟩ := z
    rw [eW', eH'] at hdot
    have hb := hq r' x' w' a
    have := jflt_b (c := hp 57) (hp 56 1).toNat (by rw [a]; simp)
    have hd := (jdots_iff h1 a b d).mpr hdot
    rw [← hb.2.2.2] at hd
    omega
  · have hst0 : jpst (hp 57) (hp 56 1).toNat ≠ none := fun z => by have := jflt_lt _ z; omega
    obtain ⟨⟨r, x, w⟩, hst⟩ := Option.ne_none_iff_exists'.mp hst0
    obtain ⟨b3, b4, b2, b5⟩ := hq r x w hst
    have q := jpst_i _ hst
    have hcr := jcnt_r (fun j => jkb (hp 57 j)) (hp 56 1).toNat
    refine jm_Ev.bl 2 (pc' := 15) (A' := [jR 56, jU, jU, jU]) (st' := [jI (h 56 4)]) (hp' := h) rfl ?_
    refine jE_if_le rfl (by omega) (fun c15 => ?_) (fun c15 => ?_)
    · refine jm_Ev.bl 3 (pc' := 50) (A' := [jR 56, jI 0, jU, jU]) (st' := [jI 0]) (hp' := h) rfl ?_
      refine jE_if_ne rfl (by omega) (fun c50 => absurd c50 (by omega)) (fun _ => ?_)
      refine jm_Ev.bl 1 (pc' := 55) (A' := [jR 56, jI 0, jU, jU]) (st' := [jI (-103)]) (hp' := h) rfl ?_
      refine jE_ret rfl (Or.inr ⟨fun W H z => ?_, rfl, hf⟩)
      obtain ⟨⟨r', x', w', a, b, d, eW', eH'⟩, hdot⟩ := z
      rw [eW', eH'] at hdot
      have hb := hq r' x' w' a
      have := jflt_b (c := hp 57) (hp 56 1).toNat (by rw [a]; simp)
      have hd := (jdots_iff h1 a b d).mpr hdot
      rw [← hb.2.2.2] at hd
      omega
    · refine jm_Ev.bl 2 (pc' := 22) (A' := [jR 56, jU, jU, jU]) (st' := [jI (h 56 2)]) (hp' := h) rfl ?_
      refine jE_if_eq rfl (by omega) (fun c22 => ?_) (fun c22 => ?_)
      · refine jm_Ev.bl 2 (pc' := 40) (A' := [jR 56, jU, jU, jU]) (st' := [jI (h 56 5)]) (hp' := h) rfl ?_
        refine jE_if_le rfl (by omega) (fun c40 => ?_) (fun c40 => ?_)
        · refine jm_Ev.bl 3 (pc' := 50) (A' := [jR 56, jI 0, jU, jU]) (st' := [jI 0]) (hp' := h) rfl ?_
          refine jE_if_ne rfl (by omega) (fun c50 => absurd c50 (by omega)) (fun _ => ?_)
          refine jm_Ev.bl 1 (pc' := 55) (A' := [jR 56, jI 0, jU, jU]) (st' := [jI (-103)]) (hp' := h) rfl ?_
          refine jE_ret rfl (Or.inr ⟨fun W H z => ?_, rfl, hf⟩)
          obtain ⟨⟨r', x', w', a, b, d, eW', eH'⟩, hdot⟩ := z
          rw [eW', eH'] at hdot
          have hb := hq r' x' w' a
          have := jflt_b (c := hp 57) (hp 56 1).toNat (by rw [a]; simp)
          have hd := (jdots_iff h1 a b d).mpr hdot
          rw [← hb.2.2.2] at hd
          omega
        · refine jm_Ev.bl 4 (pc' := 50) (A' := [jR 56, jI 1, jU, jU]) (st' := [jI 1]) (hp' := h) rfl ?_
          refine jE_if_ne rfl (by omega) (fun _ => ?_) (fun c50 => absurd c50 (by omega))
          refine jm_Ev.bl 14 (pc' := 78) (A' := [jR 56, jI 1, jI 0, jI 0]) (st' := []) (hp' := (jm_hs (jm_hs h 56 6 (h 56 4)) 56 7 ((h 56 3) + 1))) rfl ?_
          have hwz : w = 0 ∨ x = w := by omega
          have hWH := jpst_w h1 hst (by omega) hwz
          have hbl : jblob (hp 57) (hp 56 1) x (r + 1) := ⟨⟨r, x, w, hst, by omega, hwz, rfl, rfl⟩, (jdots_iff h1 hst (by omega) hwz).mp (by rw [← b5]; exact c40)⟩
          exact c_m_blob_L hp hP x (r + 1) (by omega) (by omega) (by omega) (by omega) hWH (jpst_v h1 hst (by omega) hwz) (fun h3 u1 u2 u3 u4 u5 => c_m_blob_E hp x (r + 1) hbl (by omega) (by omega) (by omega) (by omega) h3 u1 u2 u3 u4 u5) 33 0 0 _ (by omega) (by omega) (by rw [Int.zero_ediv]; omega) b4 (by rw [← b3]; rfl) (by rw [show (jm_hs (jm_hs h 56 6 (h 56 4)) 56 7 ((h 56 3) + 1)) 58 = h 58 from rfl, hf.pl 58 (by decide) (by decide)]; exact hM.2.2.2.2) (((hf.wk (V := [58]) (E := [2, 3, 4, 5, 6, 7]) (by decide) (by decide)).sf (by decide)).sf (by decide)) (fun j a b => by omega) (by omega)
      · refine jm_Ev.bl 4 (pc' := 33) (A' := [jR 56, jU, jU, jU]) (st' := [jI (h 56 2), jI (h 56 4)]) (hp' := h) rfl ?_
        refine jE_icmp_ne rfl (by omega) (by omega) (fun c33 => ?_) (fun c33 => ?_)
        · refine jm_Ev.bl 3 (pc' := 50) (A' := [jR 56, jI 0, jU, jU]) (st' := [jI 0]) (hp' := h) rfl ?_
          refine jE_if_ne rfl (by omega) (fun c50 => absurd c50 (by omega)) (fun _ => ?_)
          refine jm_Ev.bl 1 (pc' := 55) (A' := [jR 56, jI 0, jU, jU]) (st' := [jI (-103)]) (hp' := h) rfl ?_
          refine jE_ret rfl (Or.inr ⟨fun W H z => ?_, rfl, hf⟩)
          obtain ⟨⟨r', x', w', a, b, d, eW', eH'⟩, hdot⟩ := z
          rw [eW', eH'] at hdot
          have hb := hq r' x' w' a
          have := jflt_b (c := hp 57) (hp 56 1).toNat (by rw [a]; simp)
          have hd := (jdots_iff h1 a b d).mpr hdot
          rw [← hb.2.2.2] at hd
          omega
        · refine jm_Ev.bl 2 (pc' := 40) (A' := [jR 56, jU, jU, jU]) (st' := [jI (h 56 5)]) (hp' := h) rfl ?_
          refine jE_if_le rfl (by omega) (fun c40 => ?_) (fun c40 => ?_)
          · refine jm_Ev.bl 3 (pc' := 50) (A' := [jR 56, jI 0, jU, jU]) (st' := [jI 0]) (hp' := h) rfl ?_
            refine jE_if_ne rfl (by omega) (fun c50 => absurd c50 (by omega)) (fun _ => ?_)
            refine jm_Ev.bl 1 (pc' := 55) (A' := [jR 56, jI 0, jU, jU]) (st' := [jI (-103)]) (hp' := h) rfl ?_
            refine jE_ret rfl (Or.inr ⟨fun W H z => ?_, rfl, hf⟩)
            obtain ⟨⟨r', x', w', a, b, d, eW', eH'⟩, hdot⟩ := z
            rw [eW', eH'] at hdot
            have hb := hq r' x' w' a
            have := jflt_b (c := hp 57) (hp 56 1).toNat (by rw [a]; simp)
            have hd := (jdots_iff h1 a b d).mpr hdot
            rw [← hb.2.2.2] at hd
            omega
          · refine jm_Ev.bl 4 (pc' := 50) (A' := [jR 56, jI 1, jU, jU]) (st' := [jI 1]) (hp' := h) rfl ?_
            refine jE_if_ne rfl (by omega) (fun _ => ?_) (fun c50 => absurd c50 (by omega))
            refine jm_Ev.bl 14 (pc' := 78) (A' := [jR 56, jI 1, jI 0, jI 0]) (st' := []) (hp' := (jm_hs (jm_hs h 56 6 (h 56 4)) 56 7 ((h 56 3) + 1))) rfl ?_
            have hwz : w = 0 ∨ x = w := by omega
            have hWH := jpst_w h1 hst (by omega) hwz
            have hbl : jblob (hp 57) (hp 56 1) x (r + 1) := ⟨⟨r, x, w, hst, by omega, hwz, rfl, rfl⟩, (jdots_iff h1 hst (by omega) hwz).mp (by rw [← b5]; exact c40)⟩
            exact c_m_blob_L hp hP x (r + 1) (by omega) (by omega) (by omega) (by omega) hWH (jpst_v h1 hst (by omega) hwz) (fun h3 u1 u2 u3 u4 u5 => c_m_blob_E hp x (r + 1) hbl (by omega) (by omega) (by omega) (by omega) h3 u1 u2 u3 u4 u5) 33 0 0 _ (by omega) (by omega) (by rw [Int.zero_ediv]; omega) b4 (by rw [← b3]; rfl) (by rw [show (jm_hs (jm_hs h 56 6 (h 56 4)) 56 7 ((h 56 3) + 1)) 58 = h 58 from rfl, hf.pl 58 (by decide) (by decide)]; exact hM.2.2.2.2) (((hf.wk (V := [58]) (E := [2, 3, 4, 5, 6, 7]) (by decide) (by decide)).sf (by decide)).sf (by decide)) (fun j a b => by omega) (by omega)
