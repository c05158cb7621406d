/-! the law -/
theorem jE_lcmp_s {x pc nx tg : Nat} {A r : List jm_V} {hp : jm_H} {Q : Option jm_V → jm_H → Prop} {a : Int} (hf : jm_fe x pc = some (.lcmp, nx, tg)) (k : jm_Ev x nx A (jI 0 :: r) hp Q) : jm_Ev x pc A (jL a :: jL a :: r) hp Q := by
  refine jE_in (i := .lcmp) hf rfl ?_
  rw [show jm_lc (jm_w64 a) (jm_w64 a) = 0 by unfold jm_lc; rw [if_neg (by omega), if_pos rfl]]
  exact k
theorem jREL_0 (L : Nat) (xs : Nat → Int32) : jREL (fun j => (xs j.toNat).toInt) (fun _ => (L : Int)) 0 (jl_hp0 L xs) := by
  have hK : ∀ x y, jK0 (jl_hp0 L xs) x y = -1 := fun x y => jgk_nil x y
  have h5 : jK5 (jK0 (jl_hp0 L xs)) := jK5_of (by show (0 : Int) ≤ 5; omega) (by show (0 : Int) ≤ 5; omega)
  have hI : jInv (jK0 (jl_hp0 L xs)) (jO0 (jl_hp0 L xs)) := jSc_inv h5 144
  have hO : jO0 (jl_hp0 L xs) = [] := jinv_nil hK hI
  have hG : ∀ o k : Nat, jl_hp0 L xs o = (fun _ => 0) → jl_hp0 L xs k = (fun _ => 0) → jG (jl_hp0 L xs) o k := by
    intro o k e f
    unfold jG
    rw [e, f]
    exact ⟨by show (0 : Int) ≤ 0; omega, by show (0 : Int) ≤ 5; omega, by show (0 : Int) ≤ 0; omega, by show (0 : Int) ≤ 5; omega, fun j _ _ => by show (-1 : Int) ≤ 0 ∧ (0 : Int) ≤ 4; omega⟩
  have hM : jMG (jl_hp0 L xs) := ⟨by show (0 : Int) ≤ 0; omega, by show (0 : Int) ≤ 5; omega, by show (0 : Int) ≤ 0; omega, by show (0 : Int) ≤ 5; omega, fun j _ _ => by show (-1 : Int) ≤ 0 ∧ (0 : Int) ≤ 4; omega⟩
  have hmO : jmO (jl_hp0 L xs) = [] := jmO_nil hM rfl
  refine ⟨?_, ?_, ?_, ?_, ?_, ?_, hG 5 6 rfl rfl, ?_, ?_, rfl, rfl⟩
  · exact ⟨⟨by show (0 : Int) ≤ 0; omega, by show (0 : Int) ≤ 32; omega, fun j a b => absurd (show j < 0 from b) (by omega)⟩, rfl, fun j a b => absurd (show j < 0 from b) (by omega)⟩
  · exact ⟨hG 3 4 rfl rfl, rfl, rfl, fun j a b => rfl, ⟨fun _ => rfl, fun _ => rfl⟩, fun z => absurd rfl z⟩
  · exact ⟨⟨by show (0 : Int) ≤ 0; omega, by show (0 : Int) ≤ 0; omega⟩, rfl, ⟨fun _ => rfl, fun _ => rfl⟩, ⟨by show (0 : Int) ≤ 0; omega, by show (0 : Int) ≤ 5; omega⟩, rfl⟩
  · exact ⟨⟨by show (0 : Int) ≤ 0; omega, by show (0 : Int) ≤ 6; omega, fun j _ _ => by show jR32 0; exact ⟨by omega, by omega⟩, fun j _ _ => by show (0 : Int) ≤ 0 ∧ (0 : Int) ≤ 3; omega, fun j _ _ => Or.inl rfl⟩, rfl, fun j a b => absurd (show j < 0 from b) (by omega)⟩
  · exact jRR_0 (fun k _ _ => rfl) (fun j _ _ => rfl)
  · refine ⟨Or.inl rfl, ⟨by show (0 : Int) ≤ 0; omega, by show (0 : Int) ≤ 6; omega, fun j _ _ => by show jR32 0; exact ⟨by omega, by omega⟩, fun j _ _ => by show (0 : Int) ≤ 0 ∧ (0 : Int) ≤ 3; omega, fun j _ _ => Or.inl rfl⟩, hG 7 8 rfl rfl, by show (-1 : Int) ≤ -1 ∧ (-1 : Int) ≤ 0; omega, ?_, fun z => absurd (show (0 : Int) = 1 from z) (by omega)⟩
    show (0 : Int) = 1 ↔ (-1 : Int) = 0
    omega
  · unfold jRL
    rw [hO] at hI ⊢
    exact ⟨h5, hI, ⟨rfl, fun i q hq => by simp at hq⟩, ⟨by show jR32 (-1); exact ⟨by omega, by omega⟩, fun i q hq => by simp at hq, fun i q hq => by simp at hq⟩⟩
  · refine ⟨hM, Or.inl rfl, fun _ => ?_⟩
    rw [hmO]
    exact ⟨⟨fun x y w _ _ _ _ _ _ => by show (0 : Int) = _; simp, fun j t hj => by simp at hj⟩, ⟨rfl, fun i q hq => by simp at hq⟩, fun i q hq => by simp at hq⟩
theorem k_law_L (xs ls : Int → Int) (L : Nat) (hL : L ≤ 2048) (hls : ls = fun _ => (L : Int)) (hxs : ∀ j, jR32 (xs j)) : ∀ (c : Nat) (i n : Int) (h : jm_H), 0 ≤ i → i ≤ L → n ≤ i → jREL xs ls n h → L - i < c → jm_Ev 217 18 [jR 82, jR 0, jR 56, jI i] [] h (fun rv _ => rv = some (jI 1)) := by
  intro fu
  induction fu with
  | zero => intro i n h h0 h1 h2 hR hc; omega
  | succ fu ih =>
    intro i n h h0 h1 h2 hR hc
    have rX := hR.2.2.2.2.2.2.2.2.2
    have e85 : h 85 0 = (L : Int) := by rw [rX.2, hls]
    have hn : n ≤ 1000000 := by omega
    refine jm_Ev.bl 3 (pc' := 21) (A' := [jR 82, jR 0, jR 56, jI i]) (st' := [jI (h 85 0), jI i]) (hp' := h) rfl ?_
    refine jm_Ev.bl 2 (pc' := 23) (A' := [jR 82, jR 0, jR 56, jI i]) (st' := [jI ((h 85 0) - 4), jI i]) (hp' := h) rfl ?_
    refine jE_icmp_gt rfl (by omega) (by omega) (fun c23 => ?_) (fun c23 => ?_)
    · refine jm_Ev.bl 1 (pc' := 817) (A' := [jR 82, jR 0, jR 56, jI i]) (st' := [jI 1]) (hp' := h) rfl ?_
      exact jE_ret rfl rfl
    · refine jm_Ev.bl 2 (pc' := 28) (A' := [jR 82, jR 0, jR 56, jI i]) (st' := [jI i, jR 82]) (hp' := h) rfl ?_
      refine jE_iald (n := (h 85 0)) (f := h 82) rfl rfl (by omega) ?_
      refine jm_Ev.bl 2 (pc' := 32) (A' := [jR 82, jR 0, jR 56, jI i]) (st' := [jI ((Int32.ofInt (h 82 i) &&& Int32.ofInt 31).toInt)]) (hp' := h) rfl ?_
      obtain ⟨sw, hsw⟩ : ∃ z, z = (Int32.ofInt (h 82 i) &&& Int32.ofInt 31).toInt := ⟨_, rfl⟩
      have swr : jR32 sw := by rw [hsw]; exact jI32_r _
      rw [← hsw]
      rcases (show sw = 0 ∨ sw = 1 ∨ sw = 2 ∨ sw = 3 ∨ sw = 4 ∨ sw = 5 ∨ sw = 6 ∨ sw = 7 ∨ sw = 8 ∨ sw = 9 ∨ sw = 10 ∨ sw = 11 ∨ sw = 12 ∨ sw = 13 ∨ sw = 14 ∨ sw = 15 ∨ sw = 16 ∨ sw = 17 ∨ sw = 18 ∨ sw = 19 ∨ sw = 20 ∨ sw = 21 ∨ sw = 22 ∨ sw = 23 ∨ sw = 24 ∨ (sw < 0 ∨ 24 < sw) by omega) with c32 | c32 | c32 | c32 | c32 | c32 | c32 | c32 | c32 | c32 | c32 | c32 | c32 | c32 | c32 | c32 | c32 | c32 | c32 | c32 | c32 | c32 | c32 | c32 | c32 | c32
      · subst c32
        refine jm_Ev.bl 6 (pc' := 153) (A' := [jR 82, jR 0, jR 56, jI i]) (st' := [jI (i + 1), jR 82, jR 0]) (hp' := h) rfl ?_
        refine jE_iald (n := (h 85 0)) (f := h 82) rfl rfl (by omega) ?_
        refine jE_call (vs := [jR 0, jI (h 82 (i + 1))]) (r := []) (nx := 157) rfl (k_letter xs ls n h hR hn (h 82 (i + 1)) (by rw [rX.1]; exact hxs _)) (fun rv154 h1 hh => ?_)
        obtain ⟨v, rfl, vr, ⟨x1, x2⟩, hm⟩ := hh
        have x3 : h1 82 = h 82 := x1.trans rX.1.symm
        have x4 : h1 85 0 = h 85 0 := by rw [x2, rX.2]
        refine jm_Ev.bl 5 (pc' := 162) (A' := [jR 82, jR 0, jR 56, jI i]) (st' := [jI (i + 1), jR 82, jR 56, jI v]) (hp' := h1) rfl ?_
        refine jE_iald (n := (h1 85 0)) (f := h1 82) rfl rfl (by omega) ?_
        refine jE_call (vs := [jR 56, jI (h1 82 (i + 1))]) (r := [jI v]) (nx := 166) rfl (show jm_Ev 134 0 (jm_en 134 [jR 56, jI (h1 82 (i + 1))]) [] h1 (fun rv2 h2 => rv2 = some (jI v) ∧ jREL xs ls (n + 1) h2) by rw [x3]; exact hm) (fun rv163 h2 hh2 => ?_)
        obtain ⟨rfl, hR2⟩ := hh2
        refine jE_icmp_eq rfl (by omega) (by omega) (fun c166 => ?_) (fun c166 => ?_)
        · refine jm_Ev.bl 2 (pc' := 18) (A' := [jR 82, jR 0, jR 56, jI (i + 4)]) (st' := []) (hp' := h2) rfl ?_
          exact ih (i + 4) (n + 1) h2 (by omega) (by omega) (by omega) hR2 (by omega)
        · exact absurd rfl c166
      · subst c32
        refine jm_Ev.bl 2 (pc' := 172) (A' := [jR 82, jR 0, jR 56, jI i]) (st' := [jR 0]) (hp' := h) rfl ?_
        refine jE_call (vs := [jR 0]) (r := []) (nx := 175) rfl (k_blank xs ls n h hR hn  ) (fun rv172 h1 hh => ?_)
        obtain ⟨v, rfl, vr, ⟨x1, x2⟩, hm⟩ := hh
        have x3 : h1 82 = h 82 := x1.trans rX.1.symm
        have x4 : h1 85 0 = h 85 0 := by rw [x2, rX.2]
        refine jm_Ev.bl 1 (pc' := 176) (A' := [jR 82, jR 0, jR 56, jI i]) (st' := [jR 56, jI v]) (hp' := h1) rfl ?_
        refine jE_call (vs := [jR 56]) (r := [jI v]) (nx := 179) rfl (hm) (fun rv176 h2 hh2 => ?_)
        obtain ⟨rfl, hR2⟩ := hh2
        refine jE_icmp_eq rfl (by omega) (by omega) (fun c179 => ?_) (fun c179 => ?_)
        · refine jm_Ev.bl 2 (pc' := 18) (A' := [jR 82, jR 0, jR 56, jI (i + 4)]) (st' := []) (hp' := h2) rfl ?_
          exact ih (i + 4) (n + 1) h2 (by omega) (by omega) (by omega) hR2 (by omega)
        · exact absurd rfl c179
      · subst c32
        refine jm_Ev.bl 2 (pc' := 185) (A' := [jR 82, jR 0, jR 56, jI i]) (st' := [jR 0]) (hp' := h) rfl ?_
        refine jE_call (vs := [jR 0]) (r := []) (nx := 188) rfl (k_fault xs ls n h hR hn  ) (fun rv185 h1 hh => ?_)
        obtain ⟨v, rfl, vr, ⟨x1, x2⟩, hm⟩ := hh
        have x3 : h1 82 = h 82 := x1.trans rX.1.symm
        have x4 : h1 85 0 = h 85 0 := by rw [x2, rX.2]
        refine jm_Ev.bl 1 (pc' := 189) (A' := [jR 82, jR 0, jR 56, jI i]) (st' := [jR 56, jI v]) (hp' := h1) rfl ?_
        refine jE_call (vs := [jR 56]) (r := [jI v]) (nx := 192) rfl (hm) (fun rv189 h2 hh2 => ?_)
        obtain ⟨rfl, hR2⟩ := hh2
        refine jE_icmp_eq rfl (by omega) (by omega) (fun c192 => ?_) (fun c192 => ?_)
        · refine jm_Ev.bl 2 (pc' := 18) (A' := [jR 82, jR 0, jR 56, jI (i + 4)]) (st' := []) (hp' := h2) rfl ?_
          exact ih (i + 4) (n + 1) h2 (by omega) (by omega) (by omega) hR2 (by omega)
        · exact absurd rfl c192
      · subst c32
        refine jm_Ev.bl 2 (pc' := 198) (A' := [jR 82, jR 0, jR 56, jI i]) (st' := [jR 0]) (hp' := h) rfl ?_
        refine jE_call (vs := [jR 0]) (r := []) (nx := 201) rfl (k_blob xs ls n h hR hn  ) (fun rv198 h1 hh => ?_)
        obtain ⟨v, rfl, vr, ⟨x1, x2⟩, hm⟩ := hh
        have x3 : h1 82 = h 82 := x1.trans rX.1.symm
        have x4 : h1 85 0 = h 85 0 := by rw [x2, rX.2]
        refine jm_Ev.bl 1 (pc' := 202) (A' := [jR 82, jR 0, jR 56, jI i]) (st' := [jR 56, jI v]) (hp' := h1) rfl ?_
        refine jE_call (vs := [jR 56]) (r := [jI v]) (nx := 205) rfl (hm) (fun rv202 h2 hh2 => ?_)
        obtain ⟨rfl, hR2⟩ := hh2
        refine jE_icmp_eq rfl (by omega) (by omega) (fun c205 => ?_) (fun c205 => ?_)
        · refine jm_Ev.bl 2 (pc' := 18) (A' := [jR 82, jR 0, jR 56, jI (i + 4)]) (st' := []) (hp' := h2) rfl ?_
          exact ih (i + 4) (n + 1) h2 (by omega) (by omega) (by omega) hR2 (by omega)
        · exact absurd rfl c205
      · subst c32
        refine jm_Ev.bl 6 (pc' := 215) (A' := [jR 82, jR 0, jR 56, jI i]) (st' := [jI (i + 1), jR 82, jR 0]) (hp' := h) rfl ?_
        refine jE_iald (n := (h 85 0)) (f := h 82) rfl rfl (by omega) ?_
        refine jm_Ev.bl 4 (pc' := 220) (A' := [jR 82, jR 0, jR 56, jI i]) (st' := [jI (i + 2), jR 82, jI (h 82 (i + 1)), jR 0]) (hp' := h) rfl ?_
        refine jE_iald (n := (h 85 0)) (f := h 82) rfl rfl (by omega) ?_
        refine jE_call (vs := [jR 0, jI (h 82 (i + 1)), jI (h 82 (i + 2))]) (r := []) (nx := 224) rfl (k_dot xs ls n h hR hn (h 82 (i + 1)) (h 82 (i + 2)) (by rw [rX.1]; exact hxs _) (by rw [rX.1]; exact hxs _)) (fun rv221 h1 hh => ?_)
        obtain ⟨v, rfl, vr, ⟨x1, x2⟩, hm⟩ := hh
        have x3 : h1 82 = h 82 := x1.trans rX.1.symm
        have x4 : h1 85 0 = h 85 0 := by rw [x2, rX.2]
        refine jm_Ev.bl 5 (pc' := 229) (A' := [jR 82, jR 0, jR 56, jI i]) (st' := [jI (i + 1), jR 82, jR 56, jI v]) (hp' := h1) rfl ?_
        refine jE_iald (n := (h1 85 0)) (f := h1 82) rfl rfl (by omega) ?_
        refine jm_Ev.bl 4 (pc' := 234) (A' := [jR 82, jR 0, jR 56, jI i]) (st' := [jI (i + 2), jR 82, jI (h1 82 (i + 1)), jR 56, jI v]) (hp' := h1) rfl ?_
        refine jE_iald (n := (h1 85 0)) (f := h1 82) rfl rfl (by omega) ?_
        refine jE_call (vs := [jR 56, jI (h1 82 (i + 1)), jI (h1 82 (i + 2))]) (r := [jI v]) (nx := 238) rfl (show jm_Ev 186 0 (jm_en 186 [jR 56, jI (h1 82 (i + 1)), jI (h1 82 (i + 2))]) [] h1 (fun rv2 h2 => rv2 = some (jI v) ∧ jREL xs ls (n + 1) h2) by rw [x3]; exact hm) (fun rv235 h2 hh2 => ?_)
        obtain ⟨rfl, hR2⟩ := hh2
        refine jE_icmp_eq rfl (by omega) (by omega) (fun c238 => ?_) (fun c238 => ?_)
        · refine jm_Ev.bl 2 (pc' := 18) (A' := [jR 82, jR 0, jR 56, jI (i + 4)]) (st' := []) (hp' := h2) rfl ?_
          exact ih (i + 4) (n + 1) h2 (by omega) (by omega) (by omega) hR2 (by omega)
        · exact absurd rfl c238
      · subst c32
        refine jm_Ev.bl 6 (pc' := 248) (A' := [jR 82, jR 0, jR 56, jI i]) (st' := [jI (i + 1), jR 82, jR 0]) (hp' := h) rfl ?_
        refine jE_iald (n := (h 85 0)) (f := h 82) rfl rfl (by omega) ?_
        refine jm_Ev.bl 4 (pc' := 253) (A' := [jR 82, jR 0, jR 56, jI i]) (st' := [jI (i + 2), jR 82, jI (h 82 (i + 1)), jR 0]) (hp' := h) rfl ?_
        refine jE_iald (n := (h 85 0)) (f := h 82) rfl rfl (by omega) ?_
        refine jE_call (vs := [jR 0, jI (h 82 (i + 1)), jI (h 82 (i + 2))]) (r := []) (nx := 257) rfl (k_as xs ls n h hR hn (h 82 (i + 1)) (h 82 (i + 2)) (by rw [rX.1]; exact hxs _) (by rw [rX.1]; exact hxs _)) (fun rv254 h1 hh => ?_)
        obtain ⟨v, rfl, vr, ⟨x1, x2⟩, hm⟩ := hh
        have x3 : h1 82 = h 82 := x1.trans rX.1.symm
        have x4 : h1 85 0 = h 85 0 := by rw [x2, rX.2]
        refine jm_Ev.bl 5 (pc' := 262) (A' := [jR 82, jR 0, jR 56, jI i]) (st' := [jI (i + 1), jR 82, jR 56, jI v]) (hp' := h1) rfl ?_
        refine jE_iald (n := (h1 85 0)) (f := h1 82) rfl rfl (by omega) ?_
        refine jm_Ev.bl 4 (pc' := 267) (A' := [jR 82, jR 0, jR 56, jI i]) (st' := [jI (i + 2), jR 82, jI (h1 82 (i + 1)), jR 56, jI v]) (hp' := h1) rfl ?_
        refine jE_iald (n := (h1 85 0)) (f := h1 82) rfl rfl (by omega) ?_
        refine jE_call (vs := [jR 56, jI (h1 82 (i + 1)), jI (h1 82 (i + 2))]) (r := [jI v]) (nx := 271) rfl (show jm_Ev 188 0 (jm_en 188 [jR 56, jI (h1 82 (i + 1)), jI (h1 82 (i + 2))]) [] h1 (fun rv2 h2 => rv2 = some (jI v) ∧ jREL xs ls (n + 1) h2) by rw [x3]; exact hm) (fun rv268 h2 hh2 => ?_)
        obtain ⟨rfl, hR2⟩ := hh2
        refine jE_icmp_eq rfl (by omega) (by omega) (fun c271 => ?_) (fun c271 => ?_)
        · refine jm_Ev.bl 2 (pc' := 18) (A' := [jR 82, jR 0, jR 56, jI (i + 4)]) (st' := []) (hp' := h2) rfl ?_
          exact ih (i + 4) (n + 1) h2 (by omega) (by omega) (by omega) hR2 (by omega)
        · exact absurd rfl c271
      · subst c32
        refine jm_Ev.bl 6 (pc' := 281) (A' := [jR 82, jR 0, jR 56, jI i]) (st' := [jI (i + 1), jR 82, jR 0]) (hp' := h) rfl ?_
        refine jE_iald (n := (h 85 0)) (f := h 82) rfl rfl (by omega) ?_
        refine jm_Ev.bl 4 (pc' := 286) (A' := [jR 82, jR 0, jR 56, jI i]) (st' := [jI (i + 2), jR 82, jI (h 82 (i + 1)), jR 0]) (hp' := h) rfl ?_
        refine jE_iald (n := (h 85 0)) (f := h 82) rfl rfl (by omega) ?_
        refine jE_call (vs := [jR 0, jI (h 82 (i + 1)), jI (h 82 (i + 2))]) (r := []) (nx := 290) rfl (k_outline xs ls n h hR hn (h 82 (i + 1)) (h 82 (i + 2)) (by rw [rX.1]; exact hxs _) (by rw [rX.1]; exact hxs _)) (fun rv287 h1 hh => ?_)
        obtain ⟨v, rfl, vr, ⟨x1, x2⟩, hm⟩ := hh
        have x3 : h1 82 = h 82 := x1.trans rX.1.symm
        have x4 : h1 85 0 = h 85 0 := by rw [x2, rX.2]
        refine jm_Ev.bl 5 (pc' := 295) (A' := [jR 82, jR 0, jR 56, jI i]) (st' := [jI (i + 1), jR 82, jR 56, jI v]) (hp' := h1) rfl ?_
        refine jE_iald (n := (h1 85 0)) (f := h1 82) rfl rfl (by omega) ?_
        refine jm_Ev.bl 4 (pc' := 300) (A' := [jR 82, jR 0, jR 56, jI i]) (st' := [jI (i + 2), jR 82, jI (h1 82 (i + 1)), jR 56, jI v]) (hp' := h1) rfl ?_
        refine jE_iald (n := (h1 85 0)) (f := h1 82) rfl rfl (by omega) ?_
        refine jE_call (vs := [jR 56, jI (h1 82 (i + 1)), jI (h1 82 (i + 2))]) (r := [jI v]) (nx := 304) rfl (show jm_Ev 176 0 (jm_en 176 [jR 56, jI (h1 82 (i + 1)), jI (h1 82 (i + 2))]) [] h1 (fun rv2 h2 => rv2 = some (jI v) ∧ jREL xs ls (n + 1) h2) by rw [x3]; exact hm) (fun rv301 h2 hh2 => ?_)
        obtain ⟨rfl, hR2⟩ := hh2
        refine jE_icmp_eq rfl (by omega) (by omega) (fun c304 => ?_) (fun c304 => ?_)
        · refine jm_Ev.bl 2 (pc' := 18) (A' := [jR 82, jR 0, jR 56, jI (i + 4)]) (st' := []) (hp' := h2) rfl ?_
          exact ih (i + 4) (n + 1) h2 (by omega) (by omega) (by omega) hR2 (by omega)
        · exact absurd rfl c304
      · subst c32
        refine jm_Ev.bl 6 (pc' := 314) (A' := [jR 82, jR 0, jR 56, jI i]) (st' := [jI (i + 1), jR 82, jR 0]) (hp' := h) rfl ?_
        refine jE_iald (n := (h 85 0)) (f := h 82) rfl rfl (by omega) ?_
        refine jm_Ev.bl 4 (pc' := 319) (A' := [jR 82, jR 0, jR 56, jI i]) (st' := [jI (i + 2), jR 82, jI (h 82 (i + 1)), jR 0]) (hp' := h) rfl ?_
        refine jE_iald (n := (h 85 0)) (f := h 82) rfl rfl (by omega) ?_
        refine jm_Ev.bl 4 (pc' := 324) (A' := [jR 82, jR 0, jR 56, jI i]) (st' := [jI (i + 3), jR 82, jI (h 82 (i + 2)), jI (h 82 (i + 1)), jR 0]) (hp' := h) rfl ?_
        refine jE_iald (n := (h 85 0)) (f := h 82) rfl rfl (by omega) ?_
        refine jE_call (vs := [jR 0, jI (h 82 (i + 1)), jI (h 82 (i + 2)), jI (h 82 (i + 3))]) (r := []) (nx := 328) rfl (k_point xs ls n h hR hn (h 82 (i + 1)) (h 82 (i + 2)) (h 82 (i + 3)) (by rw [rX.1]; exact hxs _) (by rw [rX.1]; exact hxs _) (by rw [rX.1]; exact hxs _)) (fun rv325 h1 hh => ?_)
        obtain ⟨v, rfl, vr, ⟨x1, x2⟩, hm⟩ := hh
        have x3 : h1 82 = h 82 := x1.trans rX.1.symm
        have x4 : h1 85 0 = h 85 0 := by rw [x2, rX.2]
        refine jm_Ev.bl 5 (pc' := 333) (A' := [jR 82, jR 0, jR 56, jI i]) (st' := [jI (i + 1), jR 82, jR 56, jI v]) (hp' := h1) rfl ?_
        refine jE_iald (n := (h1 85 0)) (f := h1 82) rfl rfl (by omega) ?_
        refine jm_Ev.bl 4 (pc' := 338) (A' := [jR 82, jR 0, jR 56, jI i]) (st' := [jI (i + 2), jR 82, jI (h1 82 (i + 1)), jR 56, jI v]) (hp' := h1) rfl ?_
        refine jE_iald (n := (h1 85 0)) (f := h1 82) rfl rfl (by omega) ?_
        refine jm_Ev.bl 4 (pc' := 343) (A' := [jR 82, jR 0, jR 56, jI i]) (st' := [jI (i + 3), jR 82, jI (h1 82 (i + 2)), jI (h1 82 (i + 1)), jR 56, jI v]) (hp' := h1) rfl ?_
        refine jE_iald (n := (h1 85 0)) (f := h1 82) rfl rfl (by omega) ?_
        refine jE_call (vs := [jR 56, jI (h1 82 (i + 1)), jI (h1 82 (i + 2)), jI (h1 82 (i + 3))]) (r := [jI v]) (nx := 347) rfl (show jm_Ev 179 0 (jm_en 179 [jR 56, jI (h1 82 (i + 1)), jI (h1 82 (i + 2)), jI (h1 82 (i + 3))]) [] h1 (fun rv2 h2 => rv2 = some (jI v) ∧ jREL xs ls (n + 1) h2) by rw [x3]; exact hm) (fun rv344 h2 hh2 => ?_)
        obtain ⟨rfl, hR2⟩ := hh2
        refine jE_icmp_eq rfl (by omega) (by omega) (fun c347 => ?_) (fun c347 => ?_)
        · refine jm_Ev.bl 2 (pc' := 18) (A' := [jR 82, jR 0, jR 56, jI (i + 4)]) (st' := []) (hp' := h2) rfl ?_
          exact ih (i + 4) (n + 1) h2 (by omega) (by omega) (by omega) hR2 (by omega)
        · exact absurd rfl c347
      · subst c32
        refine jm_Ev.bl 6 (pc' := 357) (A' := [jR 82, jR 0, jR 56, jI i]) (st' := [jI (i + 1), jR 82, jR 0]) (hp' := h) rfl ?_
        refine jE_iald (n := (h 85 0)) (f := h 82) rfl rfl (by omega) ?_
        refine jm_Ev.bl 4 (pc' := 362) (A' := [jR 82, jR 0, jR 56, jI i]) (st' := [jI (i + 2), jR 82, jI (h 82 (i + 1)), jR 0]) (hp' := h) rfl ?_
        refine jE_iald (n := (h 85 0)) (f := h 82) rfl rfl (by omega) ?_
        refine jm_Ev.bl 4 (pc' := 367) (A' := [jR 82, jR 0, jR 56, jI i]) (st' := [jI (i + 3), jR 82, jI (h 82 (i + 2)), jI (h 82 (i + 1)), jR 0]) (hp' := h) rfl ?_
        refine jE_iald (n := (h 85 0)) (f := h 82) rfl rfl (by omega) ?_
        refine jE_call (vs := [jR 0, jI (h 82 (i + 1)), jI (h 82 (i + 2)), jI (h 82 (i + 3))]) (r := []) (nx := 371) rfl (k_joined xs ls n h hR hn (h 82 (i + 1)) (h 82 (i + 2)) (h 82 (i + 3)) (by rw [rX.1]; exact hxs _) (by rw [rX.1]; exact hxs _) (by rw [rX.1]; exact hxs _)) (fun rv368 h1 hh => ?_)
        obtain ⟨v, rfl, vr, ⟨x1, x2⟩, hm⟩ := hh
        have x3 : h1 82 = h 82 := x1.trans rX.1.symm
        have x4 : h1 85 0 = h 85 0 := by rw [x2, rX.2]
        refine jm_Ev.bl 5 (pc' := 376) (A' := [jR 82, jR 0, jR 56, jI i]) (st' := [jI (i + 1), jR 82, jR 56, jI v]) (hp' := h1) rfl ?_
        refine jE_iald (n := (h1 85 0)) (f := h1 82) rfl rfl (by omega) ?_
        refine jm_Ev.bl 4 (pc' := 381) (A' := [jR 82, jR 0, jR 56, jI i]) (st' := [jI (i + 2), jR 82, jI (h1 82 (i + 1)), jR 56, jI v]) (hp' := h1) rfl ?_
        refine jE_iald (n := (h1 85 0)) (f := h1 82) rfl rfl (by omega) ?_
        refine jm_Ev.bl 4 (pc' := 386) (A' := [jR 82, jR 0, jR 56, jI i]) (st' := [jI (i + 3), jR 82, jI (h1 82 (i + 2)), jI (h1 82 (i + 1)), jR 56, jI v]) (hp' := h1) rfl ?_
        refine jE_iald (n := (h1 85 0)) (f := h1 82) rfl rfl (by omega) ?_
        refine jE_call (vs := [jR 56, jI (h1 82 (i + 1)), jI (h1 82 (i + 2)), jI (h1 82 (i + 3))]) (r := [jI v]) (nx := 390) rfl (show jm_Ev 181 0 (jm_en 181 [jR 56, jI (h1 82 (i + 1)), jI (h1 82 (i + 2)), jI (h1 82 (i + 3))]) [] h1 (fun rv2 h2 => rv2 = some (jI v) ∧ jREL xs ls (n + 1) h2) by rw [x3]; exact hm) (fun rv387 h2 hh2 => ?_)
        obtain ⟨rfl, hR2⟩ := hh2
        refine jE_icmp_eq rfl (by omega) (by omega) (fun c390 => ?_) (fun c390 => ?_)
        · refine jm_Ev.bl 2 (pc' := 18) (A' := [jR 82, jR 0, jR 56, jI (i + 4)]) (st' := []) (hp' := h2) rfl ?_
          exact ih (i + 4) (n + 1) h2 (by omega) (by omega) (by omega) hR2 (by omega)
        · exact absurd rfl c390
      · subst c32
        refine jm_Ev.bl 6 (pc' := 400) (A' := [jR 82, jR 0, jR 56, jI i]) (st' := [jI (i + 1), jR 82, jR 0]) (hp' := h) rfl ?_
        refine jE_iald (n := (h 85 0)) (f := h 82) rfl rfl (by omega) ?_
        refine jm_Ev.bl 4 (pc' := 405) (A' := [jR 82, jR 0, jR 56, jI i]) (st' := [jI (i + 2), jR 82, jI (h 82 (i + 1)), jR 0]) (hp' := h) rfl ?_
        refine jE_iald (n := (h 85 0)) (f := h 82) rfl rfl (by omega) ?_
        refine jm_Ev.bl 4 (pc' := 410) (A' := [jR 82, jR 0, jR 56, jI i]) (st' := [jI (i + 3), jR 82, jI (h 82 (i + 2)), jI (h 82 (i + 1)), jR 0]) (hp' := h) rfl ?_
        refine jE_iald (n := (h 85 0)) (f := h 82) rfl rfl (by omega) ?_
        refine jE_call (vs := [jR 0, jI (h 82 (i + 1)), jI (h 82 (i + 2)), jI (h 82 (i + 3))]) (r := []) (nx := 414) rfl (k_penalty xs ls n h hR hn (h 82 (i + 1)) (h 82 (i + 2)) (h 82 (i + 3)) (by rw [rX.1]; exact hxs _) (by rw [rX.1]; exact hxs _) (by rw [rX.1]; exact hxs _)) (fun rv411 h1 hh => ?_)
        obtain ⟨v, rfl, vr, ⟨x1, x2⟩, hm⟩ := hh
        have x3 : h1 82 = h 82 := x1.trans rX.1.symm
        have x4 : h1 85 0 = h 85 0 := by rw [x2, rX.2]
        refine jm_Ev.bl 5 (pc' := 419) (A' := [jR 82, jR 0, jR 56, jI i]) (st' := [jI (i + 1), jR 82, jR 56, jI v]) (hp' := h1) rfl ?_
        refine jE_iald (n := (h1 85 0)) (f := h1 82) rfl rfl (by omega) ?_
        refine jm_Ev.bl 4 (pc' := 424) (A' := [jR 82, jR 0, jR 56, jI i]) (st' := [jI (i + 2), jR 82, jI (h1 82 (i + 1)), jR 56, jI v]) (hp' := h1) rfl ?_
        refine jE_iald (n := (h1 85 0)) (f := h1 82) rfl rfl (by omega) ?_
        refine jm_Ev.bl 4 (pc' := 429) (A' := [jR 82, jR 0, jR 56, jI i]) (st' := [jI (i + 3), jR 82, jI (h1 82 (i + 2)), jI (h1 82 (i + 1)), jR 56, jI v]) (hp' := h1) rfl ?_
        refine jE_iald (n := (h1 85 0)) (f := h1 82) rfl rfl (by omega) ?_
        refine jE_call (vs := [jR 56, jI (h1 82 (i + 1)), jI (h1 82 (i + 2)), jI (h1 82 (i + 3))]) (r := [jI v]) (nx := 433) rfl (show jm_Ev 182 0 (jm_en 182 [jR 56, jI (h1 82 (i + 1)), jI (h1 82 (i + 2)), jI (h1 82 (i + 3))]) [] h1 (fun rv2 h2 => rv2 = some (jI v) ∧ jREL xs ls (n + 1) h2) by rw [x3]; exact hm) (fun rv430 h2 hh2 => ?_)
        obtain ⟨rfl, hR2⟩ := hh2
        refine jE_icmp_eq rfl (by omega) (by omega) (fun c433 => ?_) (fun c433 => ?_)
        · refine jm_Ev.bl 2 (pc' := 18) (A' := [jR 82, jR 0, jR 56, jI (i + 4)]) (st' := []) (hp' := h2) rfl ?_
          exact ih (i + 4) (n + 1) h2 (by omega) (by omega) (by omega) hR2 (by omega)
        · exact absurd rfl c433
      · subst c32
        refine jm_Ev.bl 6 (pc' := 443) (A' := [jR 82, jR 0, jR 56, jI i]) (st' := [jI (i + 1), jR 82, jR 0]) (hp' := h) rfl ?_
        refine jE_iald (n := (h 85 0)) (f := h 82) rfl rfl (by omega) ?_
        refine jm_Ev.bl 4 (pc' := 448) (A' := [jR 82, jR 0, jR 56, jI i]) (st' := [jI (i + 2), jR 82, jI (h 82 (i + 1)), jR 0]) (hp' := h) rfl ?_
        refine jE_iald (n := (h 85 0)) (f := h 82) rfl rfl (by omega) ?_
        refine jE_call (vs := [jR 0, jI (h 82 (i + 1)), jI (h 82 (i + 2))]) (r := []) (nx := 452) rfl (k_corner xs ls n h hR hn (h 82 (i + 1)) (h 82 (i + 2)) (by rw [rX.1]; exact hxs _) (by rw [rX.1]; exact hxs _)) (fun rv449 h1 hh => ?_)
        obtain ⟨v, rfl, vr, ⟨x1, x2⟩, hm⟩ := hh
        have x3 : h1 82 = h 82 := x1.trans rX.1.symm
        have x4 : h1 85 0 = h 85 0 := by rw [x2, rX.2]
        refine jm_Ev.bl 5 (pc' := 457) (A' := [jR 82, jR 0, jR 56, jI i]) (st' := [jI (i + 1), jR 82, jR 56, jI v]) (hp' := h1) rfl ?_
        refine jE_iald (n := (h1 85 0)) (f := h1 82) rfl rfl (by omega) ?_
        refine jm_Ev.bl 4 (pc' := 462) (A' := [jR 82, jR 0, jR 56, jI i]) (st' := [jI (i + 2), jR 82, jI (h1 82 (i + 1)), jR 56, jI v]) (hp' := h1) rfl ?_
        refine jE_iald (n := (h1 85 0)) (f := h1 82) rfl rfl (by omega) ?_
        refine jE_call (vs := [jR 56, jI (h1 82 (i + 1)), jI (h1 82 (i + 2))]) (r := [jI v]) (nx := 466) rfl (show jm_Ev 184 0 (jm_en 184 [jR 56, jI (h1 82 (i + 1)), jI (h1 82 (i + 2))]) [] h1 (fun rv2 h2 => rv2 = some (jI v) ∧ jREL xs ls (n + 1) h2) by rw [x3]; exact hm) (fun rv463 h2 hh2 => ?_)
        obtain ⟨rfl, hR2⟩ := hh2
        refine jE_icmp_eq rfl (by omega) (by omega) (fun c466 => ?_) (fun c466 => ?_)
        · refine jm_Ev.bl 2 (pc' := 18) (A' := [jR 82, jR 0, jR 56, jI (i + 4)]) (st' := []) (hp' := h2) rfl ?_
          exact ih (i + 4) (n + 1) h2 (by omega) (by omega) (by omega) hR2 (by omega)
        · exact absurd rfl c466
      · subst c32
        refine jm_Ev.bl 6 (pc' := 476) (A' := [jR 82, jR 0, jR 56, jI i]) (st' := [jI (i + 1), jR 82, jR 0]) (hp' := h) rfl ?_
        refine jE_iald (n := (h 85 0)) (f := h 82) rfl rfl (by omega) ?_
        refine jm_Ev.bl 4 (pc' := 481) (A' := [jR 82, jR 0, jR 56, jI i]) (st' := [jI (i + 2), jR 82, jI (h 82 (i + 1)), jR 0]) (hp' := h) rfl ?_
        refine jE_iald (n := (h 85 0)) (f := h 82) rfl rfl (by omega) ?_
        refine jE_call (vs := [jR 0, jI (h 82 (i + 1)), jI (h 82 (i + 2))]) (r := []) (nx := 485) rfl (k_put xs ls n h hR hn (h 82 (i + 1)) (h 82 (i + 2)) (by rw [rX.1]; exact hxs _) (by rw [rX.1]; exact hxs _)) (fun rv482 h1 hh => ?_)
        obtain ⟨v, rfl, vr, ⟨x1, x2⟩, hm⟩ := hh
        have x3 : h1 82 = h 82 := x1.trans rX.1.symm
        have x4 : h1 85 0 = h 85 0 := by rw [x2, rX.2]
        refine jm_Ev.bl 5 (pc' := 490) (A' := [jR 82, jR 0, jR 56, jI i]) (st' := [jI (i + 1), jR 82, jR 56, jI v]) (hp' := h1) rfl ?_
        refine jE_iald (n := (h1 85 0)) (f := h1 82) rfl rfl (by omega) ?_
        refine jm_Ev.bl 4 (pc' := 495) (A' := [jR 82, jR 0, jR 56, jI i]) (st' := [jI (i + 2), jR 82, jI (h1 82 (i + 1)), jR 56, jI v]) (hp' := h1) rfl ?_
        refine jE_iald (n := (h1 85 0)) (f := h1 82) rfl rfl (by omega) ?_
        refine jE_call (vs := [jR 56, jI (h1 82 (i + 1)), jI (h1 82 (i + 2))]) (r := [jI v]) (nx := 499) rfl (show jm_Ev 190 0 (jm_en 190 [jR 56, jI (h1 82 (i + 1)), jI (h1 82 (i + 2))]) [] h1 (fun rv2 h2 => rv2 = some (jI v) ∧ jREL xs ls (n + 1) h2) by rw [x3]; exact hm) (fun rv496 h2 hh2 => ?_)
        obtain ⟨rfl, hR2⟩ := hh2
        refine jE_icmp_eq rfl (by omega) (by omega) (fun c499 => ?_) (fun c499 => ?_)
        · refine jm_Ev.bl 2 (pc' := 18) (A' := [jR 82, jR 0, jR 56, jI (i + 4)]) (st' := []) (hp' := h2) rfl ?_
          exact ih (i + 4) (n + 1) h2 (by omega) (by omega) (by omega) hR2 (by omega)
        · exact absurd rfl c499
      · subst c32
        refine jm_Ev.bl 6 (pc' := 509) (A' := [jR 82, jR 0, jR 56, jI i]) (st' := [jI (i + 1), jR 82, jR 0]) (hp' := h) rfl ?_
        refine jE_iald (n := (h 85 0)) (f := h 82) rfl rfl (by omega) ?_
        refine jE_call (vs := [jR 0, jI (h 82 (i + 1))]) (r := []) (nx := 513) rfl (k_take xs ls n h hR hn (h 82 (i + 1)) (by rw [rX.1]; exact hxs _)) (fun rv510 h1 hh => ?_)
        obtain ⟨v, rfl, vr, ⟨x1, x2⟩, hm⟩ := hh
        have x3 : h1 82 = h 82 := x1.trans rX.1.symm
        have x4 : h1 85 0 = h 85 0 := by rw [x2, rX.2]
        refine jm_Ev.bl 5 (pc' := 518) (A' := [jR 82, jR 0, jR 56, jI i]) (st' := [jI (i + 1), jR 82, jR 56, jI v]) (hp' := h1) rfl ?_
        refine jE_iald (n := (h1 85 0)) (f := h1 82) rfl rfl (by omega) ?_
        refine jE_call (vs := [jR 56, jI (h1 82 (i + 1))]) (r := [jI v]) (nx := 522) rfl (show jm_Ev 191 0 (jm_en 191 [jR 56, jI (h1 82 (i + 1))]) [] h1 (fun rv2 h2 => rv2 = some (jI v) ∧ jREL xs ls (n + 1) h2) by rw [x3]; exact hm) (fun rv519 h2 hh2 => ?_)
        obtain ⟨rfl, hR2⟩ := hh2
        refine jE_icmp_eq rfl (by omega) (by omega) (fun c522 => ?_) (fun c522 => ?_)
        · refine jm_Ev.bl 2 (pc' := 18) (A' := [jR 82, jR 0, jR 56, jI (i + 4)]) (st' := []) (hp' := h2) rfl ?_
          exact ih (i + 4) (n + 1) h2 (by omega) (by omega) (by omega) hR2 (by omega)
        · exact absurd rfl c522
      · subst c32
        refine jm_Ev.bl 2 (pc' := 528) (A' := [jR 82, jR 0, jR 56, jI i]) (st' := [jR 0]) (hp' := h) rfl ?_
        refine jE_call (vs := [jR 0]) (r := []) (nx := 531) rfl (k_turn xs ls n h hR hn  ) (fun rv528 h1 hh => ?_)
        obtain ⟨v, rfl, vr, ⟨x1, x2⟩, hm⟩ := hh
        have x3 : h1 82 = h 82 := x1.trans rX.1.symm
        have x4 : h1 85 0 = h 85 0 := by rw [x2, rX.2]
        refine jm_Ev.bl 1 (pc' := 532) (A' := [jR 82, jR 0, jR 56, jI i]) (st' := [jR 56, jI v]) (hp' := h1) rfl ?_
        refine jE_call (vs := [jR 56]) (r := [jI v]) (nx := 535) rfl (hm) (fun rv532 h2 hh2 => ?_)
        obtain ⟨rfl, hR2⟩ := hh2
        refine jE_icmp_eq rfl (by omega) (by omega) (fun c535 => ?_) (fun c535 => ?_)
        · refine jm_Ev.bl 2 (pc' := 18) (A' := [jR 82, jR 0, jR 56, jI (i + 4)]) (st' := []) (hp' := h2) rfl ?_
          exact ih (i + 4) (n + 1) h2 (by omega) (by omega) (by omega) hR2 (by omega)
        · exact absurd rfl c535
      · subst c32
        refine jm_Ev.bl 2 (pc' := 541) (A' := [jR 82, jR 0, jR 56, jI i]) (st' := [jR 0]) (hp' := h) rfl ?_
        refine jE_call (vs := [jR 0]) (r := []) (nx := 544) rfl (k_mirror xs ls n h hR hn  ) (fun rv541 h1 hh => ?_)
        obtain ⟨v, rfl, vr, ⟨x1, x2⟩, hm⟩ := hh
        have x3 : h1 82 = h 82 := x1.trans rX.1.symm
        have x4 : h1 85 0 = h 85 0 := by rw [x2, rX.2]
        refine jm_Ev.bl 1 (pc' := 545) (A' := [jR 82, jR 0, jR 56, jI i]) (st' := [jR 56, jI v]) (hp' := h1) rfl ?_
        refine jE_call (vs := [jR 56]) (r := [jI v]) (nx := 548) rfl (hm) (fun rv545 h2 hh2 => ?_)
        obtain ⟨rfl, hR2⟩ := hh2
        refine jE_icmp_eq rfl (by omega) (by omega) (fun c548 => ?_) (fun c548 => ?_)
        · refine jm_Ev.bl 2 (pc' := 18) (A' := [jR 82, jR 0, jR 56, jI (i + 4)]) (st' := []) (hp' := h2) rfl ?_
          exact ih (i + 4) (n + 1) h2 (by omega) (by omega) (by omega) hR2 (by omega)
        · exact absurd rfl c548
      · subst c32
        refine jm_Ev.bl 6 (pc' := 558) (A' := [jR 82, jR 0, jR 56, jI i]) (st' := [jI (i + 1), jR 82, jR 0]) (hp' := h) rfl ?_
        refine jE_iald (n := (h 85 0)) (f := h 82) rfl rfl (by omega) ?_
        refine jm_Ev.bl 4 (pc' := 563) (A' := [jR 82, jR 0, jR 56, jI i]) (st' := [jI (i + 2), jR 82, jI (h 82 (i + 1)), jR 0]) (hp' := h) rfl ?_
        refine jE_iald (n := (h 85 0)) (f := h 82) rfl rfl (by omega) ?_
        refine jE_call (vs := [jR 0, jI (h 82 (i + 1)), jI (h 82 (i + 2))]) (r := []) (nx := 567) rfl (k_rack xs ls n h hR hn (h 82 (i + 1)) (h 82 (i + 2)) (by rw [rX.1]; exact hxs _) (by rw [rX.1]; exact hxs _)) (fun rv564 h1 hh => ?_)
        obtain ⟨v, rfl, vr, ⟨x1, x2⟩, hm⟩ := hh
        have x3 : h1 82 = h 82 := x1.trans rX.1.symm
        have x4 : h1 85 0 = h 85 0 := by rw [x2, rX.2]
        refine jm_Ev.bl 5 (pc' := 572) (A' := [jR 82, jR 0, jR 56, jI i]) (st' := [jI (i + 1), jR 82, jR 56, jI v]) (hp' := h1) rfl ?_
        refine jE_iald (n := (h1 85 0)) (f := h1 82) rfl rfl (by omega) ?_
        refine jm_Ev.bl 4 (pc' := 577) (A' := [jR 82, jR 0, jR 56, jI i]) (st' := [jI (i + 2), jR 82, jI (h1 82 (i + 1)), jR 56, jI v]) (hp' := h1) rfl ?_
        refine jE_iald (n := (h1 85 0)) (f := h1 82) rfl rfl (by omega) ?_
        refine jE_call (vs := [jR 56, jI (h1 82 (i + 1)), jI (h1 82 (i + 2))]) (r := [jI v]) (nx := 581) rfl (show jm_Ev 196 0 (jm_en 196 [jR 56, jI (h1 82 (i + 1)), jI (h1 82 (i + 2))]) [] h1 (fun rv2 h2 => rv2 = some (jI v) ∧ jREL xs ls (n + 1) h2) by rw [x3]; exact hm) (fun rv578 h2 hh2 => ?_)
        obtain ⟨rfl, hR2⟩ := hh2
        refine jE_icmp_eq rfl (by omega) (by omega) (fun c581 => ?_) (fun c581 => ?_)
        · refine jm_Ev.bl 2 (pc' := 18) (A' := [jR 82, jR 0, jR 56, jI (i + 4)]) (st' := []) (hp' := h2) rfl ?_
          exact ih (i + 4) (n + 1) h2 (by omega) (by omega) (by omega) hR2 (by omega)
        · exact absurd rfl c581
      · subst c32
        refine jm_Ev.bl 6 (pc' := 591) (A' := [jR 82, jR 0, jR 56, jI i]) (st' := [jI (i + 1), jR 82, jR 0]) (hp' := h) rfl ?_
        refine jE_iald (n := (h 85 0)) (f := h 82) rfl rfl (by omega) ?_
        refine jm_Ev.bl 4 (pc' := 596) (A' := [jR 82, jR 0, jR 56, jI i]) (st' := [jI (i + 2), jR 82, jI (h 82 (i + 1)), jR 0]) (hp' := h) rfl ?_
        refine jE_iald (n := (h 85 0)) (f := h 82) rfl rfl (by omega) ?_
        refine jE_call (vs := [jR 0, jI (h 82 (i + 1)), jI (h 82 (i + 2))]) (r := []) (nx := 600) rfl (k_racked xs ls n h hR hn (h 82 (i + 1)) (h 82 (i + 2)) (by rw [rX.1]; exact hxs _) (by rw [rX.1]; exact hxs _)) (fun rv597 h1 hh => ?_)
        obtain ⟨v, rfl, vr, ⟨x1, x2⟩, hm⟩ := hh
        have x3 : h1 82 = h 82 := x1.trans rX.1.symm
        have x4 : h1 85 0 = h 85 0 := by rw [x2, rX.2]
        refine jm_Ev.bl 5 (pc' := 605) (A' := [jR 82, jR 0, jR 56, jI i]) (st' := [jI (i + 1), jR 82, jR 56, jI v]) (hp' := h1) rfl ?_
        refine jE_iald (n := (h1 85 0)) (f := h1 82) rfl rfl (by omega) ?_
        refine jm_Ev.bl 4 (pc' := 610) (A' := [jR 82, jR 0, jR 56, jI i]) (st' := [jI (i + 2), jR 82, jI (h1 82 (i + 1)), jR 56, jI v]) (hp' := h1) rfl ?_
        refine jE_iald (n := (h1 85 0)) (f := h1 82) rfl rfl (by omega) ?_
        refine jE_call (vs := [jR 56, jI (h1 82 (i + 1)), jI (h1 82 (i + 2))]) (r := [jI v]) (nx := 614) rfl (show jm_Ev 197 0 (jm_en 197 [jR 56, jI (h1 82 (i + 1)), jI (h1 82 (i + 2))]) [] h1 (fun rv2 h2 => rv2 = some (jI v) ∧ jREL xs ls (n + 1) h2) by rw [x3]; exact hm) (fun rv611 h2 hh2 => ?_)
        obtain ⟨rfl, hR2⟩ := hh2
        refine jE_icmp_eq rfl (by omega) (by omega) (fun c614 => ?_) (fun c614 => ?_)
        · refine jm_Ev.bl 2 (pc' := 18) (A' := [jR 82, jR 0, jR 56, jI (i + 4)]) (st' := []) (hp' := h2) rfl ?_
          exact ih (i + 4) (n + 1) h2 (by omega) (by omega) (by omega) hR2 (by omega)
        · exact absurd rfl c614
      · subst c32
        refine jm_Ev.bl 2 (pc' := 620) (A' := [jR 82, jR 0, jR 56, jI i]) (st' := [jR 0]) (hp' := h) rfl ?_
        refine jE_call (vs := [jR 0]) (r := []) (nx := 623) rfl (k_weight xs ls n h hR hn  ) (fun rv620 h1 hh => ?_)
        obtain ⟨v, rfl, vr, ⟨x1, x2⟩, hm⟩ := hh
        have x3 : h1 82 = h 82 := x1.trans rX.1.symm
        have x4 : h1 85 0 = h 85 0 := by rw [x2, rX.2]
        refine jm_Ev.bl 1 (pc' := 624) (A' := [jR 82, jR 0, jR 56, jI i]) (st' := [jR 56, jI v]) (hp' := h1) rfl ?_
        refine jE_call (vs := [jR 56]) (r := [jI v]) (nx := 627) rfl (hm) (fun rv624 h2 hh2 => ?_)
        obtain ⟨rfl, hR2⟩ := hh2
        refine jE_icmp_eq rfl (by omega) (by omega) (fun c627 => ?_) (fun c627 => ?_)
        · refine jm_Ev.bl 2 (pc' := 18) (A' := [jR 82, jR 0, jR 56, jI (i + 4)]) (st' := []) (hp' := h2) rfl ?_
          exact ih (i + 4) (n + 1) h2 (by omega) (by omega) (by omega) hR2 (by omega)
        · exact absurd rfl c627
      · subst c32
        refine jm_Ev.bl 6 (pc' := 637) (A' := [jR 82, jR 0, jR 56, jI i]) (st' := [jI (i + 1), jR 82, jR 0]) (hp' := h) rfl ?_
        refine jE_iald (n := (h 85 0)) (f := h 82) rfl rfl (by omega) ?_
        refine jm_Ev.bl 4 (pc' := 642) (A' := [jR 82, jR 0, jR 56, jI i]) (st' := [jI (i + 2), jR 82, jI (h 82 (i + 1)), jR 0]) (hp' := h) rfl ?_
        refine jE_iald (n := (h 85 0)) (f := h 82) rfl rfl (by omega) ?_
        refine jm_Ev.bl 4 (pc' := 647) (A' := [jR 82, jR 0, jR 56, jI i]) (st' := [jI (i + 3), jR 82, jI (h 82 (i + 2)), jI (h 82 (i + 1)), jR 0]) (hp' := h) rfl ?_
        refine jE_iald (n := (h 85 0)) (f := h 82) rfl rfl (by omega) ?_
        refine jE_if_eq rfl (by rw [rX.1]; exact hxs _) (fun c648 => ?_) (fun c648 => ?_)
        · refine jm_Ev.bl 1 (pc' := 656) (A' := [jR 82, jR 0, jR 56, jI i]) (st' := [jI 0, jI (h 82 (i + 2)), jI (h 82 (i + 1)), jR 0]) (hp' := h) rfl ?_
          refine jE_call (vs := [jR 0, jI (h 82 (i + 1)), jI (h 82 (i + 2)), jI 0]) (r := []) (nx := 659) rfl (k_see xs ls n h hR hn (h 82 (i + 1)) (h 82 (i + 2)) 0 (by rw [rX.1]; exact hxs _) (by rw [rX.1]; exact hxs _) (Or.inl rfl)) (fun rv656 h1 hh => ?_)
          obtain ⟨v, rfl, vr, ⟨x1, x2⟩, hm⟩ := hh
          have x3 : h1 82 = h 82 := x1.trans rX.1.symm
          have x4 : h1 85 0 = h 85 0 := by rw [x2, rX.2]
          refine jm_Ev.bl 5 (pc' := 664) (A' := [jR 82, jR 0, jR 56, jI i]) (st' := [jI (i + 1), jR 82, jR 56, jI v]) (hp' := h1) rfl ?_
          refine jE_iald (n := (h1 85 0)) (f := h1 82) rfl rfl (by omega) ?_
          refine jm_Ev.bl 4 (pc' := 669) (A' := [jR 82, jR 0, jR 56, jI i]) (st' := [jI (i + 2), jR 82, jI (h1 82 (i + 1)), jR 56, jI v]) (hp' := h1) rfl ?_
          refine jE_iald (n := (h1 85 0)) (f := h1 82) rfl rfl (by omega) ?_
          refine jm_Ev.bl 4 (pc' := 674) (A' := [jR 82, jR 0, jR 56, jI i]) (st' := [jI (i + 3), jR 82, jI (h1 82 (i + 2)), jI (h1 82 (i + 1)), jR 56, jI v]) (hp' := h1) rfl ?_
          refine jE_iald (n := (h1 85 0)) (f := h1 82) rfl rfl (by omega) ?_
          refine jE_if_eq rfl (by by_cases z : True; exact (by rw [x3, rX.1]; exact hxs _); exact absurd trivial z) (fun c675 => ?_) (fun c675 => ?_)
          · refine jm_Ev.bl 1 (pc' := 683) (A' := [jR 82, jR 0, jR 56, jI i]) (st' := [jI 0, jI (h1 82 (i + 2)), jI (h1 82 (i + 1)), jR 56, jI v]) (hp' := h1) rfl ?_
            refine jE_call (vs := [jR 56, jI (h1 82 (i + 1)), jI (h1 82 (i + 2)), jI 0]) (r := [jI v]) (nx := 686) rfl (show jm_Ev 199 0 (jm_en 199 [jR 56, jI (h1 82 (i + 1)), jI (h1 82 (i + 2)), jI 0]) [] h1 (fun rv2 h2 => rv2 = some (jI v) ∧ jREL xs ls (n + 1) h2) by rw [x3]; exact hm) (fun rv683 h2 hh2 => ?_)
            obtain ⟨rfl, hR2⟩ := hh2
            refine jE_icmp_eq rfl (by omega) (by omega) (fun c686 => ?_) (fun c686 => ?_)
            · refine jm_Ev.bl 2 (pc' := 18) (A' := [jR 82, jR 0, jR 56, jI (i + 4)]) (st' := []) (hp' := h2) rfl ?_
              exact ih (i + 4) (n + 1) h2 (by omega) (by omega) (by omega) hR2 (by omega)
            · exact absurd rfl c686
          · exact absurd (by rw [x3]; exact c648) c675
        · refine jm_Ev.bl 2 (pc' := 656) (A' := [jR 82, jR 0, jR 56, jI i]) (st' := [jI 1, jI (h 82 (i + 2)), jI (h 82 (i + 1)), jR 0]) (hp' := h) rfl ?_
          refine jE_call (vs := [jR 0, jI (h 82 (i + 1)), jI (h 82 (i + 2)), jI 1]) (r := []) (nx := 659) rfl (k_see xs ls n h hR hn (h 82 (i + 1)) (h 82 (i + 2)) 1 (by rw [rX.1]; exact hxs _) (by rw [rX.1]; exact hxs _) (Or.inr rfl)) (fun rv656 h1 hh => ?_)
          obtain ⟨v, rfl, vr, ⟨x1, x2⟩, hm⟩ := hh
          have x3 : h1 82 = h 82 := x1.trans rX.1.symm
          have x4 : h1 85 0 = h 85 0 := by rw [x2, rX.2]
          refine jm_Ev.bl 5 (pc' := 664) (A' := [jR 82, jR 0, jR 56, jI i]) (st' := [jI (i + 1), jR 82, jR 56, jI v]) (hp' := h1) rfl ?_
          refine jE_iald (n := (h1 85 0)) (f := h1 82) rfl rfl (by omega) ?_
          refine jm_Ev.bl 4 (pc' := 669) (A' := [jR 82, jR 0, jR 56, jI i]) (st' := [jI (i + 2), jR 82, jI (h1 82 (i + 1)), jR 56, jI v]) (hp' := h1) rfl ?_
          refine jE_iald (n := (h1 85 0)) (f := h1 82) rfl rfl (by omega) ?_
          refine jm_Ev.bl 4 (pc' := 674) (A' := [jR 82, jR 0, jR 56, jI i]) (st' := [jI (i + 3), jR 82, jI (h1 82 (i + 2)), jI (h1 82 (i + 1)), jR 56, jI v]) (hp' := h1) rfl ?_
          refine jE_iald (n := (h1 85 0)) (f := h1 82) rfl rfl (by omega) ?_
          refine jE_if_eq rfl (by by_cases z : True; exact (by rw [x3, rX.1]; exact hxs _); exact absurd trivial z) (fun c675 => ?_) (fun c675 => ?_)
          · exact absurd (by rw [← x3]; exact c675) c648
          · refine jm_Ev.bl 2 (pc' := 683) (A' := [jR 82, jR 0, jR 56, jI i]) (st' := [jI 1, jI (h1 82 (i + 2)), jI (h1 82 (i + 1)), jR 56, jI v]) (hp' := h1) rfl ?_
            refine jE_call (vs := [jR 56, jI (h1 82 (i + 1)), jI (h1 82 (i + 2)), jI 1]) (r := [jI v]) (nx := 686) rfl (show jm_Ev 199 0 (jm_en 199 [jR 56, jI (h1 82 (i + 1)), jI (h1 82 (i + 2)), jI 1]) [] h1 (fun rv2 h2 => rv2 = some (jI v) ∧ jREL xs ls (n + 1) h2) by rw [x3]; exact hm) (fun rv683 h2 hh2 => ?_)
            obtain ⟨rfl, hR2⟩ := hh2
            refine jE_icmp_eq rfl (by omega) (by omega) (fun c686 => ?_) (fun c686 => ?_)
            · refine jm_Ev.bl 2 (pc' := 18) (A' := [jR 82, jR 0, jR 56, jI (i + 4)]) (st' := []) (hp' := h2) rfl ?_
              exact ih (i + 4) (n + 1) h2 (by omega) (by omega) (by omega) hR2 (by omega)
            · exact absurd rfl c686
      · subst c32
        refine jm_Ev.bl 2 (pc' := 692) (A' := [jR 82, jR 0, jR 56, jI i]) (st' := [jR 0]) (hp' := h) rfl ?_
        refine jE_call (vs := [jR 0]) (r := []) (nx := 695) rfl (k_forget xs ls n h hR hn  ) (fun rv692 h1 hh => ?_)
        obtain ⟨v, rfl, vr, ⟨x1, x2⟩, hm⟩ := hh
        have x3 : h1 82 = h 82 := x1.trans rX.1.symm
        have x4 : h1 85 0 = h 85 0 := by rw [x2, rX.2]
        refine jm_Ev.bl 1 (pc' := 696) (A' := [jR 82, jR 0, jR 56, jI i]) (st' := [jR 56, jI v]) (hp' := h1) rfl ?_
        refine jE_call (vs := [jR 56]) (r := [jI v]) (nx := 699) rfl (hm) (fun rv696 h2 hh2 => ?_)
        obtain ⟨rfl, hR2⟩ := hh2
        refine jE_icmp_eq rfl (by omega) (by omega) (fun c699 => ?_) (fun c699 => ?_)
        · refine jm_Ev.bl 2 (pc' := 18) (A' := [jR 82, jR 0, jR 56, jI (i + 4)]) (st' := []) (hp' := h2) rfl ?_
          exact ih (i + 4) (n + 1) h2 (by omega) (by omega) (by omega) hR2 (by omega)
        · exact absurd rfl c699
      · subst c32
        refine jm_Ev.bl 6 (pc' := 709) (A' := [jR 82, jR 0, jR 56, jI i]) (st' := [jI (i + 1), jR 82, jR 0]) (hp' := h) rfl ?_
        refine jE_iald (n := (h 85 0)) (f := h 82) rfl rfl (by omega) ?_
        refine jm_Ev.bl 4 (pc' := 714) (A' := [jR 82, jR 0, jR 56, jI i]) (st' := [jI (i + 2), jR 82, jI (h 82 (i + 1)), jR 0]) (hp' := h) rfl ?_
        refine jE_iald (n := (h 85 0)) (f := h 82) rfl rfl (by omega) ?_
        refine jm_Ev.bl 4 (pc' := 719) (A' := [jR 82, jR 0, jR 56, jI i]) (st' := [jI (i + 3), jR 82, jI (h 82 (i + 2)), jI (h 82 (i + 1)), jR 0]) (hp' := h) rfl ?_
        refine jE_iald (n := (h 85 0)) (f := h 82) rfl rfl (by omega) ?_
        refine jE_call (vs := [jR 0, jI (h 82 (i + 1)), jI (h 82 (i + 2)), jI (h 82 (i + 3))]) (r := []) (nx := 723) rfl (k_drawn xs ls n h hR hn (h 82 (i + 1)) (h 82 (i + 2)) (h 82 (i + 3)) (by rw [rX.1]; exact hxs _) (by rw [rX.1]; exact hxs _) (by rw [rX.1]; exact hxs _)) (fun rv720 h1 hh => ?_)
        obtain ⟨v, rfl, vr, ⟨x1, x2⟩, hm⟩ := hh
        have x3 : h1 82 = h 82 := x1.trans rX.1.symm
        have x4 : h1 85 0 = h 85 0 := by rw [x2, rX.2]
        refine jm_Ev.bl 5 (pc' := 728) (A' := [jR 82, jR 0, jR 56, jI i]) (st' := [jI (i + 1), jR 82, jR 56, jI v]) (hp' := h1) rfl ?_
        refine jE_iald (n := (h1 85 0)) (f := h1 82) rfl rfl (by omega) ?_
        refine jm_Ev.bl 4 (pc' := 733) (A' := [jR 82, jR 0, jR 56, jI i]) (st' := [jI (i + 2), jR 82, jI (h1 82 (i + 1)), jR 56, jI v]) (hp' := h1) rfl ?_
        refine jE_iald (n := (h1 85 0)) (f := h1 82) rfl rfl (by omega) ?_
        refine jm_Ev.bl 4 (pc' := 738) (A' := [jR 82, jR 0, jR 56, jI i]) (st' := [jI (i + 3), jR 82, jI (h1 82 (i + 2)), jI (h1 82 (i + 1)), jR 56, jI v]) (hp' := h1) rfl ?_
        refine jE_iald (n := (h1 85 0)) (f := h1 82) rfl rfl (by omega) ?_
        refine jE_call (vs := [jR 56, jI (h1 82 (i + 1)), jI (h1 82 (i + 2)), jI (h1 82 (i + 3))]) (r := [jI v]) (nx := 742) rfl (show jm_Ev 206 0 (jm_en 206 [jR 56, jI (h1 82 (i + 1)), jI (h1 82 (i + 2)), jI (h1 82 (i + 3))]) [] h1 (fun rv2 h2 => rv2 = some (jI v) ∧ jREL xs ls (n + 1) h2) by rw [x3]; exact hm) (fun rv739 h2 hh2 => ?_)
        obtain ⟨rfl, hR2⟩ := hh2
        refine jE_icmp_eq rfl (by omega) (by omega) (fun c742 => ?_) (fun c742 => ?_)
        · refine jm_Ev.bl 2 (pc' := 18) (A' := [jR 82, jR 0, jR 56, jI (i + 4)]) (st' := []) (hp' := h2) rfl ?_
          exact ih (i + 4) (n + 1) h2 (by omega) (by omega) (by omega) hR2 (by omega)
        · exact absurd rfl c742
      · subst c32
        refine jm_Ev.bl 2 (pc' := 748) (A' := [jR 82, jR 0, jR 56, jI i]) (st' := [jR 0]) (hp' := h) rfl ?_
        refine jE_call (vs := [jR 0]) (r := []) (nx := 751) rfl (k_image xs ls n h hR hn  ) (fun rv748 h1 hh => ?_)
        obtain ⟨v, rfl, vr, ⟨x1, x2⟩, hm⟩ := hh
        have x3 : h1 82 = h 82 := x1.trans rX.1.symm
        have x4 : h1 85 0 = h 85 0 := by rw [x2, rX.2]
        refine jm_Ev.bl 1 (pc' := 752) (A' := [jR 82, jR 0, jR 56, jI i]) (st' := [jR 56, jI v]) (hp' := h1) rfl ?_
        refine jE_call (vs := [jR 56]) (r := [jI v]) (nx := 755) rfl (hm) (fun rv752 h2 hh2 => ?_)
        obtain ⟨rfl, hR2⟩ := hh2
        refine jE_icmp_eq rfl (by omega) (by omega) (fun c755 => ?_) (fun c755 => ?_)
        · refine jm_Ev.bl 2 (pc' := 18) (A' := [jR 82, jR 0, jR 56, jI (i + 4)]) (st' := []) (hp' := h2) rfl ?_
          exact ih (i + 4) (n + 1) h2 (by omega) (by omega) (by omega) hR2 (by omega)
        · exact absurd rfl c755
      · subst c32
        refine jm_Ev.bl 2 (pc' := 761) (A' := [jR 82, jR 0, jR 56, jI i]) (st' := [jR 0]) (hp' := h) rfl ?_
        refine jE_call (vs := [jR 0]) (r := []) (nx := 764) rfl (k_restore xs ls n h hR hn  ) (fun rv761 h1 hh => ?_)
        obtain ⟨v, rfl, vr, ⟨x1, x2⟩, hm⟩ := hh
        have x3 : h1 82 = h 82 := x1.trans rX.1.symm
        have x4 : h1 85 0 = h 85 0 := by rw [x2, rX.2]
        refine jm_Ev.bl 1 (pc' := 765) (A' := [jR 82, jR 0, jR 56, jI i]) (st' := [jR 56, jI v]) (hp' := h1) rfl ?_
        refine jE_call (vs := [jR 56]) (r := [jI v]) (nx := 768) rfl (hm) (fun rv765 h2 hh2 => ?_)
        obtain ⟨rfl, hR2⟩ := hh2
        refine jE_icmp_eq rfl (by omega) (by omega) (fun c768 => ?_) (fun c768 => ?_)
        · refine jm_Ev.bl 2 (pc' := 18) (A' := [jR 82, jR 0, jR 56, jI (i + 4)]) (st' := []) (hp' := h2) rfl ?_
          exact ih (i + 4) (n + 1) h2 (by omega) (by omega) (by omega) hR2 (by omega)
        · exact absurd rfl c768
      · subst c32
        refine jm_Ev.bl 6 (pc' := 778) (A' := [jR 82, jR 0, jR 56, jI i]) (st' := [jI (i + 1), jR 82, jR 0]) (hp' := h) rfl ?_
        refine jE_iald (n := (h 85 0)) (f := h 82) rfl rfl (by omega) ?_
        refine jE_call (vs := [jR 0, jI (h 82 (i + 1))]) (r := []) (nx := 782) rfl (k_count xs ls n h hR hn (h 82 (i + 1)) (by rw [rX.1]; exact hxs _)) (fun rv779 h1 hh => ?_)
        obtain ⟨v, rfl, vr, ⟨x1, x2⟩, hm⟩ := hh
        have x3 : h1 82 = h 82 := x1.trans rX.1.symm
        have x4 : h1 85 0 = h 85 0 := by rw [x2, rX.2]
        refine jm_Ev.bl 5 (pc' := 787) (A' := [jR 82, jR 0, jR 56, jI i]) (st' := [jI (i + 1), jR 82, jR 56, jI v]) (hp' := h1) rfl ?_
        refine jE_iald (n := (h1 85 0)) (f := h1 82) rfl rfl (by omega) ?_
        refine jE_call (vs := [jR 56, jI (h1 82 (i + 1))]) (r := [jI v]) (nx := 791) rfl (show jm_Ev 213 0 (jm_en 213 [jR 56, jI (h1 82 (i + 1))]) [] h1 (fun rv2 h2 => rv2 = some (jI v) ∧ jREL xs ls (n + 1) h2) by rw [x3]; exact hm) (fun rv788 h2 hh2 => ?_)
        obtain ⟨rfl, hR2⟩ := hh2
        refine jE_icmp_eq rfl (by omega) (by omega) (fun c791 => ?_) (fun c791 => ?_)
        · refine jm_Ev.bl 2 (pc' := 18) (A' := [jR 82, jR 0, jR 56, jI (i + 4)]) (st' := []) (hp' := h2) rfl ?_
          exact ih (i + 4) (n + 1) h2 (by omega) (by omega) (by omega) hR2 (by omega)
        · exact absurd rfl c791
      · subst c32
        refine jm_Ev.bl 2 (pc' := 797) (A' := [jR 82, jR 0, jR 56, jI i]) (st' := [jR 0]) (hp' := h) rfl ?_
        refine jE_call (vs := [jR 0]) (r := []) (nx := 800) rfl (k_digest xs ls n h hR hn) (fun rv797 h1 hh => ?_)
        obtain ⟨v, rfl, hm⟩ := hh
        refine jm_Ev.bl 1 (pc' := 801) (A' := [jR 82, jR 0, jR 56, jI i]) (st' := [jR 56, jL v]) (hp' := h1) rfl ?_
        refine jE_call (vs := [jR 56]) (r := [jL v]) (nx := 804) rfl (hm) (fun rv801 h2 hh2 => ?_)
        obtain ⟨rfl, hR2⟩ := hh2
        refine jE_lcmp_s rfl ?_
        refine jE_if_eq rfl (by omega) (fun _ => ?_) (fun c805 => absurd c805 (by omega))
        refine jm_Ev.bl 2 (pc' := 18) (A' := [jR 82, jR 0, jR 56, jI (i + 4)]) (st' := []) (hp' := h2) rfl ?_
        exact ih (i + 4) (n + 1) h2 (by omega) (by omega) (by omega) hR2 (by omega)
      · refine jE_tswd rfl (by exact swr) c32 ?_
        refine jm_Ev.bl 2 (pc' := 18) (A' := [jR 82, jR 0, jR 56, jI (i + 4)]) (st' := []) (hp' := h) rfl ?_
        exact ih (i + 4) n h (by omega) (by omega) (by omega) hR (by omega)
theorem jl_law (L : Nat) (xs : Nat → Int32) (hL : L ≤ 2048) : jm_Ev 217 16 [jR 82, jR 0, jR 56, jU] [] (jl_hp0 L xs) (fun rv _ => rv = some (jI 1)) := by
  refine jm_Ev.bl 2 (pc' := 18) (A' := [jR 82, jR 0, jR 56, jI 0]) (st' := []) (hp' := (jl_hp0 L xs)) rfl ?_
  exact k_law_L _ _ L hL rfl (fun j => jI32_r _) 2049 0 0 _ (by omega) (by omega) (by omega) (jREL_0 L xs) (by omega)
