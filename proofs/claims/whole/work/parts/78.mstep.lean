/-! the model's sums -/
theorem jdp_lt {P : Int → Int → Int} {f v : Int} (h : v < f) (n : Nat) : jdp P f n v = -1 := by
  cases n with
  | zero => unfold jdp; rw [if_neg (by omega)]
  | succ n => unfold jdp; rw [show (v - f).toNat = 0 by omega]; rfl
def jbg (hp : jm_H) (N f : Int) (P : Int → Int → Int) : Option jm_V → jm_H → Prop := fun rv h => rv = none ∧ (∀ v, 0 ≤ v → v < N → h 68 v = jdp P f 0 v) ∧ jFq hp h [68] []
def jPe (h : jm_H) (N : Int) (P : Int → Int → Int) : Prop := ∀ u v, 0 ≤ u → u < N → 0 ≤ v → v < N → h 67 (128 * u + v) = P u v
theorem jPe_fr {hp h : jm_H} {N : Int} {P : Int → Int → Int} (hq : jPe hp N P) (e : h 67 = hp 67) : jPe h N P := by
  unfold jPe at *
  rw [e]
  exact hq
theorem c_m_begin_L (hp : jm_H) (N f : Int) (P : Int → Int → Int) (hN : N ≤ 60) (hf : 0 ≤ f ∧ f < N) : ∀ (m : Nat) (v : Int) (h : jm_H), 0 ≤ v → v ≤ N → (∀ y, 0 ≤ y → y < v → h 68 y = jdp P f 0 y) → jFq hp h [68] [] → N - v < m → jm_Ev 165 2 [jR 56, jI f, jI N, jI v] [] h (jbg hp N f P) := by
  intro n
  induction n with
  | zero => intro v h h0 h1 hc hfr hm; omega
  | succ n ih =>
    intro v h h0 h1 hc hfr hm
    refine jm_Ev.bl 2 (pc' := 4) (A' := [jR 56, jI f, jI N, jI v]) (st' := [jI N, jI v]) (hp' := h) rfl ?_
    refine jE_icmp_ge rfl (by omega) (by omega) (fun c4 => ?_) (fun c4 => ?_)
    · exact jE_ret rfl ⟨rfl, fun y a b => hc y a (by omega), hfr⟩
    · refine jm_Ev.bl 5 (pc' := 14) (A' := [jR 56, jI f, jI N, jI v]) (st' := [jI f, jI v, jI v, jR 68]) (hp' := h) rfl ?_
      refine jE_icmp_ne rfl (by omega) (by omega) (fun c14 => ?_) (fun c14 => ?_)
      · refine jm_Ev.bl 1 (pc' := 22) (A' := [jR 56, jI f, jI N, jI v]) (st' := [jI (-1), jI v, jR 68]) (hp' := h) rfl ?_
        refine jE_iast (n := 128) rfl rfl (by omega) ?_
        refine jm_Ev.bl 2 (pc' := 2) (A' := [jR 56, jI f, jI N, jI (v + 1)]) (st' := []) (hp' := (jm_hs h 68 v (-1))) rfl ?_
        exact ih (v + 1) _ (by omega) (by omega) (jhs_lt hc (by unfold jdp; rw [if_neg c14])) (hfr.set (by simp)) (by omega)
      · refine jm_Ev.bl 2 (pc' := 22) (A' := [jR 56, jI f, jI N, jI v]) (st' := [jI 0, jI v, jR 68]) (hp' := h) rfl ?_
        refine jE_iast (n := 128) rfl rfl (by omega) ?_
        refine jm_Ev.bl 2 (pc' := 2) (A' := [jR 56, jI f, jI N, jI (v + 1)]) (st' := []) (hp' := (jm_hs h 68 v 0)) rfl ?_
        exact ih (v + 1) _ (by omega) (by omega) (jhs_lt hc (by unfold jdp; rw [if_pos c14])) (hfr.set (by simp)) (by omega)
theorem c_m_begin (hp : jm_H) (N f : Int) (P : Int → Int → Int) (hN : N ≤ 60) (hf : 0 ≤ f ∧ f < N) : jm_Ev 165 0 [jR 56, jI f, jI N, jU] [] hp (jbg hp N f P) := by
  refine jm_Ev.bl 2 (pc' := 2) (A' := [jR 56, jI f, jI N, jI 0]) (st' := []) (hp' := hp) rfl ?_
  exact c_m_begin_L hp N f P hN hf 61 0 hp (by omega) (by omega) (fun y a b => by omega) jFq.rf (by omega)
def jcl (hp : jm_H) (N f : Int) (P : Int → Int → Int) (t : Nat) : Option jm_V → jm_H → Prop := fun rv h => rv = some (jI (jdc N P f (t + 1)).1) ∧ ((jdc N P f (t + 1)).1 ≠ -1 → h 56 26 = (jdc N P f (t + 1)).2) ∧ jFq hp h [] [26]
theorem c_m_closed_L (hp : jm_H) (N f : Int) (P : Int → Int → Int) (hPw : jPw N P) (hpe : jPe hp N P) (hf : 0 ≤ f ∧ f < N) (t : Nat) (ht : t ≤ 60) (hs : ∀ v, 0 ≤ v → v < N → hp 68 v = jdp P f t v) : ∀ (m : Nat) (u : Int) (z1 : jm_V) (h : jm_H), f + 1 ≤ u → u ≤ N → ((jml (fun u => jad (jdp P f t u) (P u f)) (f + 1) (u - (f + 1)).toNat).1 ≠ -1 → h 56 26 = (jml (fun u => jad (jdp P f t u) (P u f)) (f + 1) (u - (f + 1)).toNat).2) → jFq hp h [] [26] → N - u < m → jm_Ev 164 7 [jR 56, jI f, jI N, jI ((jml (fun u => jad (jdp P f t u) (P u f)) (f + 1) (u - (f + 1)).toNat).1), jI u, z1] [] h (jcl hp N f P t) := by
  have hN4 := hPw.1
  have hN6 := hPw.2.1
  intro n
  induction n with
  | zero => intro u z1 h h0 h1 hl hfr hm; omega
  | succ n ih =>
    intro u z1 h h0 h1 hl hfr hm
    refine jm_Ev.bl 2 (pc' := 10) (A' := [jR 56, jI f, jI N, jI ((jml (fun u => jad (jdp P f t u) (P u f)) (f + 1) (u - (f + 1)).toNat).1), jI u, z1]) (st' := [jI N, jI u]) (hp' := h) rfl ?_
    refine jE_icmp_ge rfl (by omega) (by omega) (fun c10 => ?_) (fun c10 => ?_)
    · refine jm_Ev.bl 1 (pc' := 93) (A' := [jR 56, jI f, jI N, jI ((jml (fun u => jad (jdp P f t u) (P u f)) (f + 1) (u - (f + 1)).toNat).1), jI u, z1]) (st' := [jI ((jml (fun u => jad (jdp P f t u) (P u f)) (f + 1) (u - (f + 1)).toNat).1)]) (hp' := h) rfl ?_
      exact jE_ret rfl ⟨jrI (by unfold jdc; rw [show u = N by omega, show t + 1 - 1 = t by omega]), by unfold jdc; rw [show u = N by omega] at hl; rw [show t + 1 - 1 = t by omega]; exact hl, hfr⟩
    · have eD : h 68 u = jdp P f t u := (congrFun (hfr.pl 68 (by simp) (by simp)) u).trans (hs u (by omega) (by omega))
      have eP : h 67 (128 * u + f) = P u f := (congrFun (hfr.pl 67 (by simp) (by simp)) _).trans (hpe u f (by omega) (by omega) (by omega) (by omega))
      have hgn := jg_n hPw hf.1 hf.2 (n := t) (by omega) (u := u) (v := f) (by omega) (by omega) (by omega) (by omega)
      have hgi := hgn.2
      have hDn := jdp_n hPw hf.1 hf.2 t (by omega) u (by omega) (by omega)
      have hPn := hPw.2.2.1 u f (by omega) (by omega) (by omega) (by omega)
      have hDr : -1 ≤ jdp P f t u ∧ jdp P f t u ≤ 2147483647 := by
        rcases hDn with z | z
        · omega
        · have := z.2; unfold jfn at this; omega
      have hPr : -1 ≤ P u f ∧ P u f ≤ 2147483647 := by
        rcases hPn with z | z
        · omega
        · have := z.2; unfold jfn at this; omega
      have hms := jml_s (g := (fun u => jad (jdp P f t u) (P u f))) (b := f + 1) (u := u) (by omega)
      have hrr : -1 ≤ (jml (fun u => jad (jdp P f t u) (P u f)) (f + 1) (u - (f + 1)).toNat).1 ∧ (jml (fun u => jad (jdp P f t u) (P u f)) (f + 1) (u - (f + 1)).toNat).1 ≤ 2147483647 := by
        rcases jml_n (g := (fun u => jad (jdp P f t u) (P u f))) (b := f + 1) (E := 246) (k := (u - (f + 1)).toNat) (fun y a c => by
          rcases (jg_n hPw hf.1 hf.2 (n := t) (by omega) (u := y) (v := f) (by omega) (by omega) (by omega) (by omega)).1 with z | z
          · exact Or.inl z
          · exact Or.inr ⟨z.1, jfn_mono z.2 (by omega)⟩) with z | z
        · omega
        · have := z.2; unfold jfn at this; omega
      refine jm_Ev.bl 3 (pc' := 19) (A' := [jR 56, jI f, jI N, jI ((jml (fun u => jad (jdp P f t u) (P u f)) (f + 1) (u - (f + 1)).toNat).1), jI u, z1]) (st' := [jI u, jR 68]) (hp' := h) rfl ?_
      refine jE_iald (n := 128) (f := h 68) rfl rfl (by omega) ?_
      refine jE_top (w := (jdp P f t u)) (eD) ?_
      refine jm_Ev.bl 1 (pc' := 21) (A' := [jR 56, jI f, jI N, jI ((jml (fun u => jad (jdp P f t u) (P u f)) (f + 1) (u - (f + 1)).toNat).1), jI u, z1]) (st' := [jI (-1), jI (jdp P f t u)]) (hp' := h) rfl ?_
      refine jE_icmp_eq rfl (by omega) (by omega) (fun c21 => ?_) (fun c21 => ?_)
      · refine jm_Ev.bl 2 (pc' := 7) (A' := [jR 56, jI f, jI N, jI ((jml (fun u => jad (jdp P f t u) (P u f)) (f + 1) (u - (f + 1)).toNat).1), jI (u + 1), z1]) (st' := []) (hp' := h) rfl ?_
        have e : (jml (fun u => jad (jdp P f t u) (P u f)) (f + 1) (u + 1 - (f + 1)).toNat) = (jml (fun u => jad (jdp P f t u) (P u f)) (f + 1) (u - (f + 1)).toNat) := by rw [hms, if_neg (fun z => z.1 (hgi.mpr (Or.inl c21)))]
        have q := ih (u + 1) (z1) h (by omega) (by omega) (by rw [e]; exact hl) hfr (by omega)
        rw [e] at q
        exact q
      · refine jm_Ev.bl 7 (pc' := 36) (A' := [jR 56, jI f, jI N, jI ((jml (fun u => jad (jdp P f t u) (P u f)) (f + 1) (u - (f + 1)).toNat).1), jI u, z1]) (st' := [jI ((128 * u) + f), jR 67]) (hp' := h) rfl ?_
        refine jE_iald (n := 16384) (f := h 67) rfl rfl (by omega) ?_
        refine jE_top (w := (P u f)) (eP) ?_
        refine jm_Ev.bl 1 (pc' := 38) (A' := [jR 56, jI f, jI N, jI ((jml (fun u => jad (jdp P f t u) (P u f)) (f + 1) (u - (f + 1)).toNat).1), jI u, z1]) (st' := [jI (-1), jI (P u f)]) (hp' := h) rfl ?_
        refine jE_icmp_eq rfl (by omega) (by omega) (fun c38 => ?_) (fun c38 => ?_)
        · refine jm_Ev.bl 2 (pc' := 7) (A' := [jR 56, jI f, jI N, jI ((jml (fun u => jad (jdp P f t u) (P u f)) (f + 1) (u - (f + 1)).toNat).1), jI (u + 1), z1]) (st' := []) (hp' := h) rfl ?_
          have e : (jml (fun u => jad (jdp P f t u) (P u f)) (f + 1) (u + 1 - (f + 1)).toNat) = (jml (fun u => jad (jdp P f t u) (P u f)) (f + 1) (u - (f + 1)).toNat) := by rw [hms, if_neg (fun z => z.1 (hgi.mpr (Or.inr c38)))]
          have q := ih (u + 1) (z1) h (by omega) (by omega) (by rw [e]; exact hl) hfr (by omega)
          rw [e] at q
          exact q
        · have hD2 : 0 ≤ jdp P f t u ∧ jfn (145 + (t : Int)) (jdp P f t u) := by
            rcases hDn with z | z
            · exact absurd z c21
            · exact z
          have hP2 : 0 ≤ P u f ∧ jfn 145 (P u f) := by
            rcases hPn with z | z
            · exact absurd z c38
            · exact z
          have hD3 : jfn 249 (jdp P f t u) := jfn_mono hD2.2 (by omega)
          have hP3 : jfn 249 (P u f) := jfn_mono hP2.2 (by omega)
          have eG : jfa (jdp P f t u) (P u f) = (jad (jdp P f t u) (P u f)) := by
            unfold jad; rw [if_neg (fun z => by rcases z with z | z; exact c21 z; exact c38 z)]
          have hgne : (jad (jdp P f t u) (P u f)) ≠ -1 := fun z => by rcases hgi.mp z with z | z; exact c21 z; exact c38 z
          have hgr : 0 ≤ (jad (jdp P f t u) (P u f)) ∧ (jad (jdp P f t u) (P u f)) ≤ 2147483647 := by
            rcases hgn.1 with z | z
            · exact absurd z hgne
            · have := z.2; unfold jfn at this; omega
          refine jm_Ev.bl 3 (pc' := 47) (A' := [jR 56, jI f, jI N, jI ((jml (fun u => jad (jdp P f t u) (P u f)) (f + 1) (u - (f + 1)).toNat).1), jI u, z1]) (st' := [jI u, jR 68]) (hp' := h) rfl ?_
          refine jE_iald (n := 128) (f := h 68) rfl rfl (by omega) ?_
          refine jE_top (w := (jdp P f t u)) (eD) ?_
          refine jm_Ev.bl 7 (pc' := 60) (A' := [jR 56, jI f, jI N, jI ((jml (fun u => jad (jdp P f t u) (P u f)) (f + 1) (u - (f + 1)).toNat).1), jI u, z1]) (st' := [jI ((128 * u) + f), jR 67, jI (jdp P f t u)]) (hp' := h) rfl ?_
          refine jE_iald (n := 16384) (f := h 67) rfl rfl (by omega) ?_
          refine jE_top (w := (P u f)) (eP) ?_
          refine jE_callI (vs := [jI (jdp P f t u), jI (P u f)]) (r := []) (nx := 64) (v := jI (jad (jdp P f t u) (P u f))) (hp1 := h) rfl (eG ▸ c_m_added h (jdp P f t u) (P u f) hD3 hP3) ?_
          refine jm_Ev.bl 3 (pc' := 68) (A' := [jR 56, jI f, jI N, jI ((jml (fun u => jad (jdp P f t u) (P u f)) (f + 1) (u - (f + 1)).toNat).1), jI u, jI (jad (jdp P f t u) (P u f))]) (st' := [jI (-1), jI ((jml (fun u => jad (jdp P f t u) (P u f)) (f + 1) (u - (f + 1)).toNat).1)]) (hp' := h) rfl ?_
          refine jE_icmp_eq rfl (by omega) (by omega) (fun c68 => ?_) (fun c68 => ?_)
          · refine jm_Ev.bl 7 (pc' := 7) (A' := [jR 56, jI f, jI N, jI (jad (jdp P f t u) (P u f)), jI (u + 1), jI (jad (jdp P f t u) (P u f))]) (st' := []) (hp' := (jm_hs h 56 26 u)) rfl ?_
            have e : (jml (fun u => jad (jdp P f t u) (P u f)) (f + 1) (u + 1 - (f + 1)).toNat) = ((jad (jdp P f t u) (P u f)), u) := by rw [hms, if_pos ⟨hgne, Or.inl c68⟩]
            have q := ih (u + 1) (jI (jad (jdp P f t u) (P u f))) (jm_hs h 56 26 u) (by omega) (by omega) (fun _ => by rw [e]; rfl) (hfr.sf (by simp)) (by omega)
            rw [e] at q
            exact q
          · refine jm_Ev.bl 2 (pc' := 74) (A' := [jR 56, jI f, jI N, jI ((jml (fun u => jad (jdp P f t u) (P u f)) (f + 1) (u - (f + 1)).toNat).1), jI u, jI (jad (jdp P f t u) (P u f))]) (st' := [jI ((jml (fun u => jad (jdp P f t u) (P u f)) (f + 1) (u - (f + 1)).toNat).1), jI (jad (jdp P f t u) (P u f))]) (hp' := h) rfl ?_
            refine jE_icmp_ge rfl (by omega) (by omega) (fun c74 => ?_) (fun c74 => ?_)
            · refine jm_Ev.bl 2 (pc' := 7) (A' := [jR 56, jI f, jI N, jI ((jml (fun u => jad (jdp P f t u) (P u f)) (f + 1) (u - (f + 1)).toNat).1), jI (u + 1), jI (jad (jdp P f t u) (P u f))]) (st' := []) (hp' := h) rfl ?_
              have e : (jml (fun u => jad (jdp P f t u) (P u f)) (f + 1) (u + 1 - (f + 1)).toNat) = (jml (fun u => jad (jdp P f t u) (P u f)) (f + 1) (u - (f + 1)).toNat) := by rw [hms, if_neg (fun z => by rcases z.2 with z | z; exact c68 z; exact absurd z (by omega))]
              have q := ih (u + 1) (jI (jad (jdp P f t u) (P u f))) h (by omega) (by omega) (by rw [e]; exact hl) hfr (by omega)
              rw [e] at q
              exact q
            · refine jm_Ev.bl 7 (pc' := 7) (A' := [jR 56, jI f, jI N, jI (jad (jdp P f t u) (P u f)), jI (u + 1), jI (jad (jdp P f t u) (P u f))]) (st' := []) (hp' := (jm_hs h 56 26 u)) rfl ?_
              have e : (jml (fun u => jad (jdp P f t u) (P u f)) (f + 1) (u + 1 - (f + 1)).toNat) = ((jad (jdp P f t u) (P u f)), u) := by rw [hms, if_pos ⟨hgne, Or.inr c74⟩]
              have q := ih (u + 1) (jI (jad (jdp P f t u) (P u f))) (jm_hs h 56 26 u) (by omega) (by omega) (fun _ => by rw [e]; rfl) (hfr.sf (by simp)) (by omega)
              rw [e] at q
              exact q
theorem c_m_closed (hp : jm_H) (N f : Int) (P : Int → Int → Int) (hPw : jPw N P) (hpe : jPe hp N P) (hf : 0 ≤ f ∧ f < N) (t : Nat) (ht : t ≤ 60) (hs : ∀ v, 0 ≤ v → v < N → hp 68 v = jdp P f t v) : jm_Ev 164 0 [jR 56, jI f, jI N, jU, jU, jU] [] hp (jcl hp N f P t) := by
  have hN4 := hPw.1
  have hN6 := hPw.2.1
  refine jm_Ev.bl 6 (pc' := 7) (A' := [jR 56, jI f, jI N, jI (-1), jI (f + 1), jU]) (st' := []) (hp' := hp) rfl ?_
  have q := c_m_closed_L hp N f P hPw hpe hf t ht hs 61 (f + 1) jU hp (by omega) (by omega) (by rw [show (f + 1 - (f + 1)).toNat = 0 by omega]; exact fun z => absurd rfl z) jFq.rf (by omega)
  rw [show (f + 1 - (f + 1)).toNat = 0 by omega] at q
  exact q
def jst (hp : jm_H) (N f : Int) (P : Int → Int → Int) (t : Nat) : Option jm_V → jm_H → Prop := fun rv h => rv = none ∧ (∀ v, 0 ≤ v → v < N → h 68 v = jdp P f (t + 1) v) ∧ (∀ v, 0 ≤ v → v < N → jdp P f (t + 1) v ≠ -1 → h 70 (128 * ((t + 1 : Nat) : Int) + v) = jda P f (t + 1) v) ∧ (∀ j : Int, j < 128 * ((t + 1 : Nat) : Int) → h 70 j = hp 70 j) ∧ jFq hp h [68, 69, 70] []
/-- the steps so far of all below v -/
def jSt (h : jm_H) (f v N : Int) (P : Int → Int → Int) (t : Nat) : Prop := ∀ y, f < y → y < v → y < N → h 69 y = jdp P f (t + 1) y ∧ (jdp P f (t + 1) y ≠ -1 → h 70 (128 * ((t + 1 : Nat) : Int) + y) = jda P f (t + 1) y)
theorem c_m_step_2 {Q : Option jm_V → jm_H → Prop} (hp : jm_H) (N f : Int) (P : Int → Int → Int) (hPw : jPw N P) (hpe : jPe hp N P) (hf : 0 ≤ f ∧ f < N) (t : Nat) (ht : t ≤ 60) (hs : ∀ v, 0 ≤ v → v < N → hp 68 v = jdp P f t v) (v : Int) (hv : f < v ∧ v < N) (k : ∀ z2 z1 h, jSt h f (v + 1) N P t → (∀ j : Int, j < 128 * ((t + 1 : Nat) : Int) → h 70 j = hp 70 j) → jFq hp h [69, 70] [] → jm_Ev 163 137 [jR 56, jI f, jI N, jI ((t + 1 : Nat) : Int), jI v, z2, z1] [] h Q) : ∀ (m : Nat) (u : Int) (z1 : jm_V) (h : jm_H), f ≤ u → u ≤ v → jSt h f v N P t → h 69 v = (jml (fun u => jad (jdp P f t u) (P u v)) f (u - f).toNat).1 → ((jml (fun u => jad (jdp P f t u) (P u v)) f (u - f).toNat).1 ≠ -1 → h 70 (128 * ((t + 1 : Nat) : Int) + v) = (jml (fun u => jad (jdp P f t u) (P u v)) f (u - f).toNat).2) → (∀ j : Int, j < 128 * ((t + 1 : Nat) : Int) → h 70 j = hp 70 j) → jFq hp h [69, 70] [] → v - u < m → jm_Ev 163 22 [jR 56, jI f, jI N, jI ((t + 1 : Nat) : Int), jI v, jI u, z1] [] h Q := by
  have hN4 := hPw.1
  have hN6 := hPw.2.1
  intro n
  induction n with
  | zero => intro u z1 h h0 h1 hst h69 h70 ho hfr hm; omega
  | succ n ih =>
    intro u z1 h h0 h1 hst h69 h70 ho hfr hm
    refine jm_Ev.bl 2 (pc' := 26) (A' := [jR 56, jI f, jI N, jI ((t + 1 : Nat) : Int), jI v, jI u, z1]) (st' := [jI v, jI u]) (hp' := h) rfl ?_
    refine jE_icmp_ge rfl (by omega) (by omega) (fun c26 => ?_) (fun c26 => ?_)
    · exact k (jI u) (z1) h (by rw [show u = v by omega] at h69 h70; exact fun y a b c => by by_cases e : y = v; exact (by subst e; exact ⟨h69, fun z => h70 (fun w => z w)⟩); exact hst y a (by omega) c) ho hfr
    · have eD : h 68 u = jdp P f t u := (congrFun (hfr.pl 68 (by simp) (by simp)) u).trans (hs u (by omega) (by omega))
      have eP : h 67 (128 * u + v) = P u v := (congrFun (hfr.pl 67 (by simp) (by simp)) _).trans (hpe u v (by omega) (by omega) (by omega) (by omega))
      have hgn := jg_n hPw hf.1 hf.2 (n := t) (by omega) (u := u) (v := v) (by omega) (by omega) (by omega) (by omega)
      have hgi := hgn.2
      have hDn := jdp_n hPw hf.1 hf.2 t (by omega) u (by omega) (by omega)
      have hPn := hPw.2.2.1 u v (by omega) (by omega) (by omega) (by omega)
      have hDr : -1 ≤ jdp P f t u ∧ jdp P f t u ≤ 2147483647 := by
        rcases hDn with z | z
        · omega
        · have := z.2; unfold jfn at this; omega
      have hPr : -1 ≤ P u v ∧ P u v ≤ 2147483647 := by
        rcases hPn with z | z
        · omega
        · have := z.2; unfold jfn at this; omega
      have hms := jml_s (g := (fun u => jad (jdp P f t u) (P u v))) (b := f) (u := u) (by omega)
      have hrr : -1 ≤ (jml (fun u => jad (jdp P f t u) (P u v)) f (u - f).toNat).1 ∧ (jml (fun u => jad (jdp P f t u) (P u v)) f (u - f).toNat).1 ≤ 2147483647 := by
        rcases jml_n (g := (fun u => jad (jdp P f t u) (P u v))) (b := f) (E := 246) (k := (u - f).toNat) (fun y a c => by
          rcases (jg_n hPw hf.1 hf.2 (n := t) (by omega) (u := y) (v := v) (by omega) (by omega) (by omega) (by omega)).1 with z | z
          · exact Or.inl z
          · exact Or.inr ⟨z.1, jfn_mono z.2 (by omega)⟩) with z | z
        · omega
        · have := z.2; unfold jfn at this; omega
      refine jm_Ev.bl 3 (pc' := 35) (A' := [jR 56, jI f, jI N, jI ((t + 1 : Nat) : Int), jI v, jI u, z1]) (st' := [jI u, jR 68]) (hp' := h) rfl ?_
      refine jE_iald (n := 128) (f := h 68) rfl rfl (by omega) ?_
      refine jE_top (w := (jdp P f t u)) (eD) ?_
      refine jm_Ev.bl 1 (pc' := 37) (A' := [jR 56, jI f, jI N, jI ((t + 1 : Nat) : Int), jI v, jI u, z1]) (st' := [jI (-1), jI (jdp P f t u)]) (hp' := h) rfl ?_
      refine jE_icmp_eq rfl (by omega) (by omega) (fun c37 => ?_) (fun c37 => ?_)
      · refine jm_Ev.bl 2 (pc' := 22) (A' := [jR 56, jI f, jI N, jI ((t + 1 : Nat) : Int), jI v, jI (u + 1), z1]) (st' := []) (hp' := h) rfl ?_
        have e : (jml (fun u => jad (jdp P f t u) (P u v)) f (u + 1 - f).toNat) = (jml (fun u => jad (jdp P f t u) (P u v)) f (u - f).toNat) := by rw [hms, if_neg (fun z => z.1 (hgi.mpr (Or.inl c37)))]
        exact ih (u + 1) (z1) h (by omega) (by omega) hst (by rw [e]; exact h69) (by rw [e]; exact h70) ho hfr (by omega)
      · refine jm_Ev.bl 7 (pc' := 53) (A' := [jR 56, jI f, jI N, jI ((t + 1 : Nat) : Int), jI v, jI u, z1]) (st' := [jI ((128 * u) + v), jR 67]) (hp' := h) rfl ?_
        refine jE_iald (n := 16384) (f := h 67) rfl rfl (by omega) ?_
        refine jE_top (w := (P u v)) (eP) ?_
        refine jm_Ev.bl 1 (pc' := 55) (A' := [jR 56, jI f, jI N, jI ((t + 1 : Nat) : Int), jI v, jI u, z1]) (st' := [jI (-1), jI (P u v)]) (hp' := h) rfl ?_
        refine jE_icmp_eq rfl (by omega) (by omega) (fun c55 => ?_) (fun c55 => ?_)
        · refine jm_Ev.bl 2 (pc' := 22) (A' := [jR 56, jI f, jI N, jI ((t + 1 : Nat) : Int), jI v, jI (u + 1), z1]) (st' := []) (hp' := h) rfl ?_
          have e : (jml (fun u => jad (jdp P f t u) (P u v)) f (u + 1 - f).toNat) = (jml (fun u => jad (jdp P f t u) (P u v)) f (u - f).toNat) := by rw [hms, if_neg (fun z => z.1 (hgi.mpr (Or.inr c55)))]
          exact ih (u + 1) (z1) h (by omega) (by omega) hst (by rw [e]; exact h69) (by rw [e]; exact h70) ho hfr (by omega)
        · have hD2 : 0 ≤ jdp P f t u ∧ jfn (145 + (t : Int)) (jdp P f t u) := by
            rcases hDn with z | z
            · exact absurd z c37
            · exact z
          have hP2 : 0 ≤ P u v ∧ jfn 145 (P u v) := by
            rcases hPn with z | z
            · exact absurd z c55
            · exact z
          have hD3 : jfn 249 (jdp P f t u) := jfn_mono hD2.2 (by omega)
          have hP3 : jfn 249 (P u v) := jfn_mono hP2.2 (by omega)
          have eG : jfa (jdp P f t u) (P u v) = (jad (jdp P f t u) (P u v)) := by
            unfold jad; rw [if_neg (fun z => by rcases z with z | z; exact c37 z; exact c55 z)]
          have hgne : (jad (jdp P f t u) (P u v)) ≠ -1 := fun z => by rcases hgi.mp z with z | z; exact c37 z; exact c55 z
          have hgr : 0 ≤ (jad (jdp P f t u) (P u v)) ∧ (jad (jdp P f t u) (P u v)) ≤ 2147483647 := by
            rcases hgn.1 with z | z
            · exact absurd z hgne
            · have := z.2; unfold jfn at this; omega
          refine jm_Ev.bl 3 (pc' := 64) (A' := [jR 56, jI f, jI N, jI ((t + 1 : Nat) : Int), jI v, jI u, z1]) (st' := [jI u, jR 68]) (hp' := h) rfl ?_
          refine jE_iald (n := 128) (f := h 68) rfl rfl (by omega) ?_
          refine jE_top (w := (jdp P f t u)) (eD) ?_
          refine jm_Ev.bl 7 (pc' := 78) (A' := [jR 56, jI f, jI N, jI ((t + 1 : Nat) : Int), jI v, jI u, z1]) (st' := [jI ((128 * u) + v), jR 67, jI (jdp P f t u)]) (hp' := h) rfl ?_
          refine jE_iald (n := 16384) (f := h 67) rfl rfl (by omega) ?_
          refine jE_top (w := (P u v)) (eP) ?_
          refine jE_callI (vs := [jI (jdp P f t u), jI (P u v)]) (r := []) (nx := 82) (v := jI (jad (jdp P f t u) (P u v))) (hp1 := h) rfl (eG ▸ c_m_added h (jdp P f t u) (P u v) hD3 hP3) ?_
          refine jm_Ev.bl 4 (pc' := 90) (A' := [jR 56, jI f, jI N, jI ((t + 1 : Nat) : Int), jI v, jI u, jI (jad (jdp P f t u) (P u v))]) (st' := [jI v, jR 69]) (hp' := h) rfl ?_
          refine jE_iald (n := 128) (f := h 69) rfl rfl (by omega) ?_
          refine jE_top (w := (jml (fun u => jad (jdp P f t u) (P u v)) f (u - f).toNat).1) (h69) ?_
          refine jm_Ev.bl 1 (pc' := 92) (A' := [jR 56, jI f, jI N, jI ((t + 1 : Nat) : Int), jI v, jI u, jI (jad (jdp P f t u) (P u v))]) (st' := [jI (-1), jI ((jml (fun u => jad (jdp P f t u) (P u v)) f (u - f).toNat).1)]) (hp' := h) rfl ?_
          refine jE_icmp_eq rfl (by omega) (by omega) (fun c92 => ?_) (fun c92 => ?_)
          · refine jm_Ev.bl 4 (pc' := 115) (A' := [jR 56, jI f, jI N, jI ((t + 1 : Nat) : Int), jI v, jI u, jI (jad (jdp P f t u) (P u v))]) (st' := [jI (jad (jdp P f t u) (P u v)), jI v, jR 69]) (hp' := h) rfl ?_
            refine jE_iast (n := 128) rfl rfl (by omega) ?_
            refine jm_Ev.bl 8 (pc' := 130) (A' := [jR 56, jI f, jI N, jI ((t + 1 : Nat) : Int), jI v, jI u, jI (jad (jdp P f t u) (P u v))]) (st' := [jI u, jI ((128 * ((t + 1 : Nat) : Int)) + v), jR 70]) (hp' := (jm_hs h 69 v (jad (jdp P f t u) (P u v)))) rfl ?_
            refine jE_iast (n := 16384) rfl rfl (by omega) ?_
            refine jm_Ev.bl 2 (pc' := 22) (A' := [jR 56, jI f, jI N, jI ((t + 1 : Nat) : Int), jI v, jI (u + 1), jI (jad (jdp P f t u) (P u v))]) (st' := []) (hp' := (jm_hs (jm_hs h 69 v (jad (jdp P f t u) (P u v))) 70 ((128 * ((t + 1 : Nat) : Int)) + v) u)) rfl ?_
            have e : (jml (fun u => jad (jdp P f t u) (P u v)) f (u + 1 - f).toNat) = ((jad (jdp P f t u) (P u v)), u) := by rw [hms, if_pos ⟨hgne, Or.inl c92⟩]
            exact ih (u + 1) (jI (jad (jdp P f t u) (P u v))) (jm_hs (jm_hs h 69 v (jad (jdp P f t u) (P u v))) 70 ((128 * ((t + 1 : Nat) : Int)) + v) u) (by omega) (by omega) (fun y a b c => by show jm_hs h 69 v _ 69 y = _ ∧ (_ → jm_hs (jm_hs h 69 v _) 70 _ u 70 _ = _); rw [js_hs_eq, js_hs_eq, if_neg (by omega), if_neg (by omega)]; exact hst y a b c) (by rw [e]; show jm_hs h 69 v _ 69 v = _; rw [js_hs_eq, if_pos rfl]) (fun _ => by rw [e]; show jm_hs (jm_hs h 69 v _) 70 _ u 70 _ = _; rw [js_hs_eq, if_pos rfl]) (fun j a => by show jm_hs (jm_hs h 69 v _) 70 _ u 70 j = _; rw [js_hs_eq, if_neg (by omega)]; exact ho j a) ((hfr.set (by simp)).set (by simp)) (by omega)
          · refine jm_Ev.bl 4 (pc' := 103) (A' := [jR 56, jI f, jI N, jI ((t + 1 : Nat) : Int), jI v, jI u, jI (jad (jdp P f t u) (P u v))]) (st' := [jI v, jR 69, jI (jad (jdp P f t u) (P u v))]) (hp' := h) rfl ?_
            refine jE_iald (n := 128) (f := h 69) rfl rfl (by omega) ?_
            refine jE_top (w := (jml (fun u => jad (jdp P f t u) (P u v)) f (u - f).toNat).1) (h69) ?_
            refine jE_icmp_ge rfl (by omega) (by omega) (fun c104 => ?_) (fun c104 => ?_)
            · refine jm_Ev.bl 2 (pc' := 22) (A' := [jR 56, jI f, jI N, jI ((t + 1 : Nat) : Int), jI v, jI (u + 1), jI (jad (jdp P f t u) (P u v))]) (st' := []) (hp' := h) rfl ?_
              have e : (jml (fun u => jad (jdp P f t u) (P u v)) f (u + 1 - f).toNat) = (jml (fun u => jad (jdp P f t u) (P u v)) f (u - f).toNat) := by rw [hms, if_neg (fun z => by rcases z.2 with z | z; exact c92 z; exact absurd z (by omega))]
              exact ih (u + 1) (jI (jad (jdp P f t u) (P u v))) h (by omega) (by omega) hst (by rw [e]; exact h69) (by rw [e]; exact h70) ho hfr (by omega)
            · refine jm_Ev.bl 4 (pc' := 115) (A' := [jR 56, jI f, jI N, jI ((t + 1 : Nat) : Int), jI v, jI u, jI (jad (jdp P f t u) (P u v))]) (st' := [jI (jad (jdp P f t u) (P u v)), jI v, jR 69]) (hp' := h) rfl ?_
              refine jE_iast (n := 128) rfl rfl (by omega) ?_
              refine jm_Ev.bl 8 (pc' := 130) (A' := [jR 56, jI f, jI N, jI ((t + 1 : Nat) : Int), jI v, jI u, jI (jad (jdp P f t u) (P u v))]) (st' := [jI u, jI ((128 * ((t + 1 : Nat) : Int)) + v), jR 70]) (hp' := (jm_hs h 69 v (jad (jdp P f t u) (P u v)))) rfl ?_
              refine jE_iast (n := 16384) rfl rfl (by omega) ?_
              refine jm_Ev.bl 2 (pc' := 22) (A' := [jR 56, jI f, jI N, jI ((t + 1 : Nat) : Int), jI v, jI (u + 1), jI (jad (jdp P f t u) (P u v))]) (st' := []) (hp' := (jm_hs (jm_hs h 69 v (jad (jdp P f t u) (P u v))) 70 ((128 * ((t + 1 : Nat) : Int)) + v) u)) rfl ?_
              have e : (jml (fun u => jad (jdp P f t u) (P u v)) f (u + 1 - f).toNat) = ((jad (jdp P f t u) (P u v)), u) := by rw [hms, if_pos ⟨hgne, Or.inr c104⟩]
              exact ih (u + 1) (jI (jad (jdp P f t u) (P u v))) (jm_hs (jm_hs h 69 v (jad (jdp P f t u) (P u v))) 70 ((128 * ((t + 1 : Nat) : Int)) + v) u) (by omega) (by omega) (fun y a b c => by show jm_hs h 69 v _ 69 y = _ ∧ (_ → jm_hs (jm_hs h 69 v _) 70 _ u 70 _ = _); rw [js_hs_eq, js_hs_eq, if_neg (by omega), if_neg (by omega)]; exact hst y a b c) (by rw [e]; show jm_hs h 69 v _ 69 v = _; rw [js_hs_eq, if_pos rfl]) (fun _ => by rw [e]; show jm_hs (jm_hs h 69 v _) 70 _ u 70 _ = _; rw [js_hs_eq, if_pos rfl]) (fun j a => by show jm_hs (jm_hs h 69 v _) 70 _ u 70 j = _; rw [js_hs_eq, if_neg (by omega)]; exact ho j a) ((hfr.set (by simp)).set (by simp)) (by omega)
theorem c_m_step_1 {Q : Option jm_V → jm_H → Prop} (hp : jm_H) (N f : Int) (P : Int → Int → Int) (hPw : jPw N P) (hpe : jPe hp N P) (hf : 0 ≤ f ∧ f < N) (t : Nat) (ht : t ≤ 60) (hs : ∀ v, 0 ≤ v → v < N → hp 68 v = jdp P f t v) (k : ∀ z3 z2 z1 h, jSt h f N N P t → (∀ j : Int, j < 128 * ((t + 1 : Nat) : Int) → h 70 j = hp 70 j) → jFq hp h [69, 70] [] → jm_Ev 163 143 [jR 56, jI f, jI N, jI ((t + 1 : Nat) : Int), z3, z2, z1] [] h Q) : ∀ (m : Nat) (v : Int) (z2 z1 : jm_V) (h : jm_H), f < v → v ≤ N → jSt h f v N P t → (∀ j : Int, j < 128 * ((t + 1 : Nat) : Int) → h 70 j = hp 70 j) → jFq hp h [69, 70] [] → N - v < m → jm_Ev 163 5 [jR 56, jI f, jI N, jI ((t + 1 : Nat) : Int), jI v, z2, z1] [] h Q := by
  have hN4 := hPw.1
  have hN6 := hPw.2.1
  intro n
  induction n with
  | zero => intro v z2 z1 h h0 h1 hst ho hfr hm; omega
  | succ n ih =>
    intro v z2 z1 h h0 h1 hst ho hfr hm
    refine jm_Ev.bl 2 (pc' := 8) (A' := [jR 56, jI f, jI N, jI ((t + 1 : Nat) : Int), jI v, z2, z1]) (st' := [jI N, jI v]) (hp' := h) rfl ?_
    refine jE_icmp_ge rfl (by omega) (by omega) (fun c8 => ?_) (fun c8 => ?_)
    · exact k (jI v) (z2) (z1) h (fun y a _ c => hst y a (by omega) c) ho hfr
    · refine jm_Ev.bl 4 (pc' := 18) (A' := [jR 56, jI f, jI N, jI ((t + 1 : Nat) : Int), jI v, z2, z1]) (st' := [jI (-1), jI v, jR 69]) (hp' := h) rfl ?_
      refine jE_iast (n := 128) rfl rfl (by omega) ?_
      refine jm_Ev.bl 2 (pc' := 22) (A' := [jR 56, jI f, jI N, jI ((t + 1 : Nat) : Int), jI v, jI f, z1]) (st' := []) (hp' := (jm_hs h 69 v (-1))) rfl ?_
      refine c_m_step_2 hp N f P hPw hpe hf t ht hs v (by omega) (fun z2' z1' h' hst' ho' hfr' => ?_) 61 f (z1) (jm_hs h 69 v (-1)) (by omega) (by omega) (fun y a b c => by show jm_hs h 69 v _ 69 y = _ ∧ _; rw [js_hs_eq, if_neg (by omega)]; exact hst y a b c) (by rw [show (f - f).toNat = 0 by omega, js_hs_eq, if_pos rfl]; rfl) (by rw [show (f - f).toNat = 0 by omega]; exact fun z => absurd rfl z) (fun j a => ho j a) (hfr.set (by simp)) (by omega)
      refine jm_Ev.bl 2 (pc' := 5) (A' := [jR 56, jI f, jI N, jI ((t + 1 : Nat) : Int), jI (v + 1), z2', z1']) (st' := []) (hp' := h') rfl ?_
      exact ih (v + 1) z2' z1' h' (by omega) (by omega) hst' ho' hfr' (by omega)
theorem c_m_step_3 (hp : jm_H) (N f : Int) (P : Int → Int → Int) (hN : N ≤ 60) (hf : 0 ≤ f ∧ f < N) (t : Nat) : ∀ (m : Nat) (v : Int) (z2 z1 : jm_V) (h : jm_H), f < v → v ≤ N → (∀ y, f < y → y < v → h 68 y = jdp P f (t + 1) y) → (∀ y, 0 ≤ y → y < f → h 68 y = -1) → jSt h f N N P t → (∀ j : Int, j < 128 * ((t + 1 : Nat) : Int) → h 70 j = hp 70 j) → jFq hp h [68, 69, 70] [] → N - v < m → jm_Ev 163 148 [jR 56, jI f, jI N, jI ((t + 1 : Nat) : Int), jI v, z2, z1] [] h (jst hp N f P t) := by
  intro n
  induction n with
  | zero => intro v z2 z1 h h0 h1 hc hlo hst ho hfr hm; omega
  | succ n ih =>
    intro v z2 z1 h h0 h1 hc hlo hst ho hfr hm
    refine jm_Ev.bl 2 (pc' := 151) (A' := [jR 56, jI f, jI N, jI ((t + 1 : Nat) : Int), jI v, z2, z1]) (st' := [jI N, jI v]) (hp' := h) rfl ?_
    refine jE_icmp_ge rfl (by omega) (by omega) (fun c151 => ?_) (fun c151 => ?_)
    · refine jm_Ev.bl 4 (pc' := 180) (A' := [jR 56, jI f, jI N, jI ((t + 1 : Nat) : Int), jI v, z2, z1]) (st' := [jI (-1), jI f, jR 68]) (hp' := h) rfl ?_
      refine jE_iast (n := 128) rfl rfl (by omega) ?_
      refine jE_ret rfl ⟨rfl, fun y a b => ?_, fun y a b c => ?_, fun j a => ho j a, hfr.set (by simp)⟩
      · rw [js_hs_eq]
        by_cases e : y = f
        · rw [if_pos e, e, jdp_f.1]
        · rw [if_neg e]
          rcases (show y < f ∨ f < y by omega) with d | d
          · rw [jdp_lt d, hlo y a d]
          · exact hc y d (by omega)
      · by_cases d : f < y
        · exact (hst y d b b).2 c
        · rcases (show y < f ∨ y = f by omega) with e | e
          · exact absurd (jdp_lt e _) c
          · subst e; exact absurd jdp_f.1 c
    · refine jm_Ev.bl 6 (pc' := 166) (A' := [jR 56, jI f, jI N, jI ((t + 1 : Nat) : Int), jI v, z2, z1]) (st' := [jI v, jR 69, jI v, jR 68]) (hp' := h) rfl ?_
      refine jE_iald (n := 128) (f := h 69) rfl rfl (by omega) ?_
      refine jE_top (w := (jdp P f (t + 1) v)) ((hst v (by omega) (by omega) (by omega)).1) ?_
      refine jE_iast (n := 128) rfl rfl (by omega) ?_
      refine jm_Ev.bl 2 (pc' := 148) (A' := [jR 56, jI f, jI N, jI ((t + 1 : Nat) : Int), jI (v + 1), z2, z1]) (st' := []) (hp' := (jm_hs h 68 v (jdp P f (t + 1) v))) rfl ?_
      exact ih (v + 1) (z2) (z1) _ (by omega) (by omega) (fun y a b => by show jm_hs h 68 v _ 68 y = _; rw [js_hs_eq]; by_cases e : y = v; exact (by rw [if_pos e, e]); rw [if_neg e]; exact hc y a (by omega)) (fun y a b => by show jm_hs h 68 v _ 68 y = _; rw [js_hs_eq, if_neg (by omega)]; exact hlo y a b) (fun y a b c => hst y a b c) (fun j a => ho j a) (hfr.set (by simp)) (by omega)
theorem c_m_step (hp : jm_H) (N f : Int) (P : Int → Int → Int) (hPw : jPw N P) (hpe : jPe hp N P) (hf : 0 ≤ f ∧ f < N) (t : Nat) (ht : t ≤ 60) (hs : ∀ v, 0 ≤ v → v < N → hp 68 v = jdp P f t v) : jm_Ev 163 0 [jR 56, jI f, jI N, jI ((t + 1 : Nat) : Int), jU, jU, jU] [] hp (jst hp N f P t) := by
  have hN4 := hPw.1
  have hN6 := hPw.2.1
  refine jm_Ev.bl 4 (pc' := 5) (A' := [jR 56, jI f, jI N, jI ((t + 1 : Nat) : Int), jI (f + 1), jU, jU]) (st' := []) (hp' := hp) rfl ?_
  refine c_m_step_1 hp N f P hPw hpe hf t ht hs (fun z3 z2 z1 h hst ho hfr => ?_) 61 (f + 1) jU jU hp (by omega) (by omega) (fun y a b c => by omega) (fun _ _ => rfl) jFq.rf (by omega)
  refine jm_Ev.bl 4 (pc' := 148) (A' := [jR 56, jI f, jI N, jI ((t + 1 : Nat) : Int), jI (f + 1), z2, z1]) (st' := []) (hp' := h) rfl ?_
  exact c_m_step_3 hp N f P (by omega) hf t 61 (f + 1) z2 z1 h (by omega) (by omega) (fun y a b => by omega) (fun y a b => by rw [show h 68 = hp 68 from hfr.pl 68 (by simp) (by simp), hs y a (by omega)]; exact jdp_lt b t) hst ho (hfr.wk (by simp) (by simp)) (by omega)
