/-! the class's BestPolygons: sumRound -/
def jSm (h : jm_H) (f n v N : Int) (P : Int → Int → Int) : Prop := ∀ m w, 0 ≤ m → f ≤ w → w < N → (m < n ∨ (m = n ∧ w < v)) → h 41 (m * 60 + w) = (jfe (jdp P f m.toNat w) : Int) ∧ (1 ≤ m → h 42 (m * 60 + w) = jda P f m.toNat w)
theorem jSm_set {h : jm_H} {f n v N : Int} {P : Int → Int → Int} (hs : jSm h f n v N P) (hN : N ≤ 60) (f0 : 0 ≤ f) (n0 : 0 ≤ n) (fv : f ≤ v) (vN : v < N) {z : Nat} {a : Int} (hz : z = jfe (jdp P f n.toNat v)) (ha : 1 ≤ n → a = jda P f n.toNat v) : jSm (jm_hs (jm_hs h 41 (n * 60 + v) (z : Int)) 42 (n * 60 + v) a) f n (v + 1) N P := by
  intro m w m0 w0 w1 hmw
  show jm_hs h 41 (n * 60 + v) (z : Int) 41 (m * 60 + w) = _ ∧ (1 ≤ m → jm_hs (jm_hs h 41 (n * 60 + v) (z : Int)) 42 (n * 60 + v) a 42 (m * 60 + w) = _)
  rw [js_hs_eq, js_hs_eq]
  by_cases e : m * 60 + w = n * 60 + v
  · have e1 : m = n := by omega
    have e2 : w = v := by omega
    subst e1 e2
    rw [if_pos rfl, if_pos rfl, hz]
    exact ⟨rfl, ha⟩
  · rw [if_neg e, if_neg e]
    exact hs m w m0 w0 w1 (by omega)
theorem jSm_nx {h : jm_H} {f n N : Int} {P : Int → Int → Int} (hs : jSm h f n N N P) : jSm h f (n + 1) f N P := fun m w m0 w0 w1 hmw => hs m w m0 w0 w1 (by omega)
theorem jSm_fr {h h' : jm_H} {f n v N : Int} {P : Int → Int → Int} (hs : jSm h f n v N P) (e1 : h' 41 = h 41) (e2 : h' 42 = h 42) : jSm h' f n v N P := by
  unfold jSm at *
  rw [e1, e2]
  exact hs
/-- what a row of sums needs of the rest -/
def jBq (h : jm_H) (N : Int) (P : Int → Int → Int) : Prop := jJr (h 32) N P ∧ ∀ u v, 0 ≤ u → u < N → 0 ≤ v → v < N → (P u v = -1 ∨ (0 ≤ P u v ∧ jfn 145 (P u v) ∧ h 40 (u * 60 + v) = P u v))
theorem jBq_fr {hp h : jm_H} {N : Int} {P : Int → Int → Int} (hq : jBq hp N P) (e1 : h 32 = hp 32) (e2 : h 40 = hp 40) : jBq h N P := by
  unfold jBq at *
  rw [e1, e2]
  exact hq
def jsr (hp : jm_H) (f S N : Int) (P : Int → Int → Int) : Option jm_V → jm_H → Prop := fun rv h => rv = some (jF (jfe (jdc N P f S.toNat).1)) ∧ jSm h f (S - 1) N N P ∧ h 33 11 = N ∧ h 33 12 = (jdc N P f S.toNat).2 ∧ jFr hp h [33, 41, 42]
theorem jdp_f {P : Int → Int → Int} {f : Int} {n : Nat} : jdp P f (n + 1) f = -1 ∧ jda P f (n + 1) f = -1 := by
  unfold jdp jda
  rw [show (f - f).toNat = 0 by omega]
  exact ⟨rfl, rfl⟩
theorem c_b_round_3 {Q : Option jm_V → jm_H → Prop} (hp : jm_H) (N : Int) (P : Int → Int → Int) (hPw : jPw N P) (hq : jBq hp N P) (f S : Int) (hf : 0 ≤ f ∧ f < N) (hS : 3 ≤ S ∧ S ≤ N) (t : Int) (hn : 1 ≤ t ∧ t < S) (k : ∀ z2 z1 h, jSm h f t N N P → h 33 11 = N → jFr hp h [33, 41, 42] → jm_Ev 16 97 [jR 33, jI f, jI S, jI t, z2, z1] [] h Q) : ∀ (m : Nat) (v : Int) (z1 : jm_V) (h : jm_H), f < v → v ≤ N → jSm h f t v N P → h 33 11 = N → jFr hp h [33, 41, 42] → N - v < m → jm_Ev 16 57 [jR 33, jI f, jI S, jI t, jI v, z1] [] h Q := by
  have hN4 := hPw.1
  have hN6 := hPw.2.1
  intro n
  induction n with
  | zero => intro v z1 h h0 h1 hs e11 hfr hm; omega
  | succ n ih =>
    intro v z1 h h0 h1 hs e11 hfr hm
    refine jm_Ev.bl 3 (pc' := 63) (A' := [jR 33, jI f, jI S, jI t, jI v, z1]) (st' := [jI (h 33 11), jI v]) (hp' := h) rfl ?_
    rw [e11]
    refine jE_icmp_ge rfl (by omega) (by omega) (fun c63 => ?_) (fun c63 => ?_)
    · exact k (jI v) (z1) h (by rw [show v = N by omega] at hs; exact hs) e11 hfr
    · refine jm_Ev.bl 5 (pc' := 73) (A' := [jR 33, jI f, jI S, jI t, jI v, z1]) (st' := [jI v, jI f, jI t, jI v, jR 33]) (hp' := h) rfl ?_
      refine jE_callI (vs := [jR 33, jI v, jI t, jI f, jI v]) (r := []) (nx := 76) (v := jF (jfe (jml (fun u => jad (jdp P f (t - 1).toNat u) (P u v)) f (v - f).toNat).1)) (hp1 := (jm_hs h 33 12 (jml (fun u => jad (jdp P f (t - 1).toNat u) (P u v)) f (v - f).toNat).2)) rfl (c_b_leastInto h N P (jBq_fr hq (hfr 32 (by simp)) (hfr 40 (by simp))).1 (by omega) (jdp P f (t - 1).toNat) v t f v (by omega) (by omega) (by omega) (by omega) (jBq_fr hq (hfr 32 (by simp)) (hfr 40 (by simp))).2 (fun u a b => ⟨(hs (t - 1) u (by omega) a (by omega) (by omega)).1, by rcases jdp_n hPw hf.1 hf.2 (t - 1).toNat (by omega) u (by omega) (by omega) with z | z; exact Or.inl z; exact Or.inr ⟨z.1, jfn_mono z.2 (by omega)⟩⟩) (by omega)) ?_
      refine jm_Ev.bl 7 (pc' := 88) (A' := [jR 33, jI f, jI S, jI t, jI v, jF (jfe (jml (fun u => jad (jdp P f (t - 1).toNat u) (P u v)) f (v - f).toNat).1)]) (st' := [jI ((jm_hs h 33 12 (jml (fun u => jad (jdp P f (t - 1).toNat u) (P u v)) f (v - f).toNat).2) 33 12), jF (jfe (jml (fun u => jad (jdp P f (t - 1).toNat u) (P u v)) f (v - f).toNat).1), jI v, jI t, jR 33]) (hp' := (jm_hs h 33 12 (jml (fun u => jad (jdp P f (t - 1).toNat u) (P u v)) f (v - f).toNat).2)) rfl ?_
      refine jE_top (w := (jml (fun u => jad (jdp P f (t - 1).toNat u) (P u v)) f (v - f).toNat).2) rfl ?_
      refine jE_callV (vs := [jR 33, jI t, jI v, jF (jfe (jml (fun u => jad (jdp P f (t - 1).toNat u) (P u v)) f (v - f).toNat).1), jI ((jml (fun u => jad (jdp P f (t - 1).toNat u) (P u v)) f (v - f).toNat).2)]) (r := []) (nx := 91) (hp1 := (jm_hs (jm_hs (jm_hs h 33 12 (jml (fun u => jad (jdp P f (t - 1).toNat u) (P u v)) f (v - f).toNat).2) 41 (t * 60 + v) ((jfe (jml (fun u => jad (jdp P f (t - 1).toNat u) (P u v)) f (v - f).toNat).1) : Int)) 42 (t * 60 + v) ((jml (fun u => jad (jdp P f (t - 1).toNat u) (P u v)) f (v - f).toNat).2))) rfl (c_b_setSum (jm_hs h 33 12 (jml (fun u => jad (jdp P f (t - 1).toNat u) (P u v)) f (v - f).toNat).2) t v ((jml (fun u => jad (jdp P f (t - 1).toNat u) (P u v)) f (v - f).toNat).2) (jfe (jml (fun u => jad (jdp P f (t - 1).toNat u) (P u v)) f (v - f).toNat).1) (by omega)) ?_
      refine jm_Ev.bl 2 (pc' := 57) (A' := [jR 33, jI f, jI S, jI t, jI (v + 1), jF (jfe (jml (fun u => jad (jdp P f (t - 1).toNat u) (P u v)) f (v - f).toNat).1)]) (st' := []) (hp' := (jm_hs (jm_hs (jm_hs h 33 12 (jml (fun u => jad (jdp P f (t - 1).toNat u) (P u v)) f (v - f).toNat).2) 41 (t * 60 + v) ((jfe (jml (fun u => jad (jdp P f (t - 1).toNat u) (P u v)) f (v - f).toNat).1) : Int)) 42 (t * 60 + v) ((jml (fun u => jad (jdp P f (t - 1).toNat u) (P u v)) f (v - f).toNat).2))) rfl ?_
      exact ih (v + 1) (jF (jfe (jml (fun u => jad (jdp P f (t - 1).toNat u) (P u v)) f (v - f).toNat).1)) _ (by omega) (by omega) (jSm_set (jSm_fr (h := h) hs rfl rfl) (by omega) hf.1 (by omega) (by omega) (by omega) (by rw [show t.toNat = (t - 1).toNat + 1 by omega]; rfl) (fun _ => by unfold jda; rw [show t.toNat - 1 = (t - 1).toNat by omega])) e11 (((hfr.set (by simp)).set (by simp)).set (by simp)) (by omega)
theorem c_b_round_2 (hp : jm_H) (N : Int) (P : Int → Int → Int) (hPw : jPw N P) (hq : jBq hp N P) (f S : Int) (hf : 0 ≤ f ∧ f < N) (hS : 3 ≤ S ∧ S ≤ N) : ∀ (m : Nat) (t : Int) (z2 z1 : jm_V) (h : jm_H), 1 ≤ t → t ≤ S → jSm h f t f N P → h 33 11 = N → jFr hp h [33, 41, 42] → S - t < m → jm_Ev 16 37 [jR 33, jI f, jI S, jI t, z2, z1] [] h (jsr hp f S N P) := by
  have hN4 := hPw.1
  have hN6 := hPw.2.1
  intro n
  induction n with
  | zero => intro t z2 z1 h h0 h1 hs e11 hfr hm; omega
  | succ n ih =>
    intro t z2 z1 h h0 h1 hs e11 hfr hm
    refine jm_Ev.bl 2 (pc' := 39) (A' := [jR 33, jI f, jI S, jI t, z2, z1]) (st' := [jI S, jI t]) (hp' := h) rfl ?_
    refine jE_icmp_ge rfl (by omega) (by omega) (fun c39 => ?_) (fun c39 => ?_)
    · refine jm_Ev.bl 8 (pc' := 113) (A' := [jR 33, jI f, jI S, jI t, z2, z1]) (st' := [jI (h 33 11), jI (f + 1), jI S, jI f, jR 33]) (hp' := h) rfl ?_
      rw [e11]
      refine jE_callI (vs := [jR 33, jI f, jI S, jI (f + 1), jI N]) (r := []) (nx := 116) (v := jF (jfe (jml (fun u => jad (jdp P f (S - 1).toNat u) (P u f)) (f + 1) (N - (f + 1)).toNat).1)) (hp1 := (jm_hs h 33 12 (jml (fun u => jad (jdp P f (S - 1).toNat u) (P u f)) (f + 1) (N - (f + 1)).toNat).2)) rfl (c_b_leastInto h N P (jBq_fr hq (hfr 32 (by simp)) (hfr 40 (by simp))).1 (by omega) (jdp P f (S - 1).toNat) f S (f + 1) N (by omega) (by omega) (by omega) (by omega) (jBq_fr hq (hfr 32 (by simp)) (hfr 40 (by simp))).2 (fun u a b => ⟨(hs (S - 1) u (by omega) (by omega) (by omega) (by omega)).1, by rcases jdp_n hPw hf.1 hf.2 (S - 1).toNat (by omega) u (by omega) (by omega) with z | z; exact Or.inl z; exact Or.inr ⟨z.1, jfn_mono z.2 (by omega)⟩⟩) (by omega)) ?_
      exact jE_ret rfl ⟨jrF (by unfold jdc; rw [show S.toNat - 1 = (S - 1).toNat by omega]), jSm_fr (h := h) (fun m w a b c d => hs m w a b c (by omega)) rfl rfl, e11, by show (jml (fun u => jad (jdp P f (S - 1).toNat u) (P u f)) (f + 1) (N - (f + 1)).toNat).2 = _; unfold jdc; rw [show S.toNat - 1 = (S - 1).toNat by omega], hfr.set (by simp)⟩
    · refine jm_Ev.bl 3 (pc' := 45) (A' := [jR 33, jI f, jI S, jI t, z2, z1]) (st' := [jI f, jI t, jR 33]) (hp' := h) rfl ?_
      refine jE_callI (vs := []) (r := [jI f, jI t, jR 33]) (nx := 48) (v := jF 3212836864) (hp1 := h) rfl (c_b_noSum h) ?_
      refine jm_Ev.bl 1 (pc' := 49) (A' := [jR 33, jI f, jI S, jI t, z2, z1]) (st' := [jI (-1), jF 3212836864, jI f, jI t, jR 33]) (hp' := h) rfl ?_
      refine jE_callV (vs := [jR 33, jI t, jI f, jF 3212836864, jI (-1)]) (r := []) (nx := 52) (hp1 := (jm_hs (jm_hs h 41 (t * 60 + f) (3212836864 : Int)) 42 (t * 60 + f) (-1))) rfl (c_b_setSum h t f (-1) 3212836864 (by omega)) ?_
      refine jm_Ev.bl 4 (pc' := 57) (A' := [jR 33, jI f, jI S, jI t, jI (f + 1), z1]) (st' := []) (hp' := (jm_hs (jm_hs h 41 (t * 60 + f) (3212836864 : Int)) 42 (t * 60 + f) (-1))) rfl ?_
      refine c_b_round_3 hp N P hPw hq f S hf hS t (by omega) (fun z2' z1' h' hs' e11' hfr' => ?_) 61 (f + 1) (z1) _ (by omega) (by omega) (jSm_set hs (by omega) hf.1 (by omega) (by omega) (by omega) (by rw [show t.toNat = (t - 1).toNat + 1 by omega, jdp_f.1, jfe_n]) (fun _ => by rw [show t.toNat = (t - 1).toNat + 1 by omega, jdp_f.2])) e11 ((hfr.set (by simp)).set (by simp)) (by omega)
      refine jm_Ev.bl 2 (pc' := 37) (A' := [jR 33, jI f, jI S, jI (t + 1), z2', z1']) (st' := []) (hp' := h') rfl ?_
      exact ih (t + 1) z2' z1' h' (by omega) (by omega) (jSm_nx hs') e11' hfr' (by omega)
theorem c_b_round_1 (hp : jm_H) (N : Int) (P : Int → Int → Int) (hPw : jPw N P) (hq : jBq hp N P) (f S : Int) (hf : 0 ≤ f ∧ f < N) (hS : 3 ≤ S ∧ S ≤ N) : ∀ (m : Nat) (v : Int) (h : jm_H), f ≤ v → v ≤ N → jSm h f 0 v N P → h 33 11 = N → jFr hp h [33, 41, 42] → N - v < m → jm_Ev 16 2 [jR 33, jI f, jI S, jI v, jU, jU] [] h (jsr hp f S N P) := by
  have hN4 := hPw.1
  have hN6 := hPw.2.1
  intro n
  induction n with
  | zero => intro v h h0 h1 hs e11 hfr hm; omega
  | succ n ih =>
    intro v h h0 h1 hs e11 hfr hm
    refine jm_Ev.bl 3 (pc' := 7) (A' := [jR 33, jI f, jI S, jI v, jU, jU]) (st' := [jI (h 33 11), jI v]) (hp' := h) rfl ?_
    rw [e11]
    refine jE_icmp_ge rfl (by omega) (by omega) (fun c7 => ?_) (fun c7 => ?_)
    · refine jm_Ev.bl 2 (pc' := 37) (A' := [jR 33, jI f, jI S, jI 1, jU, jU]) (st' := []) (hp' := h) rfl ?_
      exact c_b_round_2 hp N P hPw hq f S hf hS 61 1 jU jU h (by omega) (by omega) (jSm_nx (n := 0) (by rw [show v = N by omega] at hs; exact hs)) e11 hfr (by omega)
    · refine jm_Ev.bl 5 (pc' := 15) (A' := [jR 33, jI f, jI S, jI v, jU, jU]) (st' := [jI f, jI v, jI v, jI 0, jR 33]) (hp' := h) rfl ?_
      refine jE_icmp_ne rfl (by omega) (by omega) (fun c15 => ?_) (fun c15 => ?_)
      · refine jE_callI (vs := []) (r := [jI v, jI 0, jR 33]) (nx := 25) (v := jF 3212836864) (hp1 := h) rfl (c_b_noSum h) ?_
        refine jm_Ev.bl 1 (pc' := 26) (A' := [jR 33, jI f, jI S, jI v, jU, jU]) (st' := [jI (-1), jF 3212836864, jI v, jI 0, jR 33]) (hp' := h) rfl ?_
        refine jE_callV (vs := [jR 33, jI 0, jI v, jF 3212836864, jI (-1)]) (r := []) (nx := 29) (hp1 := (jm_hs (jm_hs h 41 (0 * 60 + v) (3212836864 : Int)) 42 (0 * 60 + v) (-1))) rfl (c_b_setSum h 0 v (-1) 3212836864 (by omega)) ?_
        refine jm_Ev.bl 2 (pc' := 2) (A' := [jR 33, jI f, jI S, jI (v + 1), jU, jU]) (st' := []) (hp' := (jm_hs (jm_hs h 41 (0 * 60 + v) (3212836864 : Int)) 42 (0 * 60 + v) (-1))) rfl ?_
        exact ih (v + 1) _ (by omega) (by omega) (jSm_set hs (by omega) hf.1 (by omega) (by omega) (by omega) (by show 3212836864 = jfe (if v = f then 0 else -1); rw [if_neg c15, jfe_n]) (fun z => by omega)) e11 ((hfr.set (by simp)).set (by simp)) (by omega)
      · refine jm_Ev.bl 3 (pc' := 26) (A' := [jR 33, jI f, jI S, jI v, jU, jU]) (st' := [jI (-1), jF 0, jI v, jI 0, jR 33]) (hp' := h) rfl ?_
        refine jE_callV (vs := [jR 33, jI 0, jI v, jF 0, jI (-1)]) (r := []) (nx := 29) (hp1 := (jm_hs (jm_hs h 41 (0 * 60 + v) (0 : Int)) 42 (0 * 60 + v) (-1))) rfl (c_b_setSum h 0 v (-1) 0 (by omega)) ?_
        refine jm_Ev.bl 2 (pc' := 2) (A' := [jR 33, jI f, jI S, jI (v + 1), jU, jU]) (st' := []) (hp' := (jm_hs (jm_hs h 41 (0 * 60 + v) (0 : Int)) 42 (0 * 60 + v) (-1))) rfl ?_
        exact ih (v + 1) _ (by omega) (by omega) (jSm_set hs (by omega) hf.1 (by omega) (by omega) (by omega) (by show 0 = jfe (if v = f then 0 else -1); rw [if_pos c15]; rfl) (fun z => by omega)) e11 ((hfr.set (by simp)).set (by simp)) (by omega)
theorem c_b_sumRound (hp : jm_H) (N : Int) (P : Int → Int → Int) (hPw : jPw N P) (hq : jBq hp N P) (f S : Int) (hf : 0 ≤ f ∧ f < N) (hS : 3 ≤ S ∧ S ≤ N) (e11 : hp 33 11 = N) : jm_Ev 16 0 [jR 33, jI f, jI S, jU, jU, jU] [] hp (jsr hp f S N P) := by
  have hN4 := hPw.1
  have hN6 := hPw.2.1
  refine jm_Ev.bl 2 (pc' := 2) (A' := [jR 33, jI f, jI S, jI f, jU, jU]) (st' := []) (hp' := hp) rfl ?_
  exact c_b_round_1 hp N P hPw hq f S hf hS 61 f hp (by omega) (by omega) (fun m w a b c d => by omega) e11 jFr.rf (by omega)
