/-! the class's BestPolygons: corners -/
theorem c_b_bitsAt (hp : jm_H) (i : Int) (h : 0 ≤ i ∧ i < 15) : jm_Ev 24 0 [jR 33, jI i] [] hp (jK (some (jI (hp 36 i))) hp) := by
  refine jm_Ev.bl 1 (pc' := 1) (A' := [jR 33, jI i]) (st' := [jI i]) (hp' := hp) rfl ?_
  refine jE_if_lt rfl (by omega) (fun c1 => ?_) (fun c1 => ?_)
  · omega
  · refine jm_Ev.bl 2 (pc' := 7) (A' := [jR 33, jI i]) (st' := [jI 15, jI i]) (hp' := hp) rfl ?_
    refine jE_icmp_ge rfl (by omega) (by omega) (fun c7 => ?_) (fun c7 => ?_)
    · omega
    · refine jm_Ev.bl 3 (pc' := 15) (A' := [jR 33, jI i]) (st' := [jI i, jR 36]) (hp' := hp) rfl ?_
      refine jE_iald (n := 15) (f := hp 36) rfl rfl (by omega) ?_
      refine jm_Ev.bl 1 (pc' := 20) (A' := [jR 33, jI i]) (st' := [jI (hp 36 i)]) (hp' := hp) rfl ?_
      exact jE_ret rfl ⟨rfl, rfl⟩
theorem c_b_areaAt (hp : jm_H) (i : Int) (h : 0 ≤ i ∧ i < 15) : jm_Ev 25 0 [jR 33, jI i] [] hp (jK (some (jI (hp 37 i))) hp) := by
  refine jm_Ev.bl 1 (pc' := 1) (A' := [jR 33, jI i]) (st' := [jI i]) (hp' := hp) rfl ?_
  refine jE_if_lt rfl (by omega) (fun c1 => ?_) (fun c1 => ?_)
  · omega
  · refine jm_Ev.bl 2 (pc' := 7) (A' := [jR 33, jI i]) (st' := [jI 15, jI i]) (hp' := hp) rfl ?_
    refine jE_icmp_ge rfl (by omega) (by omega) (fun c7 => ?_) (fun c7 => ?_)
    · omega
    · refine jm_Ev.bl 3 (pc' := 15) (A' := [jR 33, jI i]) (st' := [jI i, jR 37]) (hp' := hp) rfl ?_
      refine jE_iald (n := 15) (f := hp 37) rfl rfl (by omega) ?_
      refine jm_Ev.bl 1 (pc' := 20) (A' := [jR 33, jI i]) (st' := [jI (hp 37 i)]) (hp' := hp) rfl ?_
      exact jE_ret rfl ⟨rfl, rfl⟩
theorem c_b_cornerAt (hp : jm_H) (i : Int) (h : 0 ≤ i ∧ i < 60) : jm_Ev 26 0 [jR 33, jI i] [] hp (jK (some (jI (hp 38 i))) hp) := by
  refine jm_Ev.bl 1 (pc' := 1) (A' := [jR 33, jI i]) (st' := [jI i]) (hp' := hp) rfl ?_
  refine jE_if_lt rfl (by omega) (fun c1 => ?_) (fun c1 => ?_)
  · omega
  · refine jm_Ev.bl 2 (pc' := 7) (A' := [jR 33, jI i]) (st' := [jI 60, jI i]) (hp' := hp) rfl ?_
    refine jE_icmp_ge rfl (by omega) (by omega) (fun c7 => ?_) (fun c7 => ?_)
    · omega
    · refine jm_Ev.bl 3 (pc' := 15) (A' := [jR 33, jI i]) (st' := [jI i, jR 38]) (hp' := hp) rfl ?_
      refine jE_iald (n := 60) (f := hp 38) rfl rfl (by omega) ?_
      refine jm_Ev.bl 1 (pc' := 20) (A' := [jR 33, jI i]) (st' := [jI (hp 38 i)]) (hp' := hp) rfl ?_
      exact jE_ret rfl ⟨rfl, rfl⟩
theorem c_b_isCornerAt (hp : jm_H) (i : Int) (h : 0 ≤ i ∧ i < 60) (hz : hp 39 i = 0 ∨ hp 39 i = 1) : jm_Ev 27 0 [jR 33, jI i] [] hp (jK (some (jI (hp 39 i))) hp) := by
  refine jm_Ev.bl 1 (pc' := 1) (A' := [jR 33, jI i]) (st' := [jI i]) (hp' := hp) rfl ?_
  refine jE_if_lt rfl (by omega) (fun c1 => ?_) (fun c1 => ?_)
  · omega
  · refine jm_Ev.bl 2 (pc' := 7) (A' := [jR 33, jI i]) (st' := [jI 60, jI i]) (hp' := hp) rfl ?_
    refine jE_icmp_ge rfl (by omega) (by omega) (fun c7 => ?_) (fun c7 => ?_)
    · omega
    · refine jm_Ev.bl 3 (pc' := 15) (A' := [jR 33, jI i]) (st' := [jI i, jR 39]) (hp' := hp) rfl ?_
      refine jE_zald (n := 60) (f := hp 39) rfl rfl (by omega) ?_
      refine jE_if_eq rfl (by omega) (fun c16 => ?_) (fun c16 => ?_)
      · refine jm_Ev.bl 1 (pc' := 24) (A' := [jR 33, jI i]) (st' := [jI 0]) (hp' := hp) rfl ?_
        exact jE_ret rfl ⟨jrI (by omega), rfl⟩
      · refine jm_Ev.bl 2 (pc' := 24) (A' := [jR 33, jI i]) (st' := [jI 1]) (hp' := hp) rfl ?_
        exact jE_ret rfl ⟨jrI (by omega), rfl⟩
def jbrs (hp : jm_H) : Option jm_V → jm_H → Prop := fun rv h => rv = none ∧ (∀ i, 0 ≤ i → i < 15 → h 34 i = 0 ∧ h 35 i = 0) ∧ jFr hp h [34, 35]
theorem c_b_reset_L (hp : jm_H) : ∀ (m : Nat) (i : Int) (h : jm_H), 0 ≤ i → i ≤ 15 → (∀ j, 0 ≤ j → j < i → h 34 j = 0 ∧ h 35 j = 0) → jFr hp h [34, 35] → 15 - i < m → jm_Ev 12 2 [jR 33, jI i] [] h (jbrs hp) := by
  intro n
  induction n with
  | zero => intro i h h0 h1 hc hfr hm; omega
  | succ n ih =>
    intro i h h0 h1 hc hfr hm
    refine jm_Ev.bl 2 (pc' := 5) (A' := [jR 33, jI i]) (st' := [jI 15, jI i]) (hp' := h) rfl ?_
    refine jE_icmp_ge rfl (by omega) (by omega) (fun c5 => ?_) (fun c5 => ?_)
    · exact jE_ret rfl ⟨rfl, fun j a b => hc j a (by omega), hfr⟩
    · refine jm_Ev.bl 4 (pc' := 14) (A' := [jR 33, jI i]) (st' := [jI 0, jI i, jR 34]) (hp' := h) rfl ?_
      refine jE_iast (n := 15) rfl rfl (by omega) ?_
      refine jm_Ev.bl 4 (pc' := 21) (A' := [jR 33, jI i]) (st' := [jI 0, jI i, jR 35]) (hp' := (jm_hs h 34 i 0)) rfl ?_
      refine jE_zast (n := 15) rfl rfl (by exact Or.inl rfl) (by omega) ?_
      refine jm_Ev.bl 2 (pc' := 2) (A' := [jR 33, jI (i + 1)]) (st' := []) (hp' := (jm_hs (jm_hs h 34 i 0) 35 i 0)) rfl ?_
      exact ih (i + 1) _ (by omega) (by omega) (fun j a b => by show jm_hs h 34 i 0 34 j = 0 ∧ jm_hs (jm_hs h 34 i 0) 35 i 0 35 j = 0; rw [js_hs_eq, js_hs_eq]; by_cases e : j = i; exact ⟨if_pos e, if_pos e⟩; rw [if_neg e, if_neg e]; exact hc j a (by omega)) ((hfr.set (by simp)).set (by simp)) (by omega)
theorem c_b_reset (hp : jm_H) : jm_Ev 12 0 [jR 33, jU] [] hp (jbrs hp) := by
  refine jm_Ev.bl 2 (pc' := 2) (A' := [jR 33, jI 0]) (st' := []) (hp' := hp) rfl ?_
  exact c_b_reset_L hp 16 0 hp (by omega) (by omega) (fun j a b => by omega) jFr.rf (by omega)
def jPs (h : jm_H) (a b N : Int) (P : Int → Int → Int) : Prop := ∀ u v, 0 ≤ u → u < N → 0 ≤ v → v < N → (u < a ∨ (u = a ∧ v < b)) → P u v ≠ -1 → h 40 (u * 60 + v) = P u v
def jfpn (hp : jm_H) (N : Int) (P : Int → Int → Int) : Option jm_V → jm_H → Prop := fun rv h => rv = none ∧ jPs h N 0 N P ∧ jFr hp h [40]
theorem c_b_fp_2 {Q : Option jm_V → jm_H → Prop} (hp : jm_H) (K : Int → Int → Int) (q : List jT) (i s : Int) (hV : jVo_20 hp i s q.length (jpx q) (jpy q) (jpl_ K q) (jpm K q)) (hW : jWy q.length (jpx q) (jpy q) (jpl_ K q) (jpm K q)) (hJ : jJr (hp 32) q.length (jPP K q)) (e11 : hp 33 11 = q.length) (a : Int) (ha : 0 ≤ a ∧ a < q.length) (k : ∀ b z1 h, jPs h (a + 1) 0 q.length (jPP K q) → jFr hp h [40] → jm_Ev 15 73 [jR 33, jI i, jI a, b, z1] [] h Q) : ∀ (m : Nat) (b : Int) (z1 : jm_V) (h : jm_H), 0 ≤ b → b ≤ q.length → jPs h a b q.length (jPP K q) → jFr hp h [40] → q.length - b < m → jm_Ev 15 12 [jR 33, jI i, jI a, jI b, z1] [] h Q := by
  have hN4 := hW.1
  have hN6 := hW.2.1
  intro n
  induction n with
  | zero => intro b z1 h h0 h1 hs hfr hm; omega
  | succ n ih =>
    intro b z1 h h0 h1 hs hfr hm
    refine jm_Ev.bl 3 (pc' := 17) (A' := [jR 33, jI i, jI a, jI b, z1]) (st' := [jI (h 33 11), jI b]) (hp' := h) rfl ?_
    rw [show h 33 11 = (q.length : Int) from (congrFun (hfr 33 (by simp)) 11).trans e11]
    refine jE_icmp_ge rfl (by omega) (by omega) (fun c17 => ?_) (fun c17 => ?_)
    · exact k (jI b) (z1) h (fun u v a b c d e => hs u v a b c d (by omega)) hfr
    · refine jm_Ev.bl 10 (pc' := 35) (A' := [jR 33, jI i, jI a, jI b, jI ((a * 60) + b)]) (st' := [jI 3600, jI ((a * 60) + b)]) (hp' := h) rfl ?_
      refine jE_icmp_ge rfl (by omega) (by omega) (fun c35 => ?_) (fun c35 => ?_)
      · omega
      · refine jm_Ev.bl 4 (pc' := 44) (A' := [jR 33, jI i, jI a, jI b, jI ((a * 60) + b)]) (st' := [jI b, jI a, jR 31]) (hp' := h) rfl ?_
        refine jE_callI (vs := [jR 31, jI a, jI b]) (r := []) (nx := 47) (v := jI (jb (decide (jPP K q a b ≠ -1)))) (hp1 := h) rfl (c_j_are_31 h q.length (jPP K q) (by rw [hfr 32 (by simp)]; exact hJ) hN6 a b (by omega) (by omega)) ?_
        refine jE_ifd_eq rfl (fun c47 => ?_) (fun c47 => ?_)
        · refine jm_Ev.bl 2 (pc' := 12) (A' := [jR 33, jI i, jI a, jI (b + 1), jI ((a * 60) + b)]) (st' := []) (hp' := h) rfl ?_
          exact ih (b + 1) _ h (by omega) (by omega) (fun u v u0 u1 v0 v1 c d => by by_cases e : u = a ∧ v = b; exact absurd (show jPP K q a b ≠ -1 by rw [← e.1, ← e.2]; exact d) c47; exact hs u v u0 u1 v0 v1 (by omega) d) hfr (by omega)
        · have hab : a ≠ b := fun z => c47 (by unfold jPP; rw [if_pos z])
          have hcn := (jPP_ne hW (show 0 ≤ a by omega) (by omega) (show 0 ≤ b by omega) (by omega) hab).mp c47
          have eP : jPP K q a b = jfrac (jss q.length (jpx q) (jpy q) a b (jstp2 q.length a b - 1).toNat) (jsqd (jpx q) (jpy q) a b) := by
            unfold jPP jpb; rw [if_neg hab, if_pos hcn]
          have nP := ((jpb_n hW (show 0 ≤ a by omega) (by omega) (show 0 ≤ b by omega) (by omega) hab).1 hcn).1
          rw [show jpb q.length (jpx q) (jpy q) (jpl_ K q) (jpm K q) a b = jPP K q a b by unfold jPP; rw [if_neg hab], eP] at nP
          refine jm_Ev.bl 8 (pc' := 63) (A' := [jR 33, jI i, jI a, jI b, jI ((a * 60) + b)]) (st' := [jI b, jI a, jI i, jR 20, jI ((a * 60) + b), jR 40]) (hp' := h) rfl ?_
          refine jE_callI (vs := [jR 20, jI i, jI a, jI b]) (r := [jI ((a * 60) + b), jR 40]) (nx := 66) (v := jF ((jfrac (jss q.length (jpx q) (jpy q) a b (jstp2 q.length a b - 1).toNat) (jsqd (jpx q) (jpy q) a b)).toNat)) (hp1 := h) rfl (c_o_penaltyOf_20 h i s q.length (jpx q) (jpy q) (jpl_ K q) (jpm K q) (jVo_fr_20 hV (fun w _ _ => hfr w (by simp; omega))) hW a b (by omega) (by omega) hab hcn) ?_
          refine jE_fast (n := 3600) rfl rfl (by omega) ?_
          refine jm_Ev.bl 2 (pc' := 12) (A' := [jR 33, jI i, jI a, jI (b + 1), jI ((a * 60) + b)]) (st' := []) (hp' := (jm_hs h 40 ((a * 60) + b) ((jfrac (jss q.length (jpx q) (jpy q) a b (jstp2 q.length a b - 1).toNat) (jsqd (jpx q) (jpy q) a b)).toNat : Int))) rfl ?_
          exact ih (b + 1) _ _ (by omega) (by omega) (fun u v u0 u1 v0 v1 c d => by show jm_hs h 40 (a * 60 + b) _ 40 (u * 60 + v) = _; rw [js_hs_eq]; by_cases e : u * 60 + v = a * 60 + b; exact (by rw [if_pos e, show u = a by omega, show v = b by omega, eP]; omega); rw [if_neg e]; exact hs u v u0 u1 v0 v1 (by omega) d) (hfr.set (by simp)) (by omega)
theorem c_b_fp_1 (hp : jm_H) (K : Int → Int → Int) (q : List jT) (i s : Int) (hV : jVo_20 hp i s q.length (jpx q) (jpy q) (jpl_ K q) (jpm K q)) (hW : jWy q.length (jpx q) (jpy q) (jpl_ K q) (jpm K q)) (hJ : jJr (hp 32) q.length (jPP K q)) (e11 : hp 33 11 = q.length) : ∀ (m : Nat) (a : Int) (z2 z1 : jm_V) (h : jm_H), 0 ≤ a → a ≤ q.length → jPs h a 0 q.length (jPP K q) → jFr hp h [40] → q.length - a < m → jm_Ev 15 2 [jR 33, jI i, jI a, z2, z1] [] h (jfpn hp q.length (jPP K q)) := by
  have hN4 := hW.1
  have hN6 := hW.2.1
  intro n
  induction n with
  | zero => intro a z2 z1 h h0 h1 hs hfr hm; omega
  | succ n ih =>
    intro a z2 z1 h h0 h1 hs hfr hm
    refine jm_Ev.bl 3 (pc' := 7) (A' := [jR 33, jI i, jI a, z2, z1]) (st' := [jI (h 33 11), jI a]) (hp' := h) rfl ?_
    rw [show h 33 11 = (q.length : Int) from (congrFun (hfr 33 (by simp)) 11).trans e11]
    refine jE_icmp_ge rfl (by omega) (by omega) (fun c7 => ?_) (fun c7 => ?_)
    · exact jE_ret rfl ⟨rfl, by rw [show a = (q.length : Int) by omega] at hs; exact hs, hfr⟩
    · refine jm_Ev.bl 2 (pc' := 12) (A' := [jR 33, jI i, jI a, jI 0, z1]) (st' := []) (hp' := h) rfl ?_
      refine c_b_fp_2 hp K q i s hV hW hJ e11 a (by omega) (fun b' z1' h' hs' hfr' => ?_) 61 0 (z1) h (by omega) (by omega) hs hfr (by omega)
      refine jm_Ev.bl 2 (pc' := 2) (A' := [jR 33, jI i, jI (a + 1), b', z1']) (st' := []) (hp' := h') rfl ?_
      exact ih (a + 1) b' z1' h' (by omega) (by omega) hs' hfr' (by omega)
theorem c_b_fillPenalties (hp : jm_H) (K : Int → Int → Int) (q : List jT) (i s : Int) (hV : jVo_20 hp i s q.length (jpx q) (jpy q) (jpl_ K q) (jpm K q)) (hW : jWy q.length (jpx q) (jpy q) (jpl_ K q) (jpm K q)) (hJ : jJr (hp 32) q.length (jPP K q)) (e11 : hp 33 11 = q.length) : jm_Ev 15 0 [jR 33, jI i, jU, jU, jU] [] hp (jfpn hp q.length (jPP K q)) := by
  have hN4 := hW.1
  have hN6 := hW.2.1
  refine jm_Ev.bl 2 (pc' := 2) (A' := [jR 33, jI i, jI 0, jU, jU]) (st' := []) (hp' := hp) rfl ?_
  exact c_b_fp_1 hp K q i s hV hW hJ e11 61 0 _ _ hp (by omega) (by omega) (fun u v a b c d e => by omega) jFr.rf (by omega)
def jkc (hp : jm_H) (s f S N : Int) (P : Int → Int → Int) : Option jm_V → jm_H → Prop := fun rv h => rv = none ∧ (∀ m, 0 ≤ m → m < S → h 38 (s + m) = jdw N P f S.toNat (S - 1 - m).toNat) ∧ (∀ j, j < s ∨ s + N ≤ j → h 38 j = hp 38 j) ∧ jFr hp h [38]
theorem c_b_keep_L (hp : jm_H) (s N : Int) (P : Int → Int → Int) (hPw : jPw N P) (f S : Int) (hf : 0 ≤ f ∧ f < N) (hS : 3 ≤ S ∧ S ≤ N) (hs0 : 0 ≤ s ∧ s + N ≤ 60) (hsm : jSm hp f (S - 1) N N P) (hc : (jdc N P f S.toNat).1 ≠ -1) : ∀ (m : Nat) (w n : Int) (z1 z2 : jm_V) (h : jm_H), -1 ≤ n → n < S → (0 ≤ n → w = jdw N P f S.toNat (S - 1 - n).toNat) → (∀ m, n < m → m < S → h 38 (s + m) = jdw N P f S.toNat (S - 1 - m).toNat) → (∀ j, j < s ∨ s + N ≤ j → h 38 j = hp 38 j) → jFr hp h [38] → n + 1 < m → jm_Ev 21 11 [jR 33, jI s, jI f, jI S, jI w, jI n, z1, z2] [] h (jkc hp s f S N P) := by
  have hN4 := hPw.1
  have hN6 := hPw.2.1
  intro n
  induction n with
  | zero => intro w n z1 z2 h h0 h1 hw hk ho hfr hm; omega
  | succ n ih =>
    intro w n z1 z2 h h0 h1 hw hk ho hfr hm
    refine jm_Ev.bl 1 (pc' := 13) (A' := [jR 33, jI s, jI f, jI S, jI w, jI n, z1, z2]) (st' := [jI n]) (hp' := h) rfl ?_
    refine jE_if_lt rfl (by omega) (fun c13 => ?_) (fun c13 => ?_)
    · exact jE_ret rfl ⟨rfl, fun m a b => hk m (by omega) b, ho, hfr⟩
    · have ew := hw (by omega)
      have hwn := jdw_n hPw hf.1 hf.2 (s := S.toNat) (by omega) (by omega) hc (S - 1 - n).toNat (by omega)
      rw [← ew] at hwn
      refine jm_Ev.bl 5 (pc' := 24) (A' := [jR 33, jI s, jI f, jI S, jI w, jI n, jI (s + n), z2]) (st' := [jI (s + n)]) (hp' := h) rfl ?_
      refine jE_if_lt rfl (by omega) (fun c24 => ?_) (fun c24 => ?_)
      · omega
      · refine jm_Ev.bl 2 (pc' := 31) (A' := [jR 33, jI s, jI f, jI S, jI w, jI n, jI (s + n), z2]) (st' := [jI 60, jI (s + n)]) (hp' := h) rfl ?_
        refine jE_icmp_lt rfl (by omega) (by omega) (fun c31 => ?_) (fun c31 => ?_)
        · refine jm_Ev.bl 4 (pc' := 43) (A' := [jR 33, jI s, jI f, jI S, jI w, jI n, jI (s + n), z2]) (st' := [jI n, jI (s + n), jR 38]) (hp' := h) rfl ?_
          refine jE_if_ne rfl (by omega) (fun c43 => ?_) (fun c43 => ?_)
          · refine jm_Ev.bl 1 (pc' := 52) (A' := [jR 33, jI s, jI f, jI S, jI w, jI n, jI (s + n), z2]) (st' := [jI w, jI (s + n), jR 38]) (hp' := h) rfl ?_
            refine jE_iast (n := 60) rfl rfl (by omega) ?_
            refine jm_Ev.bl 7 (pc' := 65) (A' := [jR 33, jI s, jI f, jI S, jI w, jI n, jI (s + n), jI ((n * 60) + w)]) (st' := [jI ((n * 60) + w)]) (hp' := (jm_hs h 38 (s + n) w)) rfl ?_
            refine jE_if_lt rfl (by omega) (fun c65 => ?_) (fun c65 => ?_)
            · omega
            · refine jm_Ev.bl 4 (pc' := 75) (A' := [jR 33, jI s, jI f, jI S, jI w, jI n, jI (s + n), jI ((n * 60) + w)]) (st' := [jI 3600, jI ((n * 60) + w)]) (hp' := (jm_hs h 38 (s + n) w)) rfl ?_
              refine jE_icmp_ge rfl (by omega) (by omega) (fun c75 => ?_) (fun c75 => ?_)
              · omega
              · refine jm_Ev.bl 3 (pc' := 84) (A' := [jR 33, jI s, jI f, jI S, jI w, jI n, jI (s + n), jI ((n * 60) + w)]) (st' := [jI ((n * 60) + w), jR 42]) (hp' := (jm_hs h 38 (s + n) w)) rfl ?_
                refine jE_iald (n := 3600) (f := h 42) rfl rfl (by omega) ?_
                refine jm_Ev.bl 4 (pc' := 11) (A' := [jR 33, jI s, jI f, jI S, jI (h 42 ((n * 60) + w)), jI (n + (-1)), jI (s + n), jI ((n * 60) + w)]) (st' := []) (hp' := (jm_hs h 38 (s + n) w)) rfl ?_
                exact ih _ (n + -1) _ _ _ (by omega) (by omega) (fun _ => by rw [show h 42 (n * 60 + w) = hp 42 (n * 60 + w) from congrFun (hfr 42 (by simp)) _, (hsm n w (by omega) hwn.1 hwn.2.1 (by omega)).2 (by omega), show (S - 1 - (n + -1)).toNat = (S - 1 - n).toNat + 1 by omega]; conv => rhs; unfold jdw; rw [← ew, show S.toNat - 1 - (S - 1 - n).toNat = n.toNat by omega]) (fun m a b => by show jm_hs h 38 (s + n) w 38 (s + m) = _; rw [js_hs_eq]; by_cases e : m = n; exact (by rw [if_pos (by omega), e]; exact ew); rw [if_neg (by omega)]; exact hk m (by omega) b) (fun j z => by show jm_hs h 38 (s + n) w 38 j = _; rw [js_hs_eq, if_neg (by omega)]; exact ho j z) (hfr.set (by simp)) (by omega)
          · refine jm_Ev.bl 2 (pc' := 52) (A' := [jR 33, jI s, jI f, jI S, jI w, jI n, jI (s + n), z2]) (st' := [jI f, jI (s + n), jR 38]) (hp' := h) rfl ?_
            refine jE_iast (n := 60) rfl rfl (by omega) ?_
            refine jm_Ev.bl 7 (pc' := 65) (A' := [jR 33, jI s, jI f, jI S, jI w, jI n, jI (s + n), jI ((n * 60) + w)]) (st' := [jI ((n * 60) + w)]) (hp' := (jm_hs h 38 (s + n) f)) rfl ?_
            refine jE_if_lt rfl (by omega) (fun c65 => ?_) (fun c65 => ?_)
            · omega
            · refine jm_Ev.bl 4 (pc' := 75) (A' := [jR 33, jI s, jI f, jI S, jI w, jI n, jI (s + n), jI ((n * 60) + w)]) (st' := [jI 3600, jI ((n * 60) + w)]) (hp' := (jm_hs h 38 (s + n) f)) rfl ?_
              refine jE_icmp_ge rfl (by omega) (by omega) (fun c75 => ?_) (fun c75 => ?_)
              · omega
              · refine jm_Ev.bl 3 (pc' := 84) (A' := [jR 33, jI s, jI f, jI S, jI w, jI n, jI (s + n), jI ((n * 60) + w)]) (st' := [jI ((n * 60) + w), jR 42]) (hp' := (jm_hs h 38 (s + n) f)) rfl ?_
                refine jE_iald (n := 3600) (f := h 42) rfl rfl (by omega) ?_
                refine jm_Ev.bl 4 (pc' := 11) (A' := [jR 33, jI s, jI f, jI S, jI (h 42 ((n * 60) + w)), jI (n + (-1)), jI (s + n), jI ((n * 60) + w)]) (st' := []) (hp' := (jm_hs h 38 (s + n) f)) rfl ?_
                exact ih _ (n + -1) _ _ _ (by omega) (by omega) (fun z => by omega) (fun m a b => by show jm_hs h 38 (s + n) f 38 (s + m) = _; rw [js_hs_eq]; by_cases e : m = n; exact (by rw [if_pos (by omega), e]; exact (by rw [show n = 0 by omega, show (S - 1 - 0).toNat = S.toNat - 1 by omega]; exact (jdw_0 hPw hf.1 hf.2 (by omega) (by omega) hc).symm)); rw [if_neg (by omega)]; exact hk m (by omega) b) (fun j z => by show jm_hs h 38 (s + n) f 38 j = _; rw [js_hs_eq, if_neg (by omega)]; exact ho j z) (hfr.set (by simp)) (by omega)
        · omega
theorem c_b_keepCorners (hp : jm_H) (s N : Int) (P : Int → Int → Int) (hPw : jPw N P) (f S : Int) (hf : 0 ≤ f ∧ f < N) (hS : 3 ≤ S ∧ S ≤ N) (hs0 : 0 ≤ s ∧ s + N ≤ 60) (hsm : jSm hp f (S - 1) N N P) (hc : (jdc N P f S.toNat).1 ≠ -1) (e12 : hp 33 12 = (jdc N P f S.toNat).2) : jm_Ev 21 0 [jR 33, jI s, jI f, jI S, jU, jU, jU, jU] [] hp (jkc hp s f S N P) := by
  have hN4 := hPw.1
  have hN6 := hPw.2.1
  refine jm_Ev.bl 7 (pc' := 11) (A' := [jR 33, jI s, jI f, jI S, jI (hp 33 12), jI (S - 1), jU, jU]) (st' := []) (hp' := hp) rfl ?_
  exact c_b_keep_L hp s N P hPw f S hf hS hs0 hsm hc 62 _ _ _ _ hp (by omega) (by omega) (fun _ => by rw [e12, show (S - 1 - (S - 1)).toNat = 0 by omega]; rfl) (fun m a b => by omega) (fun _ _ => rfl) jFr.rf (by omega)
