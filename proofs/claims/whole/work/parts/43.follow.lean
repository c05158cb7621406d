/-! the class goes along the outlines -/
theorem jSC78 {w : Int} (h0 : 0 ≤ w) (h1 : w ≤ 3) : jm_SC 78 w = jsx w := by
  have : w = 0 ∨ w = 1 ∨ w = 2 ∨ w = 3 := by omega
  rcases this with rfl | rfl | rfl | rfl <;> rfl
theorem jSC79 {w : Int} (h0 : 0 ≤ w) (h1 : w ≤ 3) : jm_SC 79 w = jsy w := by
  have : w = 0 ∨ w = 1 ∨ w = 2 ∨ w = 3 := by omega
  rcases this with rfl | rfl | rfl | rfl <;> rfl
theorem jsx_r (w : Int) : -1 ≤ jsx w ∧ jsx w ≤ 1 := by unfold jsx; (repeat' split) <;> omega
theorem jsy_r (w : Int) : -1 ≤ jsy w ∧ jsy w ≤ 1 := by unfold jsy; (repeat' split) <;> omega
theorem jget_app {α : Type} {F : List α} {t u : α} {j : Nat} (h : (F ++ [t])[j]? = some u) : F[j]? = some u ∨ (j = F.length ∧ u = t) := by
  by_cases hj : j < F.length
  · rw [List.getElem?_append_left hj] at h; exact Or.inl h
  · rw [List.getElem?_append_right (by omega)] at h
    by_cases e : j - F.length = 0
    · rw [e] at h; simp at h; exact Or.inr ⟨by omega, h.symm⟩
    · rw [List.getElem?_eq_none (by simp; omega)] at h; exact absurd h (by simp)
theorem jget_lt {α : Type} {F : List α} {u : α} {j : Nat} (h : F[j]? = some u) : j < F.length := by
  by_cases hj : j < F.length
  · exact hj
  · rw [List.getElem?_eq_none (by omega)] at h; exact absurd h (by simp)
theorem jtk_app {α : Type} {F : List (List α)} {t : List α} {j : Nat} (h : j ≤ F.length) : (F ++ [t]).take j = F.take j := by
  rw [List.take_append_of_le_length h]
def japt_20 (hp : jm_H) (x y w : Int) : jm_H := (jm_hs (jm_hs (jm_hs (jm_hs (jm_hs hp 24 (hp 20 1) x) 25 (hp 20 1) y) 26 (hp 20 1) w) 20 1 (hp 20 1 + 1)) 30 (y * 6 + x) (jor (hp 30 (y * 6 + x)) w))
/-- the points so far are F -/
def jOF_20 (h : jm_H) (K : Int → Int → Int) (F : List jT) : Prop := jeK_20 h K ∧ (∀ j, 0 ≤ j → j < 36 → 0 ≤ h 30 j ∧ h 30 j ≤ 15) ∧ (∀ x y w, 0 ≤ x → x ≤ 5 → 0 ≤ y → y ≤ 5 → 0 ≤ w → w ≤ 3 → (jbit (h 30 (y * 6 + x)) w = true ↔ (x, y, w) ∈ F)) ∧ h 20 1 = F.length ∧ ∀ (j : Nat) t, F[j]? = some t → h 24 j = t.1 ∧ h 25 j = t.2.1 ∧ h 26 j = t.2.2
def jOO_20 (h : jm_H) (O : List (List jT)) : Prop := h 20 0 = O.length ∧ ∀ (i : Nat) q, O[i]? = some q → h 21 i = ((O.take i).flatten.length : Int) ∧ h 22 i = (q.length : Int)
theorem jOF_add_20 {h : jm_H} {K : Int → Int → Int} {F : List jT} (q : jOF_20 h K F) {x y w : Int} (hx : 0 ≤ x ∧ x ≤ 5) (hy : 0 ≤ y ∧ y ≤ 5) (hw : 0 ≤ w ∧ w ≤ 3) : jOF_20 (japt_20 h x y w) K (F ++ [(x, y, w)]) := by
  obtain ⟨q1, q2, q3, q4, q5⟩ := q
  have v := q2 (y * 6 + x) (by omega) (by omega)
  refine ⟨q1, ?_, ?_, ?_, ?_⟩
  · unfold japt_20; exact jhs_in q2 (jor_r v.1 v.2 hw.1 hw.2)
  · intro x' y' w' a b c d e f
    unfold japt_20
    rw [js_hs_eq]
    have hq := q3 x' y' w' a b c d e f
    by_cases ee : y' * 6 + x' = y * 6 + x
    · obtain ⟨rfl, rfl⟩ := j66 ee a b hx.1 hx.2
      rw [if_pos rfl, jor_bit v.1 v.2 hw.1 hw.2 e f, Bool.or_eq_true, hq, decide_eq_true_eq, List.mem_append, List.mem_singleton]
      simp
    · rw [if_neg ee]
      show jbit (h 30 (y' * 6 + x')) w' = true ↔ _
      rw [hq, List.mem_append, List.mem_singleton]
      refine ⟨fun z => Or.inl z, fun z => z.resolve_right (fun z => ee ?_)⟩
      simp only [Prod.mk.injEq] at z
      rw [z.1, z.2.1]
  · show h 20 1 + 1 = _
    rw [q4, List.length_append]; rfl
  · intro j t hj
    rcases jget_app hj with hj | ⟨rfl, rfl⟩
    · have := q5 j t hj
      have hlt := jget_lt hj
      have hne : ¬ ((j : Int) = h 20 1) := by rw [q4]; omega
      show jm_hs h 24 (h 20 1) x 24 j = _ ∧ jm_hs h 25 (h 20 1) y 25 j = _ ∧ jm_hs h 26 (h 20 1) w 26 j = _
      rw [js_hs_eq, js_hs_eq, js_hs_eq, if_neg hne, if_neg hne, if_neg hne]
      exact this
    · have hne : ((F.length : Nat) : Int) = h 20 1 := by rw [q4]
      show jm_hs h 24 (h 20 1) x 24 _ = _ ∧ jm_hs h 25 (h 20 1) y 25 _ = _ ∧ jm_hs h 26 (h 20 1) w 26 _ = _
      rw [js_hs_eq, js_hs_eq, js_hs_eq, if_pos hne, if_pos hne, if_pos hne]
      exact ⟨rfl, rfl, rfl⟩
def jfol_20 (hp : jm_H) (K : Int → Int → Int) (O : List (List jT)) (t : jT) : Option jm_V → jm_H → Prop := fun rv h => rv = none ∧ jOF_20 h K (O ++ [jorb K t]).flatten ∧ jOO_20 h (O ++ [jorb K t]) ∧ jFr hp h [20, 21, 22, 24, 25, 26, 30]
set_option maxHeartbeats 400000 in
theorem c_o_follow_L_20 {Q : Option jm_V → jm_H → Prop} (hp : jm_H) (K : Int → Int → Int) (hK : jK5 K) (O : List (List jT)) (hI : jInv K O) (t : jT) (hE : jE K t) (hn : t ∉ O.flatten) (X Y W : Int) (hXY : t = (X, Y, W)) (k : ∀ (h : jm_H) (x y w i : Int), jOF_20 h K (O ++ [jorb K t]).flatten → h 20 0 = O.length → h 21 O.length = O.flatten.length → (∀ (i : Nat) q, O[i]? = some q → h 21 i = ((O.take i).flatten.length : Int) ∧ h 22 i = (q.length : Int)) → jFr hp h [20, 21, 22, 24, 25, 26, 30] → jm_Ev 51 131 [jR 20, jI X, jI Y, jI W, jI x, jI y, jI w, jI i] [] h Q) : ∀ (n : Nat) (m : Nat) (x y w : Int) (h : jm_H), m < jper K t → jit K t m = (x, y, w) → jOF_20 h K (jpart K O t m) → h 20 0 = O.length → h 21 O.length = O.flatten.length → (∀ (i : Nat) q, O[i]? = some q → h 21 i = ((O.take i).flatten.length : Int) ∧ h 22 i = (q.length : Int)) → jFr hp h [20, 21, 22, 24, 25, 26, 30] → jper K t - m < n → jm_Ev 51 42 [jR 20, jI X, jI Y, jI W, jI x, jI y, jI w, jI (m : Int)] [] h Q := by
  have hpp := jper_p hK hE
  have h60 := jpart_60 hK hI hE hn
  have h00 := jE_pt hK hE
  rw [hXY] at h00
  dsimp only at h00
  intro n
  induction n with
  | zero => intro m x y w h hm ht hOF e0 es eO hf hn2; omega
  | succ n ih =>
    intro m x y w h hm ht hOF e0 es eO hf hn2
    have hEm := jE_pt hK (jit_E hE m)
    rw [ht] at hEm
    dsimp only at hEm
    have hlen := hOF.2.2.2.1
    rw [jpart_len] at hlen
    have hsx := jsx_r w
    have hsy := jsy_r w
    refine jm_Ev.bl 2 (pc' := 46) (A' := [jR 20, jI X, jI Y, jI W, jI x, jI y, jI w, jI (m : Int)]) (st' := [jI 60, jI (m : Int)]) (hp' := h) rfl ?_
    refine jE_icmp_ge rfl (by omega) (by omega) (fun c46 => ?_) (fun c46 => ?_)
    · omega
    · refine jm_Ev.bl 4 (pc' := 56) (A' := [jR 20, jI X, jI Y, jI W, jI x, jI y, jI w, jI (m : Int)]) (st' := [jI w, jI y, jI x, jR 20]) (hp' := h) rfl ?_
      refine jE_callV (vs := [jR 20, jI x, jI y, jI w]) (r := []) (nx := 59) (hp1 := (japt_20 h x y w)) rfl (c_o_addPoint_20 h x y w (by omega) (by omega) (by omega) (by omega)) ?_
      have hOF1 := jOF_add_20 hOF (x := x) (y := y) (w := w) (by omega) (by omega) (by omega)
      rw [← ht, ← jpart_s] at hOF1
      have hf1 : jFr hp (japt_20 h x y w) [20, 21, 22, 24, 25, 26, 30] := by unfold japt_20; exact ((((hf.set (by decide)).set (by decide)).set (by decide)).set (by decide)).set (by decide)
      have z0 : (japt_20 h x y w) 20 0 = O.length := e0
      have zs : (japt_20 h x y w) 21 O.length = O.flatten.length := es
      have zO : ∀ (i : Nat) q, O[i]? = some q → (japt_20 h x y w) 21 i = ((O.take i).flatten.length : Int) ∧ (japt_20 h x y w) 22 i = (q.length : Int) := eO
      generalize japt_20 h x y w = h1 at hOF1 hf1 z0 zs zO ⊢
      have ht1 : jit K t (m + 1) = (x + jsx w, y + jsy w, jnw K (x + jsx w) (y + jsy w) w) := by show jnx K (jit K t m) = _; rw [ht]; rfl
      have hE1 := jit_E hE (m + 1)
      have hp1 := jE_pt hK hE1
      rw [ht1] at hE1 hp1
      dsimp only at hp1
      have hpm := jpart_mem hK hI hE hn (m := m + 1) (by omega) (by omega)
      refine jm_Ev.bl 3 (pc' := 66) (A' := [jR 20, jI X, jI Y, jI W, jI x, jI y, jI w, jI (m : Int)]) (st' := [jI w, jR 78, jI x]) (hp' := h1) rfl ?_
      refine jE_iald (n := 4) (f := jm_SC 78) rfl rfl (by omega) ?_
      refine jE_top (w := jsx w) (jSC78 (by omega) (by omega)) ?_
      refine jm_Ev.bl 5 (pc' := 77) (A' := [jR 20, jI X, jI Y, jI W, jI (x + (jsx w)), jI y, jI w, jI (m : Int)]) (st' := [jI w, jR 79, jI y]) (hp' := h1) rfl ?_
      refine jE_iald (n := 4) (f := jm_SC 79) rfl rfl (by omega) ?_
      refine jE_top (w := jsy w) (jSC79 (by omega) (by omega)) ?_
      refine jm_Ev.bl 6 (pc' := 88) (A' := [jR 20, jI X, jI Y, jI W, jI (x + (jsx w)), jI (y + (jsy w)), jI w, jI (m : Int)]) (st' := [jI w, jI (y + (jsy w)), jI (x + (jsx w)), jR 20]) (hp' := h1) rfl ?_
      refine jE_callI (vs := [jR 20, jI (x + (jsx w)), jI (y + (jsy w)), jI w]) (r := []) (nx := 91) (v := jI (jnw K (x + jsx w) (y + jsy w) w)) (hp1 := h1) rfl (c_o_nextWay_20 h1 K hOF1.1 _ _ w (by omega) (by omega) (by omega) hE1) ?_
      refine jm_Ev.bl 2 (pc' := 95) (A' := [jR 20, jI X, jI Y, jI W, jI (x + (jsx w)), jI (y + (jsy w)), jI (jnw K (x + jsx w) (y + jsy w) w), jI (m : Int)]) (st' := [jI (jnw K (x + jsx w) (y + jsy w) w)]) (hp' := h1) rfl ?_
      refine jE_if_lt rfl (by omega) (fun c95 => ?_) (fun c95 => ?_)
      · omega
      · refine jm_Ev.bl 2 (pc' := 101) (A' := [jR 20, jI X, jI Y, jI W, jI (x + (jsx w)), jI (y + (jsy w)), jI (jnw K (x + jsx w) (y + jsy w) w), jI (m : Int)]) (st' := [jI 4, jI (jnw K (x + jsx w) (y + jsy w) w)]) (hp' := h1) rfl ?_
        refine jE_icmp_ge rfl (by omega) (by omega) (fun c101 => ?_) (fun c101 => ?_)
        · omega
        · refine jm_Ev.bl 2 (pc' := 107) (A' := [jR 20, jI X, jI Y, jI W, jI (x + (jsx w)), jI (y + (jsy w)), jI (jnw K (x + jsx w) (y + jsy w) w), jI (m : Int)]) (st' := [jI X, jI (x + (jsx w))]) (hp' := h1) rfl ?_
          refine jE_icmp_ne rfl (by omega) (by omega) (fun c107 => ?_) (fun c107 => ?_)
          · refine jm_Ev.bl 2 (pc' := 42) (A' := [jR 20, jI X, jI Y, jI W, jI (x + (jsx w)), jI (y + (jsy w)), jI (jnw K (x + jsx w) (y + jsy w) w), jI ((m : Int) + 1)]) (st' := []) (hp' := h1) rfl ?_
            have hper : m + 1 ≠ jper K t := fun z => by have := hpm.2.mpr z; rw [ht1, hXY] at this; simp only [Prod.mk.injEq] at this; omega
            exact ih (m + 1) _ _ _ h1 (by omega) ht1 hOF1 z0 zs zO hf1 (by omega)
          · refine jm_Ev.bl 2 (pc' := 113) (A' := [jR 20, jI X, jI Y, jI W, jI (x + (jsx w)), jI (y + (jsy w)), jI (jnw K (x + jsx w) (y + jsy w) w), jI (m : Int)]) (st' := [jI Y, jI (y + (jsy w))]) (hp' := h1) rfl ?_
            refine jE_icmp_ne rfl (by omega) (by omega) (fun c113 => ?_) (fun c113 => ?_)
            · refine jm_Ev.bl 2 (pc' := 42) (A' := [jR 20, jI X, jI Y, jI W, jI (x + (jsx w)), jI (y + (jsy w)), jI (jnw K (x + jsx w) (y + jsy w) w), jI ((m : Int) + 1)]) (st' := []) (hp' := h1) rfl ?_
              have hper : m + 1 ≠ jper K t := fun z => by have := hpm.2.mpr z; rw [ht1, hXY] at this; simp only [Prod.mk.injEq] at this; omega
              exact ih (m + 1) _ _ _ h1 (by omega) ht1 hOF1 z0 zs zO hf1 (by omega)
            · refine jm_Ev.bl 2 (pc' := 119) (A' := [jR 20, jI X, jI Y, jI W, jI (x + (jsx w)), jI (y + (jsy w)), jI (jnw K (x + jsx w) (y + jsy w) w), jI (m : Int)]) (st' := [jI W, jI (jnw K (x + jsx w) (y + jsy w) w)]) (hp' := h1) rfl ?_
              refine jE_icmp_ne rfl (by omega) (by omega) (fun c119 => ?_) (fun c119 => ?_)
              · refine jm_Ev.bl 2 (pc' := 42) (A' := [jR 20, jI X, jI Y, jI W, jI (x + (jsx w)), jI (y + (jsy w)), jI (jnw K (x + jsx w) (y + jsy w) w), jI ((m : Int) + 1)]) (st' := []) (hp' := h1) rfl ?_
                have hper : m + 1 ≠ jper K t := fun z => by have := hpm.2.mpr z; rw [ht1, hXY] at this; simp only [Prod.mk.injEq] at this; omega
                exact ih (m + 1) _ _ _ h1 (by omega) ht1 hOF1 z0 zs zO hf1 (by omega)
              · refine jm_Ev.bl 1 (pc' := 131) (A' := [jR 20, jI X, jI Y, jI W, jI (x + (jsx w)), jI (y + (jsy w)), jI (jnw K (x + jsx w) (y + jsy w) w), jI (m : Int)]) (st' := []) (hp' := h1) rfl ?_
                have hper : m + 1 = jper K t := hpm.2.mp (by rw [ht1, hXY]; simp only [Prod.mk.injEq]; exact ⟨c107, c113, c119⟩)
                rw [hper, jpart_p] at hOF1
                exact k h1 _ _ _ _ hOF1 z0 zs zO hf1
theorem c_o_follow_E_20 (hp : jm_H) (K : Int → Int → Int) (hK : jK5 K) (O : List (List jT)) (hI : jInv K O) (t : jT) (X Y W : Int) (h : jm_H) (x y w i : Int) (hOF : jOF_20 h K (O ++ [jorb K t]).flatten) (e0 : h 20 0 = O.length) (h14 : O.length < 15) (es : h 21 O.length = O.flatten.length) (eO : ∀ (i : Nat) q, O[i]? = some q → h 21 i = ((O.take i).flatten.length : Int) ∧ h 22 i = (q.length : Int)) (hf : jFr hp h [20, 21, 22, 24, 25, 26, 30]) : jm_Ev 51 131 [jR 20, jI X, jI Y, jI W, jI x, jI y, jI w, jI i] [] h (jfol_20 hp K O t) := by
  refine jm_Ev.bl 10 (pc' := 151) (A' := [jR 20, jI X, jI Y, jI W, jI x, jI y, jI w, jI i]) (st' := [jI (h 20 0), jR 21, jI (h 20 1), jI (h 20 0), jR 22]) (hp' := h) rfl ?_
  refine jE_iald (n := 15) (f := h 21) rfl rfl (by omega) ?_
  refine jm_Ev.bl 1 (pc' := 153) (A' := [jR 20, jI X, jI Y, jI W, jI x, jI y, jI w, jI i]) (st' := [jI ((h 20 1) - (h 21 (h 20 0))), jI (h 20 0), jR 22]) (hp' := h) rfl ?_
  refine jE_iast (n := 15) rfl rfl (by omega) ?_
  refine jm_Ev.bl 6 (pc' := 164) (A' := [jR 20, jI X, jI Y, jI W, jI x, jI y, jI w, jI i]) (st' := []) (hp' := (jm_hs (jm_hs h 22 (h 20 0) ((h 20 1) - (h 21 (h 20 0)))) 20 0 ((h 20 0) + 1))) rfl ?_
  refine jE_ret rfl ⟨rfl, hOF, ⟨?_, ?_⟩, ((hf.set (by decide)).set (by decide))⟩
  · show h 20 0 + 1 = _
    rw [e0, List.length_append]; rfl
  · intro i q hi
    show jm_hs h 22 (h 20 0) (h 20 1 - h 21 (h 20 0)) 21 i = _ ∧ jm_hs h 22 (h 20 0) (h 20 1 - h 21 (h 20 0)) 22 i = _
    rw [js_hs_ne (by decide), js_hs_eq]
    rcases jget_app hi with hi | ⟨rfl, rfl⟩
    · have hlt := jget_lt hi
      rw [if_neg (by omega), jtk_app (by omega)]
      exact eO i q hi
    · rw [if_pos (by omega), jtk_app (by omega), List.take_length]
      refine ⟨es, ?_⟩
      rw [e0, es, hOF.2.2.2.1, ← jpart_p, jpart_len, jorb_len]
      omega
theorem c_o_follow_20 (hp : jm_H) (K : Int → Int → Int) (hK : jK5 K) (O : List (List jT)) (hI : jInv K O) (X Y W : Int) (hE : jE K (X, Y, W)) (hn : (X, Y, W) ∉ O.flatten) (hOF : jOF_20 hp K O.flatten) (hOO : jOO_20 hp O) : jm_Ev 51 0 [jR 20, jI X, jI Y, jI W, jU, jU, jU, jU] [] hp (jfol_20 hp K O (X, Y, W)) := by
  have h15 := jInv_15 hK (jInv_add hK hI hE hn)
  rw [List.length_append, List.length_singleton] at h15
  have h14 : O.length < 15 := by omega
  have hc := hOO.1
  have hpp := jper_p hK hE
  refine jm_Ev.bl 2 (pc' := 4) (A' := [jR 20, jI X, jI Y, jI W, jU, jU, jU, jU]) (st' := [jI (hp 20 0)]) (hp' := hp) rfl ?_
  refine jE_if_lt rfl (by omega) (fun c4 => ?_) (fun c4 => ?_)
  · exfalso; omega
  · refine jm_Ev.bl 3 (pc' := 13) (A' := [jR 20, jI X, jI Y, jI W, jU, jU, jU, jU]) (st' := [jI 15, jI (hp 20 0)]) (hp' := hp) rfl ?_
    refine jE_icmp_lt rfl (by omega) (by omega) (fun c13 => ?_) (fun c13 => ?_)
    · refine jm_Ev.bl 12 (pc' := 38) (A' := [jR 20, jI X, jI Y, jI W, jI X, jI Y, jI W, jU]) (st' := [jI (hp 20 1), jI (hp 20 0), jR 21]) (hp' := hp) rfl ?_
      refine jE_iast (n := 15) rfl rfl (by omega) ?_
      refine jm_Ev.bl 2 (pc' := 42) (A' := [jR 20, jI X, jI Y, jI W, jI X, jI Y, jI W, jI 0]) (st' := []) (hp' := (jm_hs hp 21 (hp 20 0) (hp 20 1))) rfl ?_
      exact c_o_follow_L_20 hp K hK O hI (X, Y, W) hE hn X Y W rfl (fun h x y w i a b c d e => c_o_follow_E_20 hp K hK O hI _ X Y W h x y w i a b h14 c d e) 61 0 X Y W _ (by omega) rfl (by rw [jpart_0]; exact hOF) hOO.1 (by show jm_hs hp 21 (hp 20 0) (hp 20 1) 21 O.length = _; rw [js_hs_eq, if_pos hOO.1.symm]; exact hOF.2.2.2.1) (fun i q hi => by
          have hlt := jget_lt hi
          show jm_hs hp 21 (hp 20 0) (hp 20 1) 21 i = _ ∧ hp 22 i = _
          rw [js_hs_eq, if_neg (by have := hOO.1; omega)]
          exact hOO.2 i q hi) (jFr.rf.set (by decide)) (by omega)
    · exfalso; omega
def japt_43 (hp : jm_H) (x y w : Int) : jm_H := (jm_hs (jm_hs (jm_hs (jm_hs (jm_hs hp 47 (hp 43 1) x) 48 (hp 43 1) y) 49 (hp 43 1) w) 43 1 (hp 43 1 + 1)) 53 (y * 6 + x) (jor (hp 53 (y * 6 + x)) w))
/-- the points so far are F -/
def jOF_43 (h : jm_H) (K : Int → Int → Int) (F : List jT) : Prop := jeK_43 h K ∧ (∀ j, 0 ≤ j → j < 36 → 0 ≤ h 53 j ∧ h 53 j ≤ 15) ∧ (∀ x y w, 0 ≤ x → x ≤ 5 → 0 ≤ y → y ≤ 5 → 0 ≤ w → w ≤ 3 → (jbit (h 53 (y * 6 + x)) w = true ↔ (x, y, w) ∈ F)) ∧ h 43 1 = F.length ∧ ∀ (j : Nat) t, F[j]? = some t → h 47 j = t.1 ∧ h 48 j = t.2.1 ∧ h 49 j = t.2.2
def jOO_43 (h : jm_H) (O : List (List jT)) : Prop := h 43 0 = O.length ∧ ∀ (i : Nat) q, O[i]? = some q → h 44 i = ((O.take i).flatten.length : Int) ∧ h 45 i = (q.length : Int)
theorem jOF_add_43 {h : jm_H} {K : Int → Int → Int} {F : List jT} (q : jOF_43 h K F) {x y w : Int} (hx : 0 ≤ x ∧ x ≤ 5) (hy : 0 ≤ y ∧ y ≤ 5) (hw : 0 ≤ w ∧ w ≤ 3) : jOF_43 (japt_43 h x y w) K (F ++ [(x, y, w)]) := by
  obtain ⟨q1, q2, q3, q4, q5⟩ := q
  have v := q2 (y * 6 + x) (by omega) (by omega)
  refine ⟨q1, ?_, ?_, ?_, ?_⟩
  · unfold japt_43; exact jhs_in q2 (jor_r v.1 v.2 hw.1 hw.2)
  · intro x' y' w' a b c d e f
    unfold japt_43
    rw [js_hs_eq]
    have hq := q3 x' y' w' a b c d e f
    by_cases ee : y' * 6 + x' = y * 6 + x
    · obtain ⟨rfl, rfl⟩ := j66 ee a b hx.1 hx.2
      rw [if_pos rfl, jor_bit v.1 v.2 hw.1 hw.2 e f, Bool.or_eq_true, hq, decide_eq_true_eq, List.mem_append, List.mem_singleton]
      simp
    · rw [if_neg ee]
      show jbit (h 53 (y' * 6 + x')) w' = true ↔ _
      rw [hq, List.mem_append, List.mem_singleton]
      refine ⟨fun z => Or.inl z, fun z => z.resolve_right (fun z => ee ?_)⟩
      simp only [Prod.mk.injEq] at z
      rw [z.1, z.2.1]
  · show h 43 1 + 1 = _
    rw [q4, List.length_append]; rfl
  · intro j t hj
    rcases jget_app hj with hj | ⟨rfl, rfl⟩
    · have := q5 j t hj
      have hlt := jget_lt hj
      have hne : ¬ ((j : Int) = h 43 1) := by rw [q4]; omega
      show jm_hs h 47 (h 43 1) x 47 j = _ ∧ jm_hs h 48 (h 43 1) y 48 j = _ ∧ jm_hs h 49 (h 43 1) w 49 j = _
      rw [js_hs_eq, js_hs_eq, js_hs_eq, if_neg hne, if_neg hne, if_neg hne]
      exact this
    · have hne : ((F.length : Nat) : Int) = h 43 1 := by rw [q4]
      show jm_hs h 47 (h 43 1) x 47 _ = _ ∧ jm_hs h 48 (h 43 1) y 48 _ = _ ∧ jm_hs h 49 (h 43 1) w 49 _ = _
      rw [js_hs_eq, js_hs_eq, js_hs_eq, if_pos hne, if_pos hne, if_pos hne]
      exact ⟨rfl, rfl, rfl⟩
def jfol_43 (hp : jm_H) (K : Int → Int → Int) (O : List (List jT)) (t : jT) : Option jm_V → jm_H → Prop := fun rv h => rv = none ∧ jOF_43 h K (O ++ [jorb K t]).flatten ∧ jOO_43 h (O ++ [jorb K t]) ∧ jFr hp h [43, 44, 45, 47, 48, 49, 53]
set_option maxHeartbeats 400000 in
theorem c_o_follow_L_43 {Q : Option jm_V → jm_H → Prop} (hp : jm_H) (K : Int → Int → Int) (hK : jK5 K) (O : List (List jT)) (hI : jInv K O) (t : jT) (hE : jE K t) (hn : t ∉ O.flatten) (X Y W : Int) (hXY : t = (X, Y, W)) (k : ∀ (h : jm_H) (x y w i : Int), jOF_43 h K (O ++ [jorb K t]).flatten → h 43 0 = O.length → h 44 O.length = O.flatten.length → (∀ (i : Nat) q, O[i]? = some q → h 44 i = ((O.take i).flatten.length : Int) ∧ h 45 i = (q.length : Int)) → jFr hp h [43, 44, 45, 47, 48, 49, 53] → jm_Ev 51 131 [jR 43, jI X, jI Y, jI W, jI x, jI y, jI w, jI i] [] h Q) : ∀ (n : Nat) (m : Nat) (x y w : Int) (h : jm_H), m < jper K t → jit K t m = (x, y, w) → jOF_43 h K (jpart K O t m) → h 43 0 = O.length → h 44 O.length = O.flatten.length → (∀ (i : Nat) q, O[i]? = some q → h 44 i = ((O.take i).flatten.length : Int) ∧ h 45 i = (q.length : Int)) → jFr hp h [43, 44, 45, 47, 48, 49, 53] → jper K t - m < n → jm_Ev 51 42 [jR 43, jI X, jI Y, jI W, jI x, jI y, jI w, jI (m : Int)] [] h Q := by
  have hpp := jper_p hK hE
  have h60 := jpart_60 hK hI hE hn
  have h00 := jE_pt hK hE
  rw [hXY] at h00
  dsimp only at h00
  intro n
  induction n with
  | zero => intro m x y w h hm ht hOF e0 es eO hf hn2; omega
  | succ n ih =>
    intro m x y w h hm ht hOF e0 es eO hf hn2
    have hEm := jE_pt hK (jit_E hE m)
    rw [ht] at hEm
    dsimp only at hEm
    have hlen := hOF.2.2.2.1
    rw [jpart_len] at hlen
    have hsx := jsx_r w
    have hsy := jsy_r w
    refine jm_Ev.bl 2 (pc' := 46) (A' := [jR 43, jI X, jI Y, jI W, jI x, jI y, jI w, jI (m : Int)]) (st' := [jI 60, jI (m : Int)]) (hp' := h) rfl ?_
    refine jE_icmp_ge rfl (by omega) (by omega) (fun c46 => ?_) (fun c46 => ?_)
    · omega
    · refine jm_Ev.bl 4 (pc' := 56) (A' := [jR 43, jI X, jI Y, jI W, jI x, jI y, jI w, jI (m : Int)]) (st' := [jI w, jI y, jI x, jR 43]) (hp' := h) rfl ?_
      refine jE_callV (vs := [jR 43, jI x, jI y, jI w]) (r := []) (nx := 59) (hp1 := (japt_43 h x y w)) rfl (c_o_addPoint_43 h x y w (by omega) (by omega) (by omega) (by omega)) ?_
      have hOF1 := jOF_add_43 hOF (x := x) (y := y) (w := w) (by omega) (by omega) (by omega)
      rw [← ht, ← jpart_s] at hOF1
      have hf1 : jFr hp (japt_43 h x y w) [43, 44, 45, 47, 48, 49, 53] := by unfold japt_43; exact ((((hf.set (by decide)).set (by decide)).set (by decide)).set (by decide)).set (by decide)
      have z0 : (japt_43 h x y w) 43 0 = O.length := e0
      have zs : (japt_43 h x y w) 44 O.length = O.flatten.length := es
      have zO : ∀ (i : Nat) q, O[i]? = some q → (japt_43 h x y w) 44 i = ((O.take i).flatten.length : Int) ∧ (japt_43 h x y w) 45 i = (q.length : Int) := eO
      generalize japt_43 h x y w = h1 at hOF1 hf1 z0 zs zO ⊢
      have ht1 : jit K t (m + 1) = (x + jsx w, y + jsy w, jnw K (x + jsx w) (y + jsy w) w) := by show jnx K (jit K t m) = _; rw [ht]; rfl
      have hE1 := jit_E hE (m + 1)
      have hp1 := jE_pt hK hE1
      rw [ht1] at hE1 hp1
      dsimp only at hp1
      have hpm := jpart_mem hK hI hE hn (m := m + 1) (by omega) (by omega)
      refine jm_Ev.bl 3 (pc' := 66) (A' := [jR 43, jI X, jI Y, jI W, jI x, jI y, jI w, jI (m : Int)]) (st' := [jI w, jR 78, jI x]) (hp' := h1) rfl ?_
      refine jE_iald (n := 4) (f := jm_SC 78) rfl rfl (by omega) ?_
      refine jE_top (w := jsx w) (jSC78 (by omega) (by omega)) ?_
      refine jm_Ev.bl 5 (pc' := 77) (A' := [jR 43, jI X, jI Y, jI W, jI (x + (jsx w)), jI y, jI w, jI (m : Int)]) (st' := [jI w, jR 79, jI y]) (hp' := h1) rfl ?_
      refine jE_iald (n := 4) (f := jm_SC 79) rfl rfl (by omega) ?_
      refine jE_top (w := jsy w) (jSC79 (by omega) (by omega)) ?_
      refine jm_Ev.bl 6 (pc' := 88) (A' := [jR 43, jI X, jI Y, jI W, jI (x + (jsx w)), jI (y + (jsy w)), jI w, jI (m : Int)]) (st' := [jI w, jI (y + (jsy w)), jI (x + (jsx w)), jR 43]) (hp' := h1) rfl ?_
      refine jE_callI (vs := [jR 43, jI (x + (jsx w)), jI (y + (jsy w)), jI w]) (r := []) (nx := 91) (v := jI (jnw K (x + jsx w) (y + jsy w) w)) (hp1 := h1) rfl (c_o_nextWay_43 h1 K hOF1.1 _ _ w (by omega) (by omega) (by omega) hE1) ?_
      refine jm_Ev.bl 2 (pc' := 95) (A' := [jR 43, jI X, jI Y, jI W, jI (x + (jsx w)), jI (y + (jsy w)), jI (jnw K (x + jsx w) (y + jsy w) w), jI (m : Int)]) (st' := [jI (jnw K (x + jsx w) (y + jsy w) w)]) (hp' := h1) rfl ?_
      refine jE_if_lt rfl (by omega) (fun c95 => ?_) (fun c95 => ?_)
      · omega
      · refine jm_Ev.bl 2 (pc' := 101) (A' := [jR 43, jI X, jI Y, jI W, jI (x + (jsx w)), jI (y + (jsy w)), jI (jnw K (x + jsx w) (y + jsy w) w), jI (m : Int)]) (st' := [jI 4, jI (jnw K (x + jsx w) (y + jsy w) w)]) (hp' := h1) rfl ?_
        refine jE_icmp_ge rfl (by omega) (by omega) (fun c101 => ?_) (fun c101 => ?_)
        · omega
        · refine jm_Ev.bl 2 (pc' := 107) (A' := [jR 43, jI X, jI Y, jI W, jI (x + (jsx w)), jI (y + (jsy w)), jI (jnw K (x + jsx w) (y + jsy w) w), jI (m : Int)]) (st' := [jI X, jI (x + (jsx w))]) (hp' := h1) rfl ?_
          refine jE_icmp_ne rfl (by omega) (by omega) (fun c107 => ?_) (fun c107 => ?_)
          · refine jm_Ev.bl 2 (pc' := 42) (A' := [jR 43, jI X, jI Y, jI W, jI (x + (jsx w)), jI (y + (jsy w)), jI (jnw K (x + jsx w) (y + jsy w) w), jI ((m : Int) + 1)]) (st' := []) (hp' := h1) rfl ?_
            have hper : m + 1 ≠ jper K t := fun z => by have := hpm.2.mpr z; rw [ht1, hXY] at this; simp only [Prod.mk.injEq] at this; omega
            exact ih (m + 1) _ _ _ h1 (by omega) ht1 hOF1 z0 zs zO hf1 (by omega)
          · refine jm_Ev.bl 2 (pc' := 113) (A' := [jR 43, jI X, jI Y, jI W, jI (x + (jsx w)), jI (y + (jsy w)), jI (jnw K (x + jsx w) (y + jsy w) w), jI (m : Int)]) (st' := [jI Y, jI (y + (jsy w))]) (hp' := h1) rfl ?_
            refine jE_icmp_ne rfl (by omega) (by omega) (fun c113 => ?_) (fun c113 => ?_)
            · refine jm_Ev.bl 2 (pc' := 42) (A' := [jR 43, jI X, jI Y, jI W, jI (x + (jsx w)), jI (y + (jsy w)), jI (jnw K (x + jsx w) (y + jsy w) w), jI ((m : Int) + 1)]) (st' := []) (hp' := h1) rfl ?_
              have hper : m + 1 ≠ jper K t := fun z => by have := hpm.2.mpr z; rw [ht1, hXY] at this; simp only [Prod.mk.injEq] at this; omega
              exact ih (m + 1) _ _ _ h1 (by omega) ht1 hOF1 z0 zs zO hf1 (by omega)
            · refine jm_Ev.bl 2 (pc' := 119) (A' := [jR 43, jI X, jI Y, jI W, jI (x + (jsx w)), jI (y + (jsy w)), jI (jnw K (x + jsx w) (y + jsy w) w), jI (m : Int)]) (st' := [jI W, jI (jnw K (x + jsx w) (y + jsy w) w)]) (hp' := h1) rfl ?_
              refine jE_icmp_ne rfl (by omega) (by omega) (fun c119 => ?_) (fun c119 => ?_)
              · refine jm_Ev.bl 2 (pc' := 42) (A' := [jR 43, jI X, jI Y, jI W, jI (x + (jsx w)), jI (y + (jsy w)), jI (jnw K (x + jsx w) (y + jsy w) w), jI ((m : Int) + 1)]) (st' := []) (hp' := h1) rfl ?_
                have hper : m + 1 ≠ jper K t := fun z => by have := hpm.2.mpr z; rw [ht1, hXY] at this; simp only [Prod.mk.injEq] at this; omega
                exact ih (m + 1) _ _ _ h1 (by omega) ht1 hOF1 z0 zs zO hf1 (by omega)
              · refine jm_Ev.bl 1 (pc' := 131) (A' := [jR 43, jI X, jI Y, jI W, jI (x + (jsx w)), jI (y + (jsy w)), jI (jnw K (x + jsx w) (y + jsy w) w), jI (m : Int)]) (st' := []) (hp' := h1) rfl ?_
                have hper : m + 1 = jper K t := hpm.2.mp (by rw [ht1, hXY]; simp only [Prod.mk.injEq]; exact ⟨c107, c113, c119⟩)
                rw [hper, jpart_p] at hOF1
                exact k h1 _ _ _ _ hOF1 z0 zs zO hf1
theorem c_o_follow_E_43 (hp : jm_H) (K : Int → Int → Int) (hK : jK5 K) (O : List (List jT)) (hI : jInv K O) (t : jT) (X Y W : Int) (h : jm_H) (x y w i : Int) (hOF : jOF_43 h K (O ++ [jorb K t]).flatten) (e0 : h 43 0 = O.length) (h14 : O.length < 15) (es : h 44 O.length = O.flatten.length) (eO : ∀ (i : Nat) q, O[i]? = some q → h 44 i = ((O.take i).flatten.length : Int) ∧ h 45 i = (q.length : Int)) (hf : jFr hp h [43, 44, 45, 47, 48, 49, 53]) : jm_Ev 51 131 [jR 43, jI X, jI Y, jI W, jI x, jI y, jI w, jI i] [] h (jfol_43 hp K O t) := by
  refine jm_Ev.bl 10 (pc' := 151) (A' := [jR 43, jI X, jI Y, jI W, jI x, jI y, jI w, jI i]) (st' := [jI (h 43 0), jR 44, jI (h 43 1), jI (h 43 0), jR 45]) (hp' := h) rfl ?_
  refine jE_iald (n := 15) (f := h 44) rfl rfl (by omega) ?_
  refine jm_Ev.bl 1 (pc' := 153) (A' := [jR 43, jI X, jI Y, jI W, jI x, jI y, jI w, jI i]) (st' := [jI ((h 43 1) - (h 44 (h 43 0))), jI (h 43 0), jR 45]) (hp' := h) rfl ?_
  refine jE_iast (n := 15) rfl rfl (by omega) ?_
  refine jm_Ev.bl 6 (pc' := 164) (A' := [jR 43, jI X, jI Y, jI W, jI x, jI y, jI w, jI i]) (st' := []) (hp' := (jm_hs (jm_hs h 45 (h 43 0) ((h 43 1) - (h 44 (h 43 0)))) 43 0 ((h 43 0) + 1))) rfl ?_
  refine jE_ret rfl ⟨rfl, hOF, ⟨?_, ?_⟩, ((hf.set (by decide)).set (by decide))⟩
  · show h 43 0 + 1 = _
    rw [e0, List.length_append]; rfl
  · intro i q hi
    show jm_hs h 45 (h 43 0) (h 43 1 - h 44 (h 43 0)) 44 i = _ ∧ jm_hs h 45 (h 43 0) (h 43 1 - h 44 (h 43 0)) 45 i = _
    rw [js_hs_ne (by decide), js_hs_eq]
    rcases jget_app hi with hi | ⟨rfl, rfl⟩
    · have hlt := jget_lt hi
      rw [if_neg (by omega), jtk_app (by omega)]
      exact eO i q hi
    · rw [if_pos (by omega), jtk_app (by omega), List.take_length]
      refine ⟨es, ?_⟩
      rw [e0, es, hOF.2.2.2.1, ← jpart_p, jpart_len, jorb_len]
      omega
theorem c_o_follow_43 (hp : jm_H) (K : Int → Int → Int) (hK : jK5 K) (O : List (List jT)) (hI : jInv K O) (X Y W : Int) (hE : jE K (X, Y, W)) (hn : (X, Y, W) ∉ O.flatten) (hOF : jOF_43 hp K O.flatten) (hOO : jOO_43 hp O) : jm_Ev 51 0 [jR 43, jI X, jI Y, jI W, jU, jU, jU, jU] [] hp (jfol_43 hp K O (X, Y, W)) := by
  have h15 := jInv_15 hK (jInv_add hK hI hE hn)
  rw [List.length_append, List.length_singleton] at h15
  have h14 : O.length < 15 := by omega
  have hc := hOO.1
  have hpp := jper_p hK hE
  refine jm_Ev.bl 2 (pc' := 4) (A' := [jR 43, jI X, jI Y, jI W, jU, jU, jU, jU]) (st' := [jI (hp 43 0)]) (hp' := hp) rfl ?_
  refine jE_if_lt rfl (by omega) (fun c4 => ?_) (fun c4 => ?_)
  · exfalso; omega
  · refine jm_Ev.bl 3 (pc' := 13) (A' := [jR 43, jI X, jI Y, jI W, jU, jU, jU, jU]) (st' := [jI 15, jI (hp 43 0)]) (hp' := hp) rfl ?_
    refine jE_icmp_lt rfl (by omega) (by omega) (fun c13 => ?_) (fun c13 => ?_)
    · refine jm_Ev.bl 12 (pc' := 38) (A' := [jR 43, jI X, jI Y, jI W, jI X, jI Y, jI W, jU]) (st' := [jI (hp 43 1), jI (hp 43 0), jR 44]) (hp' := hp) rfl ?_
      refine jE_iast (n := 15) rfl rfl (by omega) ?_
      refine jm_Ev.bl 2 (pc' := 42) (A' := [jR 43, jI X, jI Y, jI W, jI X, jI Y, jI W, jI 0]) (st' := []) (hp' := (jm_hs hp 44 (hp 43 0) (hp 43 1))) rfl ?_
      exact c_o_follow_L_43 hp K hK O hI (X, Y, W) hE hn X Y W rfl (fun h x y w i a b c d e => c_o_follow_E_43 hp K hK O hI _ X Y W h x y w i a b h14 c d e) 61 0 X Y W _ (by omega) rfl (by rw [jpart_0]; exact hOF) hOO.1 (by show jm_hs hp 44 (hp 43 0) (hp 43 1) 44 O.length = _; rw [js_hs_eq, if_pos hOO.1.symm]; exact hOF.2.2.2.1) (fun i q hi => by
          have hlt := jget_lt hi
          show jm_hs hp 44 (hp 43 0) (hp 43 1) 44 i = _ ∧ hp 45 i = _
          rw [js_hs_eq, if_neg (by have := hOO.1; omega)]
          exact hOO.2 i q hi) (jFr.rf.set (by decide)) (by omega)
    · exfalso; omega
