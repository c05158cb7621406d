/-! the class's BestPolygons: marked corners, the area -/
def jchk (w : Int → Int) : Nat → Int → Bool
  | 0, _ => false
  | k + 1, x => jchk w k x || decide (x = w (k : Int))
theorem jchk_s {w : Int → Int} {i x : Int} (h : 0 ≤ i) : jchk w (i + 1).toNat x = (jchk w i.toNat x || decide (x = w i)) := by
  have e : (i + 1).toNat = i.toNat + 1 := by omega
  have e2 : ((i.toNat : Nat) : Int) = i := by omega
  rw [e]
  conv => lhs; unfold jchk
  rw [e2]
def jmk (hp : jm_H) (s S N : Int) (w : Int → Int) : Option jm_V → jm_H → Prop := fun rv h => rv = none ∧ (∀ x, 0 ≤ x → x < N → h 39 (s + x) = jb (jchk w S.toNat x)) ∧ (∀ j, j < s ∨ s + N ≤ j → h 39 j = hp 39 j) ∧ jFr hp h [39]
theorem c_b_mark_2 (hp : jm_H) (s S N : Int) (w : Int → Int) (hN : 0 ≤ N) (hs : 0 ≤ s ∧ s + N ≤ 60) (hS : 0 ≤ S ∧ S ≤ N) (hw : ∀ n, 0 ≤ n → n < S → hp 38 (s + n) = w n ∧ 0 ≤ w n ∧ w n < N) : ∀ (m : Nat) (i : Int) (z1 : jm_V) (h : jm_H), 0 ≤ i → i ≤ S → (∀ x, 0 ≤ x → x < N → h 39 (s + x) = jb (jchk w i.toNat x)) → (∀ j, j < s ∨ s + N ≤ j → h 39 j = hp 39 j) → jFr hp h [39] → S - i < m → jm_Ev 22 35 [jR 33, jI s, jI S, jI i, z1] [] h (jmk hp s S N w) := by
  intro n
  induction n with
  | zero => intro i z1 h h0 h1 hc ho hfr hm; omega
  | succ n ih =>
    intro i z1 h h0 h1 hc ho hfr hm
    refine jm_Ev.bl 2 (pc' := 37) (A' := [jR 33, jI s, jI S, jI i, z1]) (st' := [jI S, jI i]) (hp' := h) rfl ?_
    refine jE_icmp_ge rfl (by omega) (by omega) (fun c37 => ?_) (fun c37 => ?_)
    · exact jE_ret rfl ⟨rfl, by rw [show S = i by omega]; exact hc, ho, hfr⟩
    · have hwi := hw i (by omega) (by omega)
      have eC : h 38 (s + i) = w i := (congrFun (hfr 38 (by simp)) _).trans hwi.1
      refine jm_Ev.bl 5 (pc' := 45) (A' := [jR 33, jI s, jI S, jI i, z1]) (st' := [jI (s + i), jR 33, jI s]) (hp' := h) rfl ?_
      refine jE_callI (vs := [jR 33, jI (s + i)]) (r := [jI s]) (nx := 48) (v := jI (w i)) (hp1 := h) rfl (eC ▸ c_b_cornerAt h (s + i) (by omega)) ?_
      refine jm_Ev.bl 3 (pc' := 53) (A' := [jR 33, jI s, jI S, jI i, jI (s + (w i))]) (st' := [jI (s + (w i))]) (hp' := h) rfl ?_
      refine jE_if_lt rfl (by omega) (fun c53 => ?_) (fun c53 => ?_)
      · omega
      · refine jm_Ev.bl 2 (pc' := 60) (A' := [jR 33, jI s, jI S, jI i, jI (s + (w i))]) (st' := [jI 60, jI (s + (w i))]) (hp' := h) rfl ?_
        refine jE_icmp_ge rfl (by omega) (by omega) (fun c60 => ?_) (fun c60 => ?_)
        · omega
        · refine jm_Ev.bl 4 (pc' := 70) (A' := [jR 33, jI s, jI S, jI i, jI (s + (w i))]) (st' := [jI 1, jI (s + (w i)), jR 39]) (hp' := h) rfl ?_
          refine jE_zast (n := 60) rfl rfl (by exact Or.inr rfl) (by omega) ?_
          refine jm_Ev.bl 2 (pc' := 35) (A' := [jR 33, jI s, jI S, jI (i + 1), jI (s + (w i))]) (st' := []) (hp' := (jm_hs h 39 (s + (w i)) 1)) rfl ?_
          exact ih (i + 1) _ _ (by omega) (by omega) (fun x a b => by show jm_hs h 39 (s + w i) 1 39 (s + x) = _; rw [js_hs_eq, jchk_s (by omega)]; by_cases e : x = w i; exact (by rw [if_pos (by omega), decide_eq_true e, Bool.or_true]; rfl); rw [if_neg (by omega), decide_eq_false e, Bool.or_false]; exact hc x a b) (fun j z => by show jm_hs h 39 (s + w i) 1 39 j = _; rw [js_hs_eq, if_neg (by omega)]; exact ho j z) (hfr.set (by simp)) (by omega)
theorem c_b_mark_1 (hp : jm_H) (s S N : Int) (w : Int → Int) (hN : 0 ≤ N) (hs : 0 ≤ s ∧ s + N ≤ 60) (hS : 0 ≤ S ∧ S ≤ N) (hw : ∀ n, 0 ≤ n → n < S → hp 38 (s + n) = w n ∧ 0 ≤ w n ∧ w n < N) (e11 : hp 33 11 = N) : ∀ (m : Nat) (i : Int) (h : jm_H), 0 ≤ i → i ≤ N → (∀ x, 0 ≤ x → x < i → h 39 (s + x) = 0) → (∀ j, j < s ∨ s + N ≤ j → h 39 j = hp 39 j) → jFr hp h [39] → N - i < m → jm_Ev 22 2 [jR 33, jI s, jI S, jI i, jU] [] h (jmk hp s S N w) := by
  intro n
  induction n with
  | zero => intro i h h0 h1 hc ho hfr hm; omega
  | succ n ih =>
    intro i h h0 h1 hc ho hfr hm
    refine jm_Ev.bl 3 (pc' := 7) (A' := [jR 33, jI s, jI S, jI i, jU]) (st' := [jI (h 33 11), jI i]) (hp' := h) rfl ?_
    rw [show h 33 11 = N from (congrFun (hfr 33 (by simp)) 11).trans e11]
    refine jE_icmp_ge rfl (by omega) (by omega) (fun c7 => ?_) (fun c7 => ?_)
    · refine jm_Ev.bl 2 (pc' := 35) (A' := [jR 33, jI s, jI S, jI 0, jU]) (st' := []) (hp' := h) rfl ?_
      exact c_b_mark_2 hp s S N w hN hs hS hw 62 0 _ h (by omega) (by omega) (fun x a b => by rw [hc x a (by omega)]; rfl) ho hfr (by omega)
    · refine jm_Ev.bl 4 (pc' := 15) (A' := [jR 33, jI s, jI S, jI i, jU]) (st' := [jI 60, jI (s + i)]) (hp' := h) rfl ?_
      refine jE_icmp_ge rfl (by omega) (by omega) (fun c15 => ?_) (fun c15 => ?_)
      · omega
      · refine jm_Ev.bl 6 (pc' := 26) (A' := [jR 33, jI s, jI S, jI i, jU]) (st' := [jI 0, jI (s + i), jR 39]) (hp' := h) rfl ?_
        refine jE_zast (n := 60) rfl rfl (by exact Or.inl rfl) (by omega) ?_
        refine jm_Ev.bl 2 (pc' := 2) (A' := [jR 33, jI s, jI S, jI (i + 1), jU]) (st' := []) (hp' := (jm_hs h 39 (s + i) 0)) rfl ?_
        exact ih (i + 1) _ (by omega) (by omega) (fun x a b => by show jm_hs h 39 (s + i) 0 39 (s + x) = _; rw [js_hs_eq]; by_cases e : x = i; exact if_pos (by omega); rw [if_neg (by omega)]; exact hc x a (by omega)) (fun j z => by show jm_hs h 39 (s + i) 0 39 j = _; rw [js_hs_eq, if_neg (by omega)]; exact ho j z) (hfr.set (by simp)) (by omega)
theorem c_b_markCorners (hp : jm_H) (s S N : Int) (w : Int → Int) (hN : 0 ≤ N) (hs : 0 ≤ s ∧ s + N ≤ 60) (hS : 0 ≤ S ∧ S ≤ N) (hw : ∀ n, 0 ≤ n → n < S → hp 38 (s + n) = w n ∧ 0 ≤ w n ∧ w n < N) (e11 : hp 33 11 = N) : jm_Ev 22 0 [jR 33, jI s, jI S, jU, jU] [] hp (jmk hp s S N w) := by
  refine jm_Ev.bl 2 (pc' := 2) (A' := [jR 33, jI s, jI S, jI 0, jU]) (st' := []) (hp' := hp) rfl ?_
  exact c_b_mark_1 hp s S N w hN hs hS hw e11 62 0 hp (by omega) (by omega) (fun x a b => by omega) (fun _ _ => rfl) jFr.rf (by omega)
theorem c_b_parea_L (hp : jm_H) (s S N : Int) (X Y w : Int → Int) (hs : 0 ≤ s ∧ s + N ≤ 60) (hS : 0 ≤ S ∧ S ≤ N) (hw : ∀ n, 0 ≤ n → n < S → hp 38 (s + n) = w n ∧ 0 ≤ w n ∧ w n < N) (hX : ∀ n, 0 ≤ n → n < N → hp 24 (s + n) = X n ∧ hp 25 (s + n) = Y n ∧ 0 ≤ X n ∧ X n ≤ 5 ∧ 0 ≤ Y n ∧ Y n ≤ 5) (hS6 : S ≤ 60) : ∀ (m : Nat) (i : Int) (z1 z2 : jm_V), 0 ≤ i → i ≤ S → S - i < m → jm_Ev 23 5 [jR 33, jI s, jI S, jI (jars (fun n => X (w n)) (fun n => Y (w n)) S i.toNat), jI i, z1, z2] [] hp (jK (some (jI ((jars (fun n => X (w n)) (fun n => Y (w n)) S S.toNat).natAbs : Int))) hp) := by
  intro n
  induction n with
  | zero => intro i z1 z2 h0 h1 hm; omega
  | succ n ih =>
    intro i z1 z2 h0 h1 hm
    refine jm_Ev.bl 2 (pc' := 8) (A' := [jR 33, jI s, jI S, jI (jars (fun n => X (w n)) (fun n => Y (w n)) S i.toNat), jI i, z1, z2]) (st' := [jI S, jI i]) (hp' := hp) rfl ?_
    refine jE_icmp_ge rfl (by omega) (by omega) (fun c8 => ?_) (fun c8 => ?_)
    · refine jm_Ev.bl 1 (pc' := 98) (A' := [jR 33, jI s, jI S, jI (jars (fun n => X (w n)) (fun n => Y (w n)) S i.toNat), jI i, z1, z2]) (st' := [jI (jars (fun n => X (w n)) (fun n => Y (w n)) S i.toNat)]) (hp' := hp) rfl ?_
      have jr := jars_r (X := (fun n => X (w n))) (Y := (fun n => Y (w n))) (N := S) (fun n a b => by have := hw n a b; have := hX (w n) this.2.1 this.2.2; omega) (fun n a b => by have := hw n a b; have := hX (w n) this.2.1 this.2.2; omega) i.toNat (by omega)
      refine jE_abs (nx := 101) rfl (by omega) ?_
      exact jE_ret rfl ⟨jrI (by rw [show i = S by omega]), rfl⟩
    · obtain ⟨j, hj⟩ : ∃ j, j = (if i + 1 < S then i + 1 else 0) := ⟨_, rfl⟩
      have hjr : 0 ≤ j ∧ j < S := by rw [hj]; split <;> omega
      have h1 := hw i (by omega) (by omega)
      have h2 := hw j (by omega) (by omega)
      have p1 := hX (w i) h1.2.1 h1.2.2
      have p2 := hX (w j) h2.2.1 h2.2.2
      have js := jars_s (X := (fun n => X (w n))) (Y := (fun n => Y (w n))) (N := S) (i := i) (by omega)
      rw [← hj] at js
      
      refine jm_Ev.bl 5 (pc' := 17) (A' := [jR 33, jI s, jI S, jI (jars (fun n => X (w n)) (fun n => Y (w n)) S i.toNat), jI i, z1, z2]) (st' := [jI (s + i), jR 33, jI s]) (hp' := hp) rfl ?_
      refine jE_callI (vs := [jR 33, jI (s + i)]) (r := [jI s]) (nx := 20) (v := jI (w i)) (hp1 := hp) rfl (h1.1 ▸ c_b_cornerAt hp (s + i) (by omega)) ?_
      refine jm_Ev.bl 9 (pc' := 31) (A' := [jR 33, jI s, jI S, jI (jars (fun n => X (w n)) (fun n => Y (w n)) S i.toNat), jI i, jI (s + (w i)), z2]) (st' := [jI S, jI (i + 1), jI s, jR 33, jI s]) (hp' := hp) rfl ?_
      refine jE_icmp_ge rfl (by omega) (by omega) (fun c31 => ?_) (fun c31 => ?_)
      · refine jm_Ev.bl 1 (pc' := 42) (A' := [jR 33, jI s, jI S, jI (jars (fun n => X (w n)) (fun n => Y (w n)) S i.toNat), jI i, jI (s + (w i)), z2]) (st' := [jI 0, jI s, jR 33, jI s]) (hp' := hp) rfl ?_
        refine jE_top (w := j) (by rw [hj]; split <;> omega) ?_
        refine jm_Ev.bl 1 (pc' := 43) (A' := [jR 33, jI s, jI S, jI (jars (fun n => X (w n)) (fun n => Y (w n)) S i.toNat), jI i, jI (s + (w i)), z2]) (st' := [jI (s + j), jR 33, jI s]) (hp' := hp) rfl ?_
        refine jE_callI (vs := [jR 33, jI (s + j)]) (r := [jI s]) (nx := 46) (v := jI (w j)) (hp1 := hp) rfl (h2.1 ▸ c_b_cornerAt hp (s + j) (by omega)) ?_
        refine jm_Ev.bl 6 (pc' := 56) (A' := [jR 33, jI s, jI S, jI (jars (fun n => X (w n)) (fun n => Y (w n)) S i.toNat), jI i, jI (s + (w i)), jI (s + (w j))]) (st' := [jI (s + (w i)), jR 20, jI (jars (fun n => X (w n)) (fun n => Y (w n)) S i.toNat)]) (hp' := hp) rfl ?_
        refine jE_callI (vs := [jR 20, jI (s + (w i))]) (r := [jI (jars (fun n => X (w n)) (fun n => Y (w n)) S i.toNat)]) (nx := 59) (v := jI (X (w i))) (hp1 := hp) rfl (p1.1 ▸ c_o_xAt_20 hp (s + (w i)) (by omega) (by omega)) ?_
        refine jm_Ev.bl 3 (pc' := 65) (A' := [jR 33, jI s, jI S, jI (jars (fun n => X (w n)) (fun n => Y (w n)) S i.toNat), jI i, jI (s + (w i)), jI (s + (w j))]) (st' := [jI (s + (w j)), jR 20, jI (X (w i)), jI (jars (fun n => X (w n)) (fun n => Y (w n)) S i.toNat)]) (hp' := hp) rfl ?_
        refine jE_callI (vs := [jR 20, jI (s + (w j))]) (r := [jI (X (w i)), jI (jars (fun n => X (w n)) (fun n => Y (w n)) S i.toNat)]) (nx := 68) (v := jI (Y (w j))) (hp1 := hp) rfl (p2.2.1 ▸ c_o_yAt_20 hp (s + (w j)) (by omega) (by omega)) ?_
        refine jm_Ev.bl 4 (pc' := 75) (A' := [jR 33, jI s, jI S, jI (jars (fun n => X (w n)) (fun n => Y (w n)) S i.toNat), jI i, jI (s + (w i)), jI (s + (w j))]) (st' := [jI (s + (w j)), jR 20, jI ((X (w i)) * (Y (w j))), jI (jars (fun n => X (w n)) (fun n => Y (w n)) S i.toNat)]) (hp' := hp) rfl ?_
        refine jE_callI (vs := [jR 20, jI (s + (w j))]) (r := [jI ((X (w i)) * (Y (w j))), jI (jars (fun n => X (w n)) (fun n => Y (w n)) S i.toNat)]) (nx := 78) (v := jI (X (w j))) (hp1 := hp) rfl (p2.1 ▸ c_o_xAt_20 hp (s + (w j)) (by omega) (by omega)) ?_
        refine jm_Ev.bl 3 (pc' := 84) (A' := [jR 33, jI s, jI S, jI (jars (fun n => X (w n)) (fun n => Y (w n)) S i.toNat), jI i, jI (s + (w i)), jI (s + (w j))]) (st' := [jI (s + (w i)), jR 20, jI (X (w j)), jI ((X (w i)) * (Y (w j))), jI (jars (fun n => X (w n)) (fun n => Y (w n)) S i.toNat)]) (hp' := hp) rfl ?_
        refine jE_callI (vs := [jR 20, jI (s + (w i))]) (r := [jI (X (w j)), jI ((X (w i)) * (Y (w j))), jI (jars (fun n => X (w n)) (fun n => Y (w n)) S i.toNat)]) (nx := 87) (v := jI (Y (w i))) (hp1 := hp) rfl (p1.2.1 ▸ c_o_yAt_20 hp (s + (w i)) (by omega) (by omega)) ?_
        refine jm_Ev.bl 4 (pc' := 91) (A' := [jR 33, jI s, jI S, jI ((jars (fun n => X (w n)) (fun n => Y (w n)) S i.toNat) + (((X (w i)) * (Y (w j))) - ((X (w j)) * (Y (w i))))), jI i, jI (s + (w i)), jI (s + (w j))]) (st' := []) (hp' := hp) rfl ?_
        rw [← js]
        refine jm_Ev.bl 2 (pc' := 5) (A' := [jR 33, jI s, jI S, jI (jars (fun n => X (w n)) (fun n => Y (w n)) S (i + 1).toNat), jI (i + 1), jI (s + (w i)), jI (s + (w j))]) (st' := []) (hp' := hp) rfl ?_
        exact ih (i + 1) _ _ (by omega) (by omega) (by omega)
      · refine jm_Ev.bl 4 (pc' := 42) (A' := [jR 33, jI s, jI S, jI (jars (fun n => X (w n)) (fun n => Y (w n)) S i.toNat), jI i, jI (s + (w i)), z2]) (st' := [jI (i + 1), jI s, jR 33, jI s]) (hp' := hp) rfl ?_
        refine jE_top (w := j) (by rw [hj]; split <;> omega) ?_
        refine jm_Ev.bl 1 (pc' := 43) (A' := [jR 33, jI s, jI S, jI (jars (fun n => X (w n)) (fun n => Y (w n)) S i.toNat), jI i, jI (s + (w i)), z2]) (st' := [jI (s + j), jR 33, jI s]) (hp' := hp) rfl ?_
        refine jE_callI (vs := [jR 33, jI (s + j)]) (r := [jI s]) (nx := 46) (v := jI (w j)) (hp1 := hp) rfl (h2.1 ▸ c_b_cornerAt hp (s + j) (by omega)) ?_
        refine jm_Ev.bl 6 (pc' := 56) (A' := [jR 33, jI s, jI S, jI (jars (fun n => X (w n)) (fun n => Y (w n)) S i.toNat), jI i, jI (s + (w i)), jI (s + (w j))]) (st' := [jI (s + (w i)), jR 20, jI (jars (fun n => X (w n)) (fun n => Y (w n)) S i.toNat)]) (hp' := hp) rfl ?_
        refine jE_callI (vs := [jR 20, jI (s + (w i))]) (r := [jI (jars (fun n => X (w n)) (fun n => Y (w n)) S i.toNat)]) (nx := 59) (v := jI (X (w i))) (hp1 := hp) rfl (p1.1 ▸ c_o_xAt_20 hp (s + (w i)) (by omega) (by omega)) ?_
        refine jm_Ev.bl 3 (pc' := 65) (A' := [jR 33, jI s, jI S, jI (jars (fun n => X (w n)) (fun n => Y (w n)) S i.toNat), jI i, jI (s + (w i)), jI (s + (w j))]) (st' := [jI (s + (w j)), jR 20, jI (X (w i)), jI (jars (fun n => X (w n)) (fun n => Y (w n)) S i.toNat)]) (hp' := hp) rfl ?_
        refine jE_callI (vs := [jR 20, jI (s + (w j))]) (r := [jI (X (w i)), jI (jars (fun n => X (w n)) (fun n => Y (w n)) S i.toNat)]) (nx := 68) (v := jI (Y (w j))) (hp1 := hp) rfl (p2.2.1 ▸ c_o_yAt_20 hp (s + (w j)) (by omega) (by omega)) ?_
        refine jm_Ev.bl 4 (pc' := 75) (A' := [jR 33, jI s, jI S, jI (jars (fun n => X (w n)) (fun n => Y (w n)) S i.toNat), jI i, jI (s + (w i)), jI (s + (w j))]) (st' := [jI (s + (w j)), jR 20, jI ((X (w i)) * (Y (w j))), jI (jars (fun n => X (w n)) (fun n => Y (w n)) S i.toNat)]) (hp' := hp) rfl ?_
        refine jE_callI (vs := [jR 20, jI (s + (w j))]) (r := [jI ((X (w i)) * (Y (w j))), jI (jars (fun n => X (w n)) (fun n => Y (w n)) S i.toNat)]) (nx := 78) (v := jI (X (w j))) (hp1 := hp) rfl (p2.1 ▸ c_o_xAt_20 hp (s + (w j)) (by omega) (by omega)) ?_
        refine jm_Ev.bl 3 (pc' := 84) (A' := [jR 33, jI s, jI S, jI (jars (fun n => X (w n)) (fun n => Y (w n)) S i.toNat), jI i, jI (s + (w i)), jI (s + (w j))]) (st' := [jI (s + (w i)), jR 20, jI (X (w j)), jI ((X (w i)) * (Y (w j))), jI (jars (fun n => X (w n)) (fun n => Y (w n)) S i.toNat)]) (hp' := hp) rfl ?_
        refine jE_callI (vs := [jR 20, jI (s + (w i))]) (r := [jI (X (w j)), jI ((X (w i)) * (Y (w j))), jI (jars (fun n => X (w n)) (fun n => Y (w n)) S i.toNat)]) (nx := 87) (v := jI (Y (w i))) (hp1 := hp) rfl (p1.2.1 ▸ c_o_yAt_20 hp (s + (w i)) (by omega) (by omega)) ?_
        refine jm_Ev.bl 4 (pc' := 91) (A' := [jR 33, jI s, jI S, jI ((jars (fun n => X (w n)) (fun n => Y (w n)) S i.toNat) + (((X (w i)) * (Y (w j))) - ((X (w j)) * (Y (w i))))), jI i, jI (s + (w i)), jI (s + (w j))]) (st' := []) (hp' := hp) rfl ?_
        rw [← js]
        refine jm_Ev.bl 2 (pc' := 5) (A' := [jR 33, jI s, jI S, jI (jars (fun n => X (w n)) (fun n => Y (w n)) S (i + 1).toNat), jI (i + 1), jI (s + (w i)), jI (s + (w j))]) (st' := []) (hp' := hp) rfl ?_
        exact ih (i + 1) _ _ (by omega) (by omega) (by omega)
theorem c_b_polygonArea (hp : jm_H) (s S N : Int) (X Y w : Int → Int) (hs : 0 ≤ s ∧ s + N ≤ 60) (hS : 0 ≤ S ∧ S ≤ N) (hw : ∀ n, 0 ≤ n → n < S → hp 38 (s + n) = w n ∧ 0 ≤ w n ∧ w n < N) (hX : ∀ n, 0 ≤ n → n < N → hp 24 (s + n) = X n ∧ hp 25 (s + n) = Y n ∧ 0 ≤ X n ∧ X n ≤ 5 ∧ 0 ≤ Y n ∧ Y n ≤ 5) (hS6 : S ≤ 60) : jm_Ev 23 0 [jR 33, jI s, jI S, jU, jU, jU, jU] [] hp (jK (some (jI ((jars (fun n => X (w n)) (fun n => Y (w n)) S S.toNat).natAbs : Int))) hp) := by
  refine jm_Ev.bl 4 (pc' := 5) (A' := [jR 33, jI s, jI S, jI 0, jI 0, jU, jU]) (st' := []) (hp' := hp) rfl ?_
  exact c_b_parea_L hp s S N X Y w hs hS hw hX (by omega) 62 0 _ _ (by omega) (by omega) (by omega)
