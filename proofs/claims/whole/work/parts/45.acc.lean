/-! what outlines tell -/
def jkor (v c : Int) : Int := if c = -1 then v else jor v c
def jtk (K : Int → Int → Int) (x y : Int) : Int := jkor (jkor (jkor (jkor 0 (K x y)) (K (x - 1) y)) (K x (y - 1))) (K (x - 1) (y - 1))
def jtch (K : Int → Int → Int) (x y k : Int) : Bool := decide (K x y = k) || decide (K (x - 1) y = k) || decide (K x (y - 1) = k) || decide (K (x - 1) (y - 1) = k)
theorem jkor_b : ∀ (v : Fin 32) (c : Fin 6) (k : Fin 5), jbit (jkor (v.val : Int) ((c.val : Int) - 1)) (k.val : Int) = (jbit (v.val : Int) (k.val : Int) || decide ((c.val : Int) - 1 = (k.val : Int))) := by decide +kernel
theorem jkor_rb : ∀ (v : Fin 32) (c : Fin 6), 0 ≤ jkor (v.val : Int) ((c.val : Int) - 1) ∧ jkor (v.val : Int) ((c.val : Int) - 1) ≤ 31 := by decide +kernel
theorem jfin {v : Int} {n : Nat} (h0 : 0 ≤ v) (h1 : v < n) : ∃ f : Fin n, v = (f.val : Int) := ⟨⟨v.toNat, by omega⟩, by dsimp only; omega⟩
theorem jkor_bit {v c k : Int} (h0 : 0 ≤ v) (h1 : v ≤ 31) (c0 : -1 ≤ c) (c1 : c ≤ 4) (k0 : 0 ≤ k) (k1 : k ≤ 4) : jbit (jkor v c) k = (jbit v k || decide (c = k)) := by
  obtain ⟨f, rfl⟩ := jfin (n := 32) h0 (by omega)
  obtain ⟨g, hg⟩ := jfin (v := c + 1) (n := 6) (by omega) (by omega)
  obtain ⟨e, rfl⟩ := jfin (n := 5) k0 (by omega)
  rw [show c = (g.val : Int) - 1 by omega]
  exact jkor_b f g e
theorem jkor_r {v c : Int} (h0 : 0 ≤ v) (h1 : v ≤ 31) (c0 : -1 ≤ c) (c1 : c ≤ 4) : 0 ≤ jkor v c ∧ jkor v c ≤ 31 := by
  obtain ⟨f, rfl⟩ := jfin (n := 32) h0 (by omega)
  obtain ⟨g, hg⟩ := jfin (v := c + 1) (n := 6) (by omega) (by omega)
  rw [show c = (g.val : Int) - 1 by omega]
  exact jkor_rb f g
theorem jbit_05 : ∀ k : Fin 5, jbit 0 (k.val : Int) = false := by decide +kernel
theorem jtk_bit {K : Int → Int → Int} (hK : ∀ x y, -1 ≤ K x y ∧ K x y ≤ 4) (x y k : Int) (k0 : 0 ≤ k) (k1 : k ≤ 4) : jbit (jtk K x y) k = jtch K x y k := by
  have a := hK x y
  have b := hK (x - 1) y
  have c := hK x (y - 1)
  have d := hK (x - 1) (y - 1)
  have r1 := jkor_r (v := 0) (by omega) (by omega) a.1 a.2
  have r2 := jkor_r r1.1 r1.2 b.1 b.2
  have r3 := jkor_r r2.1 r2.2 c.1 c.2
  unfold jtk jtch
  rw [jkor_bit r3.1 r3.2 d.1 d.2 k0 k1, jkor_bit r2.1 r2.2 c.1 c.2 k0 k1, jkor_bit r1.1 r1.2 b.1 b.2 k0 k1, jkor_bit (by omega) (by omega) a.1 a.2 k0 k1]
  obtain ⟨e, rfl⟩ := jfin (n := 5) k0 (by omega)
  rw [jbit_05]; rfl
/-- the leeway, whether it must be a corner -/
def jle (K : Int → Int → Int) (x y : Int) : Int := if jtch K x y 3 = true then 0 else if jtch K x y 4 = true then 2 else 1
def jmu (K : Int → Int → Int) (x y : Int) (turns : Bool) : Int := jb (jtch K x y 2 || (turns && jtch K x y 1))
theorem jle_r (K : Int → Int → Int) (x y : Int) : 0 ≤ jle K x y ∧ jle K x y ≤ 2 := by unfold jle; (repeat' split) <;> omega
/-- a sum over one way round -/
def jars (X Y : Int → Int) (N : Int) : Nat → Int
  | 0 => 0
  | k + 1 => jars X Y N k + (X k * Y (if (k : Int) + 1 < N then (k : Int) + 1 else 0) - X (if (k : Int) + 1 < N then (k : Int) + 1 else 0) * Y k)
theorem jars_s {X Y : Int → Int} {N i : Int} (h : 0 ≤ i) : jars X Y N (i + 1).toNat = jars X Y N i.toNat + (X i * Y (if i + 1 < N then i + 1 else 0) - X (if i + 1 < N then i + 1 else 0) * Y i) := by
  have e : (i + 1).toNat = i.toNat + 1 := by omega
  have e2 : ((i.toNat : Nat) : Int) = i := by omega
  rw [e]
  conv => lhs; unfold jars
  rw [e2]
theorem jars_r {X Y : Int → Int} {N : Int} (hX : ∀ n, 0 ≤ n → n < N → 0 ≤ X n ∧ X n ≤ 5) (hY : ∀ n, 0 ≤ n → n < N → 0 ≤ Y n ∧ Y n ≤ 5) (k : Nat) (hk : k ≤ N) : -25 * (k : Int) ≤ jars X Y N k ∧ jars X Y N k ≤ 25 * (k : Int) := by
  induction k with
  | zero => simp [jars]
  | succ k ih =>
    have h1 := ih (by omega)
    have a := hX k (by omega) (by omega)
    have b := hY k (by omega) (by omega)
    have c := hX (if (k : Int) + 1 < N then (k : Int) + 1 else 0) (by split <;> omega) (by split <;> omega)
    have d := hY (if (k : Int) + 1 < N then (k : Int) + 1 else 0) (by split <;> omega) (by split <;> omega)
    have m1 := jm_mulb a.1 a.2 d.1 d.2
    have m2 := jm_mulb c.1 c.2 b.1 b.2
    unfold jars
    push_cast
    omega
theorem c_o_touched_3 (hp : jm_H) (hG : jG hp 3 4) (x y : Int) (hx : 0 ≤ x ∧ x ≤ 5) (hy : 0 ≤ y ∧ y ≤ 5) : jm_Ev 56 0 [jR 3, jI x, jI y, jU, jU, jU] [] hp (jK (some (jI (jtk (jgk (hp 3 1) (hp 3 2) (hp 4)) x y))) hp) := by
  have r0 := jgk_r hG x y
  have r1 := jgk_r hG (x - 1) y
  have r2 := jgk_r hG x (y - 1)
  have r3 := jgk_r hG (x - 1) (y - 1)
  refine jm_Ev.bl 6 (pc' := 8) (A' := [jR 3, jI x, jI y, jI 0, jI 0, jU]) (st' := [jI 4, jI 0]) (hp' := hp) rfl ?_
  refine jE_icmp_ge rfl (by omega) (by omega) (fun c8 => absurd c8 (by omega)) (fun _ => ?_)
  refine jm_Ev.bl 4 (pc' := 16) (A' := [jR 3, jI x, jI y, jI 0, jI 0, jU]) (st' := [jI 2, jI 0, jI x, jR 3]) (hp' := hp) rfl ?_
  refine jE_irem rfl (by omega) (by omega) ?_
  refine jE_top (w := 0) (by decide) ?_
  refine jm_Ev.bl 4 (pc' := 22) (A' := [jR 3, jI x, jI y, jI 0, jI 0, jU]) (st' := [jI 2, jI 0, jI y, jI (x - 0), jR 3]) (hp' := hp) rfl ?_
  refine jE_idiv rfl (by omega) (by omega) ?_
  refine jE_top (w := 0) (by decide) ?_
  refine jm_Ev.bl 1 (pc' := 24) (A' := [jR 3, jI x, jI y, jI 0, jI 0, jU]) (st' := [jI (y - 0), jI (x - 0), jR 3]) (hp' := hp) rfl ?_
  rw [show x - 0 = x from Int.sub_zero x]
  rw [show y - 0 = y from Int.sub_zero y]
  refine jE_callI (vs := [jR 3, jI x, jI y]) (r := []) (nx := 27) (v := jI (jgk (hp 3 1) (hp 3 2) (hp 4) x y)) (hp1 := hp) rfl (c_g_kindAtCell_3 hp hG _ _ (by omega) (by omega)) ?_
  refine jm_Ev.bl 3 (pc' := 32) (A' := [jR 3, jI x, jI y, jI 0, jI 0, jI (jgk (hp 3 1) (hp 3 2) (hp 4) x y)]) (st' := [jI (-1), jI (jgk (hp 3 1) (hp 3 2) (hp 4) x y)]) (hp' := hp) rfl ?_
  refine jE_icmp_eq rfl (by omega) (by omega) (fun c32_1 => ?_) (fun c32_1 => ?_)
  · refine jm_Ev.bl 4 (pc' := 8) (A' := [jR 3, jI x, jI y, jI 0, jI 1, jI (jgk (hp 3 1) (hp 3 2) (hp 4) x y)]) (st' := [jI 4, jI 1]) (hp' := hp) rfl ?_
    refine jE_icmp_ge rfl (by omega) (by omega) (fun c8 => absurd c8 (by omega)) (fun _ => ?_)
    refine jm_Ev.bl 4 (pc' := 16) (A' := [jR 3, jI x, jI y, jI 0, jI 1, jI (jgk (hp 3 1) (hp 3 2) (hp 4) x y)]) (st' := [jI 2, jI 1, jI x, jR 3]) (hp' := hp) rfl ?_
    refine jE_irem rfl (by omega) (by omega) ?_
    refine jE_top (w := 1) (by decide) ?_
    refine jm_Ev.bl 4 (pc' := 22) (A' := [jR 3, jI x, jI y, jI 0, jI 1, jI (jgk (hp 3 1) (hp 3 2) (hp 4) x y)]) (st' := [jI 2, jI 1, jI y, jI (x - 1), jR 3]) (hp' := hp) rfl ?_
    refine jE_idiv rfl (by omega) (by omega) ?_
    refine jE_top (w := 0) (by decide) ?_
    refine jm_Ev.bl 1 (pc' := 24) (A' := [jR 3, jI x, jI y, jI 0, jI 1, jI (jgk (hp 3 1) (hp 3 2) (hp 4) x y)]) (st' := [jI (y - 0), jI (x - 1), jR 3]) (hp' := hp) rfl ?_
    rw [show y - 0 = y from Int.sub_zero y]
    refine jE_callI (vs := [jR 3, jI (x - 1), jI y]) (r := []) (nx := 27) (v := jI (jgk (hp 3 1) (hp 3 2) (hp 4) (x - 1) y)) (hp1 := hp) rfl (c_g_kindAtCell_3 hp hG _ _ (by omega) (by omega)) ?_
    refine jm_Ev.bl 3 (pc' := 32) (A' := [jR 3, jI x, jI y, jI 0, jI 1, jI (jgk (hp 3 1) (hp 3 2) (hp 4) (x - 1) y)]) (st' := [jI (-1), jI (jgk (hp 3 1) (hp 3 2) (hp 4) (x - 1) y)]) (hp' := hp) rfl ?_
    refine jE_icmp_eq rfl (by omega) (by omega) (fun c32_2 => ?_) (fun c32_2 => ?_)
    · refine jm_Ev.bl 4 (pc' := 8) (A' := [jR 3, jI x, jI y, jI 0, jI 2, jI (jgk (hp 3 1) (hp 3 2) (hp 4) (x - 1) y)]) (st' := [jI 4, jI 2]) (hp' := hp) rfl ?_
      refine jE_icmp_ge rfl (by omega) (by omega) (fun c8 => absurd c8 (by omega)) (fun _ => ?_)
      refine jm_Ev.bl 4 (pc' := 16) (A' := [jR 3, jI x, jI y, jI 0, jI 2, jI (jgk (hp 3 1) (hp 3 2) (hp 4) (x - 1) y)]) (st' := [jI 2, jI 2, jI x, jR 3]) (hp' := hp) rfl ?_
      refine jE_irem rfl (by omega) (by omega) ?_
      refine jE_top (w := 0) (by decide) ?_
      refine jm_Ev.bl 4 (pc' := 22) (A' := [jR 3, jI x, jI y, jI 0, jI 2, jI (jgk (hp 3 1) (hp 3 2) (hp 4) (x - 1) y)]) (st' := [jI 2, jI 2, jI y, jI (x - 0), jR 3]) (hp' := hp) rfl ?_
      refine jE_idiv rfl (by omega) (by omega) ?_
      refine jE_top (w := 1) (by decide) ?_
      refine jm_Ev.bl 1 (pc' := 24) (A' := [jR 3, jI x, jI y, jI 0, jI 2, jI (jgk (hp 3 1) (hp 3 2) (hp 4) (x - 1) y)]) (st' := [jI (y - 1), jI (x - 0), jR 3]) (hp' := hp) rfl ?_
      rw [show x - 0 = x from Int.sub_zero x]
      refine jE_callI (vs := [jR 3, jI x, jI (y - 1)]) (r := []) (nx := 27) (v := jI (jgk (hp 3 1) (hp 3 2) (hp 4) x (y - 1))) (hp1 := hp) rfl (c_g_kindAtCell_3 hp hG _ _ (by omega) (by omega)) ?_
      refine jm_Ev.bl 3 (pc' := 32) (A' := [jR 3, jI x, jI y, jI 0, jI 2, jI (jgk (hp 3 1) (hp 3 2) (hp 4) x (y - 1))]) (st' := [jI (-1), jI (jgk (hp 3 1) (hp 3 2) (hp 4) x (y - 1))]) (hp' := hp) rfl ?_
      refine jE_icmp_eq rfl (by omega) (by omega) (fun c32_3 => ?_) (fun c32_3 => ?_)
      · refine jm_Ev.bl 4 (pc' := 8) (A' := [jR 3, jI x, jI y, jI 0, jI 3, jI (jgk (hp 3 1) (hp 3 2) (hp 4) x (y - 1))]) (st' := [jI 4, jI 3]) (hp' := hp) rfl ?_
        refine jE_icmp_ge rfl (by omega) (by omega) (fun c8 => absurd c8 (by omega)) (fun _ => ?_)
        refine jm_Ev.bl 4 (pc' := 16) (A' := [jR 3, jI x, jI y, jI 0, jI 3, jI (jgk (hp 3 1) (hp 3 2) (hp 4) x (y - 1))]) (st' := [jI 2, jI 3, jI x, jR 3]) (hp' := hp) rfl ?_
        refine jE_irem rfl (by omega) (by omega) ?_
        refine jE_top (w := 1) (by decide) ?_
        refine jm_Ev.bl 4 (pc' := 22) (A' := [jR 3, jI x, jI y, jI 0, jI 3, jI (jgk (hp 3 1) (hp 3 2) (hp 4) x (y - 1))]) (st' := [jI 2, jI 3, jI y, jI (x - 1), jR 3]) (hp' := hp) rfl ?_
        refine jE_idiv rfl (by omega) (by omega) ?_
        refine jE_top (w := 1) (by decide) ?_
        refine jm_Ev.bl 1 (pc' := 24) (A' := [jR 3, jI x, jI y, jI 0, jI 3, jI (jgk (hp 3 1) (hp 3 2) (hp 4) x (y - 1))]) (st' := [jI (y - 1), jI (x - 1), jR 3]) (hp' := hp) rfl ?_
        refine jE_callI (vs := [jR 3, jI (x - 1), jI (y - 1)]) (r := []) (nx := 27) (v := jI (jgk (hp 3 1) (hp 3 2) (hp 4) (x - 1) (y - 1))) (hp1 := hp) rfl (c_g_kindAtCell_3 hp hG _ _ (by omega) (by omega)) ?_
        refine jm_Ev.bl 3 (pc' := 32) (A' := [jR 3, jI x, jI y, jI 0, jI 3, jI (jgk (hp 3 1) (hp 3 2) (hp 4) (x - 1) (y - 1))]) (st' := [jI (-1), jI (jgk (hp 3 1) (hp 3 2) (hp 4) (x - 1) (y - 1))]) (hp' := hp) rfl ?_
        refine jE_icmp_eq rfl (by omega) (by omega) (fun c32_4 => ?_) (fun c32_4 => ?_)
        · refine jm_Ev.bl 4 (pc' := 8) (A' := [jR 3, jI x, jI y, jI 0, jI 4, jI (jgk (hp 3 1) (hp 3 2) (hp 4) (x - 1) (y - 1))]) (st' := [jI 4, jI 4]) (hp' := hp) rfl ?_
          refine jE_icmp_ge rfl (by omega) (by omega) (fun _ => ?_) (fun c8 => absurd c8 (by omega))
          refine jm_Ev.bl 1 (pc' := 49) (A' := [jR 3, jI x, jI y, jI 0, jI 4, jI (jgk (hp 3 1) (hp 3 2) (hp 4) (x - 1) (y - 1))]) (st' := [jI 0]) (hp' := hp) rfl ?_
          exact jE_ret rfl ⟨jrI (by unfold jtk jkor; simp only [*, if_true, if_false]; try rfl), rfl⟩
        · refine jm_Ev.bl 10 (pc' := 8) (A' := [jR 3, jI x, jI y, jI ((Int32.ofInt 0 ||| Int32.ofInt ((Int32.ofInt 1 <<< (Int32.ofInt (jgk (hp 3 1) (hp 3 2) (hp 4) (x - 1) (y - 1)) &&& 31)).toInt)).toInt), jI 4, jI (jgk (hp 3 1) (hp 3 2) (hp 4) (x - 1) (y - 1))]) (st' := [jI 4, jI 4]) (hp' := hp) rfl ?_
          refine jE_icmp_ge rfl (by omega) (by omega) (fun _ => ?_) (fun c8 => absurd c8 (by omega))
          refine jm_Ev.bl 1 (pc' := 49) (A' := [jR 3, jI x, jI y, jI ((Int32.ofInt 0 ||| Int32.ofInt ((Int32.ofInt 1 <<< (Int32.ofInt (jgk (hp 3 1) (hp 3 2) (hp 4) (x - 1) (y - 1)) &&& 31)).toInt)).toInt), jI 4, jI (jgk (hp 3 1) (hp 3 2) (hp 4) (x - 1) (y - 1))]) (st' := [jI ((Int32.ofInt 0 ||| Int32.ofInt ((Int32.ofInt 1 <<< (Int32.ofInt (jgk (hp 3 1) (hp 3 2) (hp 4) (x - 1) (y - 1)) &&& 31)).toInt)).toInt)]) (hp' := hp) rfl ?_
          exact jE_ret rfl ⟨jrI (by unfold jtk jkor; simp only [*, if_true, if_false]; try rfl), rfl⟩
      · refine jm_Ev.bl 10 (pc' := 8) (A' := [jR 3, jI x, jI y, jI ((Int32.ofInt 0 ||| Int32.ofInt ((Int32.ofInt 1 <<< (Int32.ofInt (jgk (hp 3 1) (hp 3 2) (hp 4) x (y - 1)) &&& 31)).toInt)).toInt), jI 3, jI (jgk (hp 3 1) (hp 3 2) (hp 4) x (y - 1))]) (st' := [jI 4, jI 3]) (hp' := hp) rfl ?_
        refine jE_icmp_ge rfl (by omega) (by omega) (fun c8 => absurd c8 (by omega)) (fun _ => ?_)
        refine jm_Ev.bl 4 (pc' := 16) (A' := [jR 3, jI x, jI y, jI ((Int32.ofInt 0 ||| Int32.ofInt ((Int32.ofInt 1 <<< (Int32.ofInt (jgk (hp 3 1) (hp 3 2) (hp 4) x (y - 1)) &&& 31)).toInt)).toInt), jI 3, jI (jgk (hp 3 1) (hp 3 2) (hp 4) x (y - 1))]) (st' := [jI 2, jI 3, jI x, jR 3]) (hp' := hp) rfl ?_
        refine jE_irem rfl (by omega) (by omega) ?_
        refine jE_top (w := 1) (by decide) ?_
        refine jm_Ev.bl 4 (pc' := 22) (A' := [jR 3, jI x, jI y, jI ((Int32.ofInt 0 ||| Int32.ofInt ((Int32.ofInt 1 <<< (Int32.ofInt (jgk (hp 3 1) (hp 3 2) (hp 4) x (y - 1)) &&& 31)).toInt)).toInt), jI 3, jI (jgk (hp 3 1) (hp 3 2) (hp 4) x (y - 1))]) (st' := [jI 2, jI 3, jI y, jI (x - 1), jR 3]) (hp' := hp) rfl ?_
        refine jE_idiv rfl (by omega) (by omega) ?_
        refine jE_top (w := 1) (by decide) ?_
        refine jm_Ev.bl 1 (pc' := 24) (A' := [jR 3, jI x, jI y, jI ((Int32.ofInt 0 ||| Int32.ofInt ((Int32.ofInt 1 <<< (Int32.ofInt (jgk (hp 3 1) (hp 3 2) (hp 4) x (y - 1)) &&& 31)).toInt)).toInt), jI 3, jI (jgk (hp 3 1) (hp 3 2) (hp 4) x (y - 1))]) (st' := [jI (y - 1), jI (x - 1), jR 3]) (hp' := hp) rfl ?_
        refine jE_callI (vs := [jR 3, jI (x - 1), jI (y - 1)]) (r := []) (nx := 27) (v := jI (jgk (hp 3 1) (hp 3 2) (hp 4) (x - 1) (y - 1))) (hp1 := hp) rfl (c_g_kindAtCell_3 hp hG _ _ (by omega) (by omega)) ?_
        refine jm_Ev.bl 3 (pc' := 32) (A' := [jR 3, jI x, jI y, jI ((Int32.ofInt 0 ||| Int32.ofInt ((Int32.ofInt 1 <<< (Int32.ofInt (jgk (hp 3 1) (hp 3 2) (hp 4) x (y - 1)) &&& 31)).toInt)).toInt), jI 3, jI (jgk (hp 3 1) (hp 3 2) (hp 4) (x - 1) (y - 1))]) (st' := [jI (-1), jI (jgk (hp 3 1) (hp 3 2) (hp 4) (x - 1) (y - 1))]) (hp' := hp) rfl ?_
        refine jE_icmp_eq rfl (by omega) (by omega) (fun c32_4 => ?_) (fun c32_4 => ?_)
        · refine jm_Ev.bl 4 (pc' := 8) (A' := [jR 3, jI x, jI y, jI ((Int32.ofInt 0 ||| Int32.ofInt ((Int32.ofInt 1 <<< (Int32.ofInt (jgk (hp 3 1) (hp 3 2) (hp 4) x (y - 1)) &&& 31)).toInt)).toInt), jI 4, jI (jgk (hp 3 1) (hp 3 2) (hp 4) (x - 1) (y - 1))]) (st' := [jI 4, jI 4]) (hp' := hp) rfl ?_
          refine jE_icmp_ge rfl (by omega) (by omega) (fun _ => ?_) (fun c8 => absurd c8 (by omega))
          refine jm_Ev.bl 1 (pc' := 49) (A' := [jR 3, jI x, jI y, jI ((Int32.ofInt 0 ||| Int32.ofInt ((Int32.ofInt 1 <<< (Int32.ofInt (jgk (hp 3 1) (hp 3 2) (hp 4) x (y - 1)) &&& 31)).toInt)).toInt), jI 4, jI (jgk (hp 3 1) (hp 3 2) (hp 4) (x - 1) (y - 1))]) (st' := [jI ((Int32.ofInt 0 ||| Int32.ofInt ((Int32.ofInt 1 <<< (Int32.ofInt (jgk (hp 3 1) (hp 3 2) (hp 4) x (y - 1)) &&& 31)).toInt)).toInt)]) (hp' := hp) rfl ?_
          exact jE_ret rfl ⟨jrI (by unfold jtk jkor; simp only [*, if_true, if_false]; try rfl), rfl⟩
        · refine jm_Ev.bl 10 (pc' := 8) (A' := [jR 3, jI x, jI y, jI ((Int32.ofInt ((Int32.ofInt 0 ||| Int32.ofInt ((Int32.ofInt 1 <<< (Int32.ofInt (jgk (hp 3 1) (hp 3 2) (hp 4) x (y - 1)) &&& 31)).toInt)).toInt) ||| Int32.ofInt ((Int32.ofInt 1 <<< (Int32.ofInt (jgk (hp 3 1) (hp 3 2) (hp 4) (x - 1) (y - 1)) &&& 31)).toInt)).toInt), jI 4, jI (jgk (hp 3 1) (hp 3 2) (hp 4) (x - 1) (y - 1))]) (st' := [jI 4, jI 4]) (hp' := hp) rfl ?_
          refine jE_icmp_ge rfl (by omega) (by omega) (fun _ => ?_) (fun c8 => absurd c8 (by omega))
          refine jm_Ev.bl 1 (pc' := 49) (A' := [jR 3, jI x, jI y, jI ((Int32.ofInt ((Int32.ofInt 0 ||| Int32.ofInt ((Int32.ofInt 1 <<< (Int32.ofInt (jgk (hp 3 1) (hp 3 2) (hp 4) x (y - 1)) &&& 31)).toInt)).toInt) ||| Int32.ofInt ((Int32.ofInt 1 <<< (Int32.ofInt (jgk (hp 3 1) (hp 3 2) (hp 4) (x - 1) (y - 1)) &&& 31)).toInt)).toInt), jI 4, jI (jgk (hp 3 1) (hp 3 2) (hp 4) (x - 1) (y - 1))]) (st' := [jI ((Int32.ofInt ((Int32.ofInt 0 ||| Int32.ofInt ((Int32.ofInt 1 <<< (Int32.ofInt (jgk (hp 3 1) (hp 3 2) (hp 4) x (y - 1)) &&& 31)).toInt)).toInt) ||| Int32.ofInt ((Int32.ofInt 1 <<< (Int32.ofInt (jgk (hp 3 1) (hp 3 2) (hp 4) (x - 1) (y - 1)) &&& 31)).toInt)).toInt)]) (hp' := hp) rfl ?_
          exact jE_ret rfl ⟨jrI (by unfold jtk jkor; simp only [*, if_true, if_false]; try rfl), rfl⟩
    · refine jm_Ev.bl 10 (pc' := 8) (A' := [jR 3, jI x, jI y, jI ((Int32.ofInt 0 ||| Int32.ofInt ((Int32.ofInt 1 <<< (Int32.ofInt (jgk (hp 3 1) (hp 3 2) (hp 4) (x - 1) y) &&& 31)).toInt)).toInt), jI 2, jI (jgk (hp 3 1) (hp 3 2) (hp 4) (x - 1) y)]) (st' := [jI 4, jI 2]) (hp' := hp) rfl ?_
      refine jE_icmp_ge rfl (by omega) (by omega) (fun c8 => absurd c8 (by omega)) (fun _ => ?_)
      refine jm_Ev.bl 4 (pc' := 16) (A' := [jR 3, jI x, jI y, jI ((Int32.ofInt 0 ||| Int32.ofInt ((Int32.ofInt 1 <<< (Int32.ofInt (jgk (hp 3 1) (hp 3 2) (hp 4) (x - 1) y) &&& 31)).toInt)).toInt), jI 2, jI (jgk (hp 3 1) (hp 3 2) (hp 4) (x - 1) y)]) (st' := [jI 2, jI 2, jI x, jR 3]) (hp' := hp) rfl ?_
      refine jE_irem rfl (by omega) (by omega) ?_
      refine jE_top (w := 0) (by decide) ?_
      refine jm_Ev.bl 4 (pc' := 22) (A' := [jR 3, jI x, jI y, jI ((Int32.ofInt 0 ||| Int32.ofInt ((Int32.ofInt 1 <<< (Int32.ofInt (jgk (hp 3 1) (hp 3 2) (hp 4) (x - 1) y) &&& 31)).toInt)).toInt), jI 2, jI (jgk (hp 3 1) (hp 3 2) (hp 4) (x - 1) y)]) (st' := [jI 2, jI 2, jI y, jI (x - 0), jR 3]) (hp' := hp) rfl ?_
      refine jE_idiv rfl (by omega) (by omega) ?_
      refine jE_top (w := 1) (by decide) ?_
      refine jm_Ev.bl 1 (pc' := 24) (A' := [jR 3, jI x, jI y, jI ((Int32.ofInt 0 ||| Int32.ofInt ((Int32.ofInt 1 <<< (Int32.ofInt (jgk (hp 3 1) (hp 3 2) (hp 4) (x - 1) y) &&& 31)).toInt)).toInt), jI 2, jI (jgk (hp 3 1) (hp 3 2) (hp 4) (x - 1) y)]) (st' := [jI (y - 1), jI (x - 0), jR 3]) (hp' := hp) rfl ?_
      rw [show x - 0 = x from Int.sub_zero x]
      refine jE_callI (vs := [jR 3, jI x, jI (y - 1)]) (r := []) (nx := 27) (v := jI (jgk (hp 3 1) (hp 3 2) (hp 4) x (y - 1))) (hp1 := hp) rfl (c_g_kindAtCell_3 hp hG _ _ (by omega) (by omega)) ?_
      refine jm_Ev.bl 3 (pc' := 32) (A' := [jR 3, jI x, jI y, jI ((Int32.ofInt 0 ||| Int32.ofInt ((Int32.ofInt 1 <<< (Int32.ofInt (jgk (hp 3 1) (hp 3 2) (hp 4) (x - 1) y) &&& 31)).toInt)).toInt), jI 2, jI (jgk (hp 3 1) (hp 3 2) (hp 4) x (y - 1))]) (st' := [jI (-1), jI (jgk (hp 3 1) (hp 3 2) (hp 4) x (y - 1))]) (hp' := hp) rfl ?_
      refine jE_icmp_eq rfl (by omega) (by omega) (fun c32_3 => ?_) (fun c32_3 => ?_)
      · refine jm_Ev.bl 4 (pc' := 8) (A' := [jR 3, jI x, jI y, jI ((Int32.ofInt 0 ||| Int32.ofInt ((Int32.ofInt 1 <<< (Int32.ofInt (jgk (hp 3 1) (hp 3 2) (hp 4) (x - 1) y) &&& 31)).toInt)).toInt), jI 3, jI (jgk (hp 3 1) (hp 3 2) (hp 4) x (y - 1))]) (st' := [jI 4, jI 3]) (hp' := hp) rfl ?_
        refine jE_icmp_ge rfl (by omega) (by omega) (fun c8 => absurd c8 (by omega)) (fun _ => ?_)
        refine jm_Ev.bl 4 (pc' := 16) (A' := [jR 3, jI x, jI y, jI ((Int32.ofInt 0 ||| Int32.ofInt ((Int32.ofInt 1 <<< (Int32.ofInt (jgk (hp 3 1) (hp 3 2) (hp 4) (x - 1) y) &&& 31)).toInt)).toInt), jI 3, jI (jgk (hp 3 1) (hp 3 2) (hp 4) x (y - 1))]) (st' := [jI 2, jI 3, jI x, jR 3]) (hp' := hp) rfl ?_
        refine jE_irem rfl (by omega) (by omega) ?_
        refine jE_top (w := 1) (by decide) ?_
        refine jm_Ev.bl 4 (pc' := 22) (A' := [jR 3, jI x, jI y, jI ((Int32.ofInt 0 ||| Int32.ofInt ((Int32.ofInt 1 <<< (Int32.ofInt (jgk (hp 3 1) (hp 3 2) (hp 4) (x - 1) y) &&& 31)).toInt)).toInt), jI 3, jI (jgk (hp 3 1) (hp 3 2) (hp 4) x (y - 1))]) (st' := [jI 2, jI 3, jI y, jI (x - 1), jR 3]) (hp' := hp) rfl ?_
        refine jE_idiv rfl (by omega) (by omega) ?_
        refine jE_top (w := 1) (by decide) ?_
        refine jm_Ev.bl 1 (pc' := 24) (A' := [jR 3, jI x, jI y, jI ((Int32.ofInt 0 ||| Int32.ofInt ((Int32.ofInt 1 <<< (Int32.ofInt (jgk (hp 3 1) (hp 3 2) (hp 4) (x - 1) y) &&& 31)).toInt)).toInt), jI 3, jI (jgk (hp 3 1) (hp 3 2) (hp 4) x (y - 1))]) (st' := [jI (y - 1), jI (x - 1), jR 3]) (hp' := hp) rfl ?_
        refine jE_callI (vs := [jR 3, jI (x - 1), jI (y - 1)]) (r := []) (nx := 27) (v := jI (jgk (hp 3 1) (hp 3 2) (hp 4) (x - 1) (y - 1))) (hp1 := hp) rfl (c_g_kindAtCell_3 hp hG _ _ (by omega) (by omega)) ?_
        refine jm_Ev.bl 3 (pc' := 32) (A' := [jR 3, jI x, jI y, jI ((Int32.ofInt 0 ||| Int32.ofInt ((Int32.ofInt 1 <<< (Int32.ofInt (jgk (hp 3 1) (hp 3 2) (hp 4) (x - 1) y) &&& 31)).toInt)).toInt), jI 3, jI (jgk (hp 3 1) (hp 3 2) (hp 4) (x - 1) (y - 1))]) (st' := [jI (-1), jI (jgk (hp 3 1) (hp 3 2) (hp 4) (x - 1) (y - 1))]) (hp' := hp) rfl ?_
        refine jE_icmp_eq rfl (by omega) (by omega) (fun c32_4 => ?_) (fun c32_4 => ?_)
        · refine jm_Ev.bl 4 (pc' := 8) (A' := [jR 3, jI x, jI y, jI ((Int32.ofInt 0 ||| Int32.ofInt ((Int32.ofInt 1 <<< (Int32.ofInt (jgk (hp 3 1) (hp 3 2) (hp 4) (x - 1) y) &&& 31)).toInt)).toInt), jI 4, jI (jgk (hp 3 1) (hp 3 2) (hp 4) (x - 1) (y - 1))]) (st' := [jI 4, jI 4]) (hp' := hp) rfl ?_
          refine jE_icmp_ge rfl (by omega) (by omega) (fun _ => ?_) (fun c8 => absurd c8 (by omega))
          refine jm_Ev.bl 1 (pc' := 49) (A' := [jR 3, jI x, jI y, jI ((Int32.ofInt 0 ||| Int32.ofInt ((Int32.ofInt 1 <<< (Int32.ofInt (jgk (hp 3 1) (hp 3 2) (hp 4) (x - 1) y) &&& 31)).toInt)).toInt), jI 4, jI (jgk (hp 3 1) (hp 3 2) (hp 4) (x - 1) (y - 1))]) (st' := [jI ((Int32.ofInt 0 ||| Int32.ofInt ((Int32.ofInt 1 <<< (Int32.ofInt (jgk (hp 3 1) (hp 3 2) (hp 4) (x - 1) y) &&& 31)).toInt)).toInt)]) (hp' := hp) rfl ?_
          exact jE_ret rfl ⟨jrI (by unfold jtk jkor; simp only [*, if_true, if_false]; try rfl), rfl⟩
        · refine jm_Ev.bl 10 (pc' := 8) (A' := [jR 3, jI x, jI y, jI ((Int32.ofInt ((Int32.ofInt 0 ||| Int32.ofInt ((Int32.ofInt 1 <<< (Int32.ofInt (jgk (hp 3 1) (hp 3 2) (hp 4) (x - 1) y) &&& 31)).toInt)).toInt) ||| Int32.ofInt ((Int32.ofInt 1 <<< (Int32.ofInt (jgk (hp 3 1) (hp 3 2) (hp 4) (x - 1) (y - 1)) &&& 31)).toInt)).toInt), jI 4, jI (jgk (hp 3 1) (hp 3 2) (hp 4) (x - 1) (y - 1))]) (st' := [jI 4, jI 4]) (hp' := hp) rfl ?_
          refine jE_icmp_ge rfl (by omega) (by omega) (fun _ => ?_) (fun c8 => absurd c8 (by omega))
          refine jm_Ev.bl 1 (pc' := 49) (A' := [jR 3, jI x, jI y, jI ((Int32.ofInt ((Int32.ofInt 0 ||| Int32.ofInt ((Int32.ofInt 1 <<< (Int32.ofInt (jgk (hp 3 1) (hp 3 2) (hp 4) (x - 1) y) &&& 31)).toInt)).toInt) ||| Int32.ofInt ((Int32.ofInt 1 <<< (Int32.ofInt (jgk (hp 3 1) (hp 3 2) (hp 4) (x - 1) (y - 1)) &&& 31)).toInt)).toInt), jI 4, jI (jgk (hp 3 1) (hp 3 2) (hp 4) (x - 1) (y - 1))]) (st' := [jI ((Int32.ofInt ((Int32.ofInt 0 ||| Int32.ofInt ((Int32.ofInt 1 <<< (Int32.ofInt (jgk (hp 3 1) (hp 3 2) (hp 4) (x - 1) y) &&& 31)).toInt)).toInt) ||| Int32.ofInt ((Int32.ofInt 1 <<< (Int32.ofInt (jgk (hp 3 1) (hp 3 2) (hp 4) (x - 1) (y - 1)) &&& 31)).toInt)).toInt)]) (hp' := hp) rfl ?_
          exact jE_ret rfl ⟨jrI (by unfold jtk jkor; simp only [*, if_true, if_false]; try rfl), rfl⟩
      · refine jm_Ev.bl 10 (pc' := 8) (A' := [jR 3, jI x, jI y, jI ((Int32.ofInt ((Int32.ofInt 0 ||| Int32.ofInt ((Int32.ofInt 1 <<< (Int32.ofInt (jgk (hp 3 1) (hp 3 2) (hp 4) (x - 1) y) &&& 31)).toInt)).toInt) ||| Int32.ofInt ((Int32.ofInt 1 <<< (Int32.ofInt (jgk (hp 3 1) (hp 3 2) (hp 4) x (y - 1)) &&& 31)).toInt)).toInt), jI 3, jI (jgk (hp 3 1) (hp 3 2) (hp 4) x (y - 1))]) (st' := [jI 4, jI 3]) (hp' := hp) rfl ?_
        refine jE_icmp_ge rfl (by omega) (by omega) (fun c8 => absurd c8 (by omega)) (fun _ => ?_)
        refine jm_Ev.bl 4 (pc' := 16) (A' := [jR 3, jI x, jI y, jI ((Int32.ofInt ((Int32.ofInt 0 ||| Int32.ofInt ((Int32.ofInt 1 <<< (Int32.ofInt (jgk (hp 3 1) (hp 3 2) (hp 4) (x - 1) y) &&& 31)).toInt)).toInt) ||| Int32.ofInt ((Int32.ofInt 1 <<< (Int32.ofInt (jgk (hp 3 1) (hp 3 2) (hp 4) x (y - 1)) &&& 31)).toInt)).toInt), jI 3, jI (jgk (hp 3 1) (hp 3 2) (hp 4) x (y - 1))]) (st' := [jI 2, jI 3, jI x, jR 3]) (hp' := hp) rfl ?_
        refine jE_irem rfl (by omega) (by omega) ?_
        refine jE_top (w := 1) (by decide) ?_
        refine jm_Ev.bl 4 (pc' := 22) (A' := [jR 3, jI x, jI y, jI ((Int32.ofInt ((Int32.ofInt 0 ||| Int32.ofInt ((Int32.ofInt 1 <<< (Int32.ofInt (jgk (hp 3 1) (hp 3 2) (hp 4) (x - 1) y) &&& 31)).toInt)).toInt) ||| Int32.ofInt ((Int32.ofInt 1 <<< (Int32.ofInt (jgk (hp 3 1) (hp 3 2) (hp 4) x (y - 1)) &&& 31)).toInt)).toInt), jI 3, jI (jgk (hp 3 1) (hp 3 2) (hp 4) x (y - 1))]) (st' := [jI 2, jI 3, jI y, jI (x - 1), jR 3]) (hp' := hp) rfl ?_
        refine jE_idiv rfl (by omega) (by omega) ?_
        refine jE_top (w := 1) (by decide) ?_
        refine jm_Ev.bl 1 (pc' := 24) (A' := [jR 3, jI x, jI y, jI ((Int32.ofInt ((Int32.ofInt 0 ||| Int32.ofInt ((Int32.ofInt 1 <<< (Int32.ofInt (jgk (hp 3 1) (hp 3 2) (hp 4) (x - 1) y) &&& 31)).toInt)).toInt) ||| Int32.ofInt ((Int32.ofInt 1 <<< (Int32.ofInt (jgk (hp 3 1) (hp 3 2) (hp 4) x (y - 1)) &&& 31)).toInt)).toInt), jI 3, jI (jgk (hp 3 1) (hp 3 2) (hp 4) x (y - 1))]) (st' := [jI (y - 1), jI (x - 1), jR 3]) (hp' := hp) rfl ?_
        refine jE_callI (vs := [jR 3, jI (x - 1), jI (y - 1)]) (r := []) (nx := 27) (v := jI (jgk (hp 3 1) (hp 3 2) (hp 4) (x - 1) (y - 1))) (hp1 := hp) rfl (c_g_kindAtCell_3 hp hG _ _ (by omega) (by omega)) ?_
        refine jm_Ev.bl 3 (pc' := 32) (A' := [jR 3, jI x, jI y, jI ((Int32.ofInt ((Int32.ofInt 0 ||| Int32.ofInt ((Int32.ofInt 1 <<< (Int32.ofInt (jgk (hp 3 1) (hp 3 2) (hp 4) (x - 1) y) &&& 31)).toInt)).toInt) ||| Int32.ofInt ((Int32.ofInt 1 <<< (Int32.ofInt (jgk (hp 3 1) (hp 3 2) (hp 4) x (y - 1)) &&& 31)).toInt)).toInt), jI 3, jI (jgk (hp 3 1) (hp 3 2) (hp 4) (x - 1) (y - 1))]) (st' := [jI (-1), jI (jgk (hp 3 1) (hp 3 2) (hp 4) (x - 1) (y - 1))]) (hp' := hp) rfl ?_
        refine jE_icmp_eq rfl (by omega) (by omega) (fun c32_4 => ?_) (fun c32_4 => ?_)
        · refine jm_Ev.bl 4 (pc' := 8) (A' := [jR 3, jI x, jI y, jI ((Int32.ofInt ((Int32.ofInt 0 ||| Int32.ofInt ((Int32.ofInt 1 <<< (Int32.ofInt (jgk (hp 3 1) (hp 3 2) (hp 4) (x - 1) y) &&& 31)).toInt)).toInt) ||| Int32.ofInt ((Int32.ofInt 1 <<< (Int32.ofInt (jgk (hp 3 1) (hp 3 2) (hp 4) x (y - 1)) &&& 31)).toInt)).toInt), jI 4, jI (jgk (hp 3 1) (hp 3 2) (hp 4) (x - 1) (y - 1))]) (st' := [jI 4, jI 4]) (hp' := hp) rfl ?_
          refine jE_icmp_ge rfl (by omega) (by omega) (fun _ => ?_) (fun c8 => absurd c8 (by omega))
          refine jm_Ev.bl 1 (pc' := 49) (A' := [jR 3, jI x, jI y, jI ((Int32.ofInt ((Int32.ofInt 0 ||| Int32.ofInt ((Int32.ofInt 1 <<< (Int32.ofInt (jgk (hp 3 1) (hp 3 2) (hp 4) (x - 1) y) &&& 31)).toInt)).toInt) ||| Int32.ofInt ((Int32.ofInt 1 <<< (Int32.ofInt (jgk (hp 3 1) (hp 3 2) (hp 4) x (y - 1)) &&& 31)).toInt)).toInt), jI 4, jI (jgk (hp 3 1) (hp 3 2) (hp 4) (x - 1) (y - 1))]) (st' := [jI ((Int32.ofInt ((Int32.ofInt 0 ||| Int32.ofInt ((Int32.ofInt 1 <<< (Int32.ofInt (jgk (hp 3 1) (hp 3 2) (hp 4) (x - 1) y) &&& 31)).toInt)).toInt) ||| Int32.ofInt ((Int32.ofInt 1 <<< (Int32.ofInt (jgk (hp 3 1) (hp 3 2) (hp 4) x (y - 1)) &&& 31)).toInt)).toInt)]) (hp' := hp) rfl ?_
          exact jE_ret rfl ⟨jrI (by unfold jtk jkor; simp only [*, if_true, if_false]; try rfl), rfl⟩
        · refine jm_Ev.bl 10 (pc' := 8) (A' := [jR 3, jI x, jI y, jI ((Int32.ofInt ((Int32.ofInt ((Int32.ofInt 0 ||| Int32.ofInt ((Int32.ofInt 1 <<< (Int32.ofInt (jgk (hp 3 1) (hp 3 2) (hp 4) (x - 1) y) &&& 31)).toInt)).toInt) ||| Int32.ofInt ((Int32.ofInt 1 <<< (Int32.ofInt (jgk (hp 3 1) (hp 3 2) (hp 4) x (y - 1)) &&& 31)).toInt)).toInt) ||| Int32.ofInt ((Int32.ofInt 1 <<< (Int32.ofInt (jgk (hp 3 1) (hp 3 2) (hp 4) (x - 1) (y - 1)) &&& 31)).toInt)).toInt), jI 4, jI (jgk (hp 3 1) (hp 3 2) (hp 4) (x - 1) (y - 1))]) (st' := [jI 4, jI 4]) (hp' := hp) rfl ?_
          refine jE_icmp_ge rfl (by omega) (by omega) (fun _ => ?_) (fun c8 => absurd c8 (by omega))
          refine jm_Ev.bl 1 (pc' := 49) (A' := [jR 3, jI x, jI y, jI ((Int32.ofInt ((Int32.ofInt ((Int32.ofInt 0 ||| Int32.ofInt ((Int32.ofInt 1 <<< (Int32.ofInt (jgk (hp 3 1) (hp 3 2) (hp 4) (x - 1) y) &&& 31)).toInt)).toInt) ||| Int32.ofInt ((Int32.ofInt 1 <<< (Int32.ofInt (jgk (hp 3 1) (hp 3 2) (hp 4) x (y - 1)) &&& 31)).toInt)).toInt) ||| Int32.ofInt ((Int32.ofInt 1 <<< (Int32.ofInt (jgk (hp 3 1) (hp 3 2) (hp 4) (x - 1) (y - 1)) &&& 31)).toInt)).toInt), jI 4, jI (jgk (hp 3 1) (hp 3 2) (hp 4) (x - 1) (y - 1))]) (st' := [jI ((Int32.ofInt ((Int32.ofInt ((Int32.ofInt 0 ||| Int32.ofInt ((Int32.ofInt 1 <<< (Int32.ofInt (jgk (hp 3 1) (hp 3 2) (hp 4) (x - 1) y) &&& 31)).toInt)).toInt) ||| Int32.ofInt ((Int32.ofInt 1 <<< (Int32.ofInt (jgk (hp 3 1) (hp 3 2) (hp 4) x (y - 1)) &&& 31)).toInt)).toInt) ||| Int32.ofInt ((Int32.ofInt 1 <<< (Int32.ofInt (jgk (hp 3 1) (hp 3 2) (hp 4) (x - 1) (y - 1)) &&& 31)).toInt)).toInt)]) (hp' := hp) rfl ?_
          exact jE_ret rfl ⟨jrI (by unfold jtk jkor; simp only [*, if_true, if_false]; try rfl), rfl⟩
  · refine jm_Ev.bl 10 (pc' := 8) (A' := [jR 3, jI x, jI y, jI ((Int32.ofInt 0 ||| Int32.ofInt ((Int32.ofInt 1 <<< (Int32.ofInt (jgk (hp 3 1) (hp 3 2) (hp 4) x y) &&& 31)).toInt)).toInt), jI 1, jI (jgk (hp 3 1) (hp 3 2) (hp 4) x y)]) (st' := [jI 4, jI 1]) (hp' := hp) rfl ?_
    refine jE_icmp_ge rfl (by omega) (by omega) (fun c8 => absurd c8 (by omega)) (fun _ => ?_)
    refine jm_Ev.bl 4 (pc' := 16) (A' := [jR 3, jI x, jI y, jI ((Int32.ofInt 0 ||| Int32.ofInt ((Int32.ofInt 1 <<< (Int32.ofInt (jgk (hp 3 1) (hp 3 2) (hp 4) x y) &&& 31)).toInt)).toInt), jI 1, jI (jgk (hp 3 1) (hp 3 2) (hp 4) x y)]) (st' := [jI 2, jI 1, jI x, jR 3]) (hp' := hp) rfl ?_
    refine jE_irem rfl (by omega) (by omega) ?_
    refine jE_top (w := 1) (by decide) ?_
    refine jm_Ev.bl 4 (pc' := 22) (A' := [jR 3, jI x, jI y, jI ((Int32.ofInt 0 ||| Int32.ofInt ((Int32.ofInt 1 <<< (Int32.ofInt (jgk (hp 3 1) (hp 3 2) (hp 4) x y) &&& 31)).toInt)).toInt), jI 1, jI (jgk (hp 3 1) (hp 3 2) (hp 4) x y)]) (st' := [jI 2, jI 1, jI y, jI (x - 1), jR 3]) (hp' := hp) rfl ?_
    refine jE_idiv rfl (by omega) (by omega) ?_
    refine jE_top (w := 0) (by decide) ?_
    refine jm_Ev.bl 1 (pc' := 24) (A' := [jR 3, jI x, jI y, jI ((Int32.ofInt 0 ||| Int32.ofInt ((Int32.ofInt 1 <<< (Int32.ofInt (jgk (hp 3 1) (hp 3 2) (hp 4) x y) &&& 31)).toInt)).toInt), jI 1, jI (jgk (hp 3 1) (hp 3 2) (hp 4) x y)]) (st' := [jI (y - 0), jI (x - 1), jR 3]) (hp' := hp) rfl ?_
    rw [show y - 0 = y from Int.sub_zero y]
    refine jE_callI (vs := [jR 3, jI (x - 1), jI y]) (r := []) (nx := 27) (v := jI (jgk (hp 3 1) (hp 3 2) (hp 4) (x - 1) y)) (hp1 := hp) rfl (c_g_kindAtCell_3 hp hG _ _ (by omega) (by omega)) ?_
    refine jm_Ev.bl 3 (pc' := 32) (A' := [jR 3, jI x, jI y, jI ((Int32.ofInt 0 ||| Int32.ofInt ((Int32.ofInt 1 <<< (Int32.ofInt (jgk (hp 3 1) (hp 3 2) (hp 4) x y) &&& 31)).toInt)).toInt), jI 1, jI (jgk (hp 3 1) (hp 3 2) (hp 4) (x - 1) y)]) (st' := [jI (-1), jI (jgk (hp 3 1) (hp 3 2) (hp 4) (x - 1) y)]) (hp' := hp) rfl ?_
    refine jE_icmp_eq rfl (by omega) (by omega) (fun c32_2 => ?_) (fun c32_2 => ?_)
    · refine jm_Ev.bl 4 (pc' := 8) (A' := [jR 3, jI x, jI y, jI ((Int32.ofInt 0 ||| Int32.ofInt ((Int32.ofInt 1 <<< (Int32.ofInt (jgk (hp 3 1) (hp 3 2) (hp 4) x y) &&& 31)).toInt)).toInt), jI 2, jI (jgk (hp 3 1) (hp 3 2) (hp 4) (x - 1) y)]) (st' := [jI 4, jI 2]) (hp' := hp) rfl ?_
      refine jE_icmp_ge rfl (by omega) (by omega) (fun c8 => absurd c8 (by omega)) (fun _ => ?_)
      refine jm_Ev.bl 4 (pc' := 16) (A' := [jR 3, jI x, jI y, jI ((Int32.ofInt 0 ||| Int32.ofInt ((Int32.ofInt 1 <<< (Int32.ofInt (jgk (hp 3 1) (hp 3 2) (hp 4) x y) &&& 31)).toInt)).toInt), jI 2, jI (jgk (hp 3 1) (hp 3 2) (hp 4) (x - 1) y)]) (st' := [jI 2, jI 2, jI x, jR 3]) (hp' := hp) rfl ?_
      refine jE_irem rfl (by omega) (by omega) ?_
      refine jE_top (w := 0) (by decide) ?_
      refine jm_Ev.bl 4 (pc' := 22) (A' := [jR 3, jI x, jI y, jI ((Int32.ofInt 0 ||| Int32.ofInt ((Int32.ofInt 1 <<< (Int32.ofInt (jgk (hp 3 1) (hp 3 2) (hp 4) x y) &&& 31)).toInt)).toInt), jI 2, jI (jgk (hp 3 1) (hp 3 2) (hp 4) (x - 1) y)]) (st' := [jI 2, jI 2, jI y, jI (x - 0), jR 3]) (hp' := hp) rfl ?_
      refine jE_idiv rfl (by omega) (by omega) ?_
      refine jE_top (w := 1) (by decide) ?_
      refine jm_Ev.bl 1 (pc' := 24) (A' := [jR 3, jI x, jI y, jI ((Int32.ofInt 0 ||| Int32.ofInt ((Int32.ofInt 1 <<< (Int32.ofInt (jgk (hp 3 1) (hp 3 2) (hp 4) x y) &&& 31)).toInt)).toInt), jI 2, jI (jgk (hp 3 1) (hp 3 2) (hp 4) (x - 1) y)]) (st' := [jI (y - 1), jI (x - 0), jR 3]) (hp' := hp) rfl ?_
      rw [show x - 0 = x from Int.sub_zero x]
      refine jE_callI (vs := [jR 3, jI x, jI (y - 1)]) (r := []) (nx := 27) (v := jI (jgk (hp 3 1) (hp 3 2) (hp 4) x (y - 1))) (hp1 := hp) rfl (c_g_kindAtCell_3 hp hG _ _ (by omega) (by omega)) ?_
      refine jm_Ev.bl 3 (pc' := 32) (A' := [jR 3, jI x, jI y, jI ((Int32.ofInt 0 ||| Int32.ofInt ((Int32.ofInt 1 <<< (Int32.ofInt (jgk (hp 3 1) (hp 3 2) (hp 4) x y) &&& 31)).toInt)).toInt), jI 2, jI (jgk (hp 3 1) (hp 3 2) (hp 4) x (y - 1))]) (st' := [jI (-1), jI (jgk (hp 3 1) (hp 3 2) (hp 4) x (y - 1))]) (hp' := hp) rfl ?_
      refine jE_icmp_eq rfl (by omega) (by omega) (fun c32_3 => ?_) (fun c32_3 => ?_)
      · refine jm_Ev.bl 4 (pc' := 8) (A' := [jR 3, jI x, jI y, jI ((Int32.ofInt 0 ||| Int32.ofInt ((Int32.ofInt 1 <<< (Int32.ofInt (jgk (hp 3 1) (hp 3 2) (hp 4) x y) &&& 31)).toInt)).toInt), jI 3, jI (jgk (hp 3 1) (hp 3 2) (hp 4) x (y - 1))]) (st' := [jI 4, jI 3]) (hp' := hp) rfl ?_
        refine jE_icmp_ge rfl (by omega) (by omega) (fun c8 => absurd c8 (by omega)) (fun _ => ?_)
        refine jm_Ev.bl 4 (pc' := 16) (A' := [jR 3, jI x, jI y, jI ((Int32.ofInt 0 ||| Int32.ofInt ((Int32.ofInt 1 <<< (Int32.ofInt (jgk (hp 3 1) (hp 3 2) (hp 4) x y) &&& 31)).toInt)).toInt), jI 3, jI (jgk (hp 3 1) (hp 3 2) (hp 4) x (y - 1))]) (st' := [jI 2, jI 3, jI x, jR 3]) (hp' := hp) rfl ?_
        refine jE_irem rfl (by omega) (by omega) ?_
        refine jE_top (w := 1) (by decide) ?_
        refine jm_Ev.bl 4 (pc' := 22) (A' := [jR 3, jI x, jI y, jI ((Int32.ofInt 0 ||| Int32.ofInt ((Int32.ofInt 1 <<< (Int32.ofInt (jgk (hp 3 1) (hp 3 2) (hp 4) x y) &&& 31)).toInt)).toInt), jI 3, jI (jgk (hp 3 1) (hp 3 2) (hp 4) x (y - 1))]) (st' := [jI 2, jI 3, jI y, jI (x - 1), jR 3]) (hp' := hp) rfl ?_
        refine jE_idiv rfl (by omega) (by omega) ?_
        refine jE_top (w := 1) (by decide) ?_
        refine jm_Ev.bl 1 (pc' := 24) (A' := [jR 3, jI x, jI y, jI ((Int32.ofInt 0 ||| Int32.ofInt ((Int32.ofInt 1 <<< (Int32.ofInt (jgk (hp 3 1) (hp 3 2) (hp 4) x y) &&& 31)).toInt)).toInt), jI 3, jI (jgk (hp 3 1) (hp 3 2) (hp 4) x (y - 1))]) (st' := [jI (y - 1), jI (x - 1), jR 3]) (hp' := hp) rfl ?_
        refine jE_callI (vs := [jR 3, jI (x - 1), jI (y - 1)]) (r := []) (nx := 27) (v := jI (jgk (hp 3 1) (hp 3 2) (hp 4) (x - 1) (y - 1))) (hp1 := hp) rfl (c_g_kindAtCell_3 hp hG _ _ (by omega) (by omega)) ?_
        refine jm_Ev.bl 3 (pc' := 32) (A' := [jR 3, jI x, jI y, jI ((Int32.ofInt 0 ||| Int32.ofInt ((Int32.ofInt 1 <<< (Int32.ofInt (jgk (hp 3 1) (hp 3 2) (hp 4) x y) &&& 31)).toInt)).toInt), jI 3, jI (jgk (hp 3 1) (hp 3 2) (hp 4) (x - 1) (y - 1))]) (st' := [jI (-1), jI (jgk (hp 3 1) (hp 3 2) (hp 4) (x - 1) (y - 1))]) (hp' := hp) rfl ?_
        refine jE_icmp_eq rfl (by omega) (by omega) (fun c32_4 => ?_) (fun c32_4 => ?_)
        · refine jm_Ev.bl 4 (pc' := 8) (A' := [jR 3, jI x, jI y, jI ((Int32.ofInt 0 ||| Int32.ofInt ((Int32.ofInt 1 <<< (Int32.ofInt (jgk (hp 3 1) (hp 3 2) (hp 4) x y) &&& 31)).toInt)).toInt), jI 4, jI (jgk (hp 3 1) (hp 3 2) (hp 4) (x - 1) (y - 1))]) (st' := [jI 4, jI 4]) (hp' := hp) rfl ?_
          refine jE_icmp_ge rfl (by omega) (by omega) (fun _ => ?_) (fun c8 => absurd c8 (by omega))
          refine jm_Ev.bl 1 (pc' := 49) (A' := [jR 3, jI x, jI y, jI ((Int32.ofInt 0 ||| Int32.ofInt ((Int32.ofInt 1 <<< (Int32.ofInt (jgk (hp 3 1) (hp 3 2) (hp 4) x y) &&& 31)).toInt)).toInt), jI 4, jI (jgk (hp 3 1) (hp 3 2) (hp 4) (x - 1) (y - 1))]) (st' := [jI ((Int32.ofInt 0 ||| Int32.ofInt ((Int32.ofInt 1 <<< (Int32.ofInt (jgk (hp 3 1) (hp 3 2) (hp 4) x y) &&& 31)).toInt)).toInt)]) (hp' := hp) rfl ?_
          exact jE_ret rfl ⟨jrI (by unfold jtk jkor; simp only [*, if_true, if_false]; try rfl), rfl⟩
        · refine jm_Ev.bl 10 (pc' := 8) (A' := [jR 3, jI x, jI y, jI ((Int32.ofInt ((Int32.ofInt 0 ||| Int32.ofInt ((Int32.ofInt 1 <<< (Int32.ofInt (jgk (hp 3 1) (hp 3 2) (hp 4) x y) &&& 31)).toInt)).toInt) ||| Int32.ofInt ((Int32.ofInt 1 <<< (Int32.ofInt (jgk (hp 3 1) (hp 3 2) (hp 4) (x - 1) (y - 1)) &&& 31)).toInt)).toInt), jI 4, jI (jgk (hp 3 1) (hp 3 2) (hp 4) (x - 1) (y - 1))]) (st' := [jI 4, jI 4]) (hp' := hp) rfl ?_
          refine jE_icmp_ge rfl (by omega) (by omega) (fun _ => ?_) (fun c8 => absurd c8 (by omega))
          refine jm_Ev.bl 1 (pc' := 49) (A' := [jR 3, jI x, jI y, jI ((Int32.ofInt ((Int32.ofInt 0 ||| Int32.ofInt ((Int32.ofInt 1 <<< (Int32.ofInt (jgk (hp 3 1) (hp 3 2) (hp 4) x y) &&& 31)).toInt)).toInt) ||| Int32.ofInt ((Int32.ofInt 1 <<< (Int32.ofInt (jgk (hp 3 1) (hp 3 2) (hp 4) (x - 1) (y - 1)) &&& 31)).toInt)).toInt), jI 4, jI (jgk (hp 3 1) (hp 3 2) (hp 4) (x - 1) (y - 1))]) (st' := [jI ((Int32.ofInt ((Int32.ofInt 0 ||| Int32.ofInt ((Int32.ofInt 1 <<< (Int32.ofInt (jgk (hp 3 1) (hp 3 2) (hp 4) x y) &&& 31)).toInt)).toInt) ||| Int32.ofInt ((Int32.ofInt 1 <<< (Int32.ofInt (jgk (hp 3 1) (hp 3 2) (hp 4) (x - 1) (y - 1)) &&& 31)).toInt)).toInt)]) (hp' := hp) rfl ?_
          exact jE_ret rfl ⟨jrI (by unfold jtk jkor; simp only [*, if_true, if_false]; try rfl), rfl⟩
      · refine jm_Ev.bl 10 (pc' := 8) (A' := [jR 3, jI x, jI y, jI ((Int32.ofInt ((Int32.ofInt 0 ||| Int32.ofInt ((Int32.ofInt 1 <<< (Int32.ofInt (jgk (hp 3 1) (hp 3 2) (hp 4) x y) &&& 31)).toInt)).toInt) ||| Int32.ofInt ((Int32.ofInt 1 <<< (Int32.ofInt (jgk (hp 3 1) (hp 3 2) (hp 4) x (y - 1)) &&& 31)).toInt)).toInt), jI 3, jI (jgk (hp 3 1) (hp 3 2) (hp 4) x (y - 1))]) (st' := [jI 4, jI 3]) (hp' := hp) rfl ?_
        refine jE_icmp_ge rfl (by omega) (by omega) (fun c8 => absurd c8 (by omega)) (fun _ => ?_)
        refine jm_Ev.bl 4 (pc' := 16) (A' := [jR 3, jI x, jI y, jI ((Int32.ofInt ((Int32.ofInt 0 ||| Int32.ofInt ((Int32.ofInt 1 <<< (Int32.ofInt (jgk (hp 3 1) (hp 3 2) (hp 4) x y) &&& 31)).toInt)).toInt) ||| Int32.ofInt ((Int32.ofInt 1 <<< (Int32.ofInt (jgk (hp 3 1) (hp 3 2) (hp 4) x (y - 1)) &&& 31)).toInt)).toInt), jI 3, jI (jgk (hp 3 1) (hp 3 2) (hp 4) x (y - 1))]) (st' := [jI 2, jI 3, jI x, jR 3]) (hp' := hp) rfl ?_
        refine jE_irem rfl (by omega) (by omega) ?_
        refine jE_top (w := 1) (by decide) ?_
        refine jm_Ev.bl 4 (pc' := 22) (A' := [jR 3, jI x, jI y, jI ((Int32.ofInt ((Int32.ofInt 0 ||| Int32.ofInt ((Int32.ofInt 1 <<< (Int32.ofInt (jgk (hp 3 1) (hp 3 2) (hp 4) x y) &&& 31)).toInt)).toInt) ||| Int32.ofInt ((Int32.ofInt 1 <<< (Int32.ofInt (jgk (hp 3 1) (hp 3 2) (hp 4) x (y - 1)) &&& 31)).toInt)).toInt), jI 3, jI (jgk (hp 3 1) (hp 3 2) (hp 4) x (y - 1))]) (st' := [jI 2, jI 3, jI y, jI (x - 1), jR 3]) (hp' := hp) rfl ?_
        refine jE_idiv rfl (by omega) (by omega) ?_
        refine jE_top (w := 1) (by decide) ?_
        refine jm_Ev.bl 1 (pc' := 24) (A' := [jR 3, jI x, jI y, jI ((Int32.ofInt ((Int32.ofInt 0 ||| Int32.ofInt ((Int32.ofInt 1 <<< (Int32.ofInt (jgk (hp 3 1) (hp 3 2) (hp 4) x y) &&& 31)).toInt)).toInt) ||| Int32.ofInt ((Int32.ofInt 1 <<< (Int32.ofInt (jgk (hp 3 1) (hp 3 2) (hp 4) x (y - 1)) &&& 31)).toInt)).toInt), jI 3, jI (jgk (hp 3 1) (hp 3 2) (hp 4) x (y - 1))]) (st' := [jI (y - 1), jI (x - 1), jR 3]) (hp' := hp) rfl ?_
        refine jE_callI (vs := [jR 3, jI (x - 1), jI (y - 1)]) (r := []) (nx := 27) (v := jI (jgk (hp 3 1) (hp 3 2) (hp 4) (x - 1) (y - 1))) (hp1 := hp) rfl (c_g_kindAtCell_3 hp hG _ _ (by omega) (by omega)) ?_
        refine jm_Ev.bl 3 (pc' := 32) (A' := [jR 3, jI x, jI y, jI ((Int32.ofInt ((Int32.ofInt 0 ||| Int32.ofInt ((Int32.ofInt 1 <<< (Int32.ofInt (jgk (hp 3 1) (hp 3 2) (hp 4) x y) &&& 31)).toInt)).toInt) ||| Int32.ofInt ((Int32.ofInt 1 <<< (Int32.ofInt (jgk (hp 3 1) (hp 3 2) (hp 4) x (y - 1)) &&& 31)).toInt)).toInt), jI 3, jI (jgk (hp 3 1) (hp 3 2) (hp 4) (x - 1) (y - 1))]) (st' := [jI (-1), jI (jgk (hp 3 1) (hp 3 2) (hp 4) (x - 1) (y - 1))]) (hp' := hp) rfl ?_
        refine jE_icmp_eq rfl (by omega) (by omega) (fun c32_4 => ?_) (fun c32_4 => ?_)
        · refine jm_Ev.bl 4 (pc' := 8) (A' := [jR 3, jI x, jI y, jI ((Int32.ofInt ((Int32.ofInt 0 ||| Int32.ofInt ((Int32.ofInt 1 <<< (Int32.ofInt (jgk (hp 3 1) (hp 3 2) (hp 4) x y) &&& 31)).toInt)).toInt) ||| Int32.ofInt ((Int32.ofInt 1 <<< (Int32.ofInt (jgk (hp 3 1) (hp 3 2) (hp 4) x (y - 1)) &&& 31)).toInt)).toInt), jI 4, jI (jgk (hp 3 1) (hp 3 2) (hp 4) (x - 1) (y - 1))]) (st' := [jI 4, jI 4]) (hp' := hp) rfl ?_
          refine jE_icmp_ge rfl (by omega) (by omega) (fun _ => ?_) (fun c8 => absurd c8 (by omega))
          refine jm_Ev.bl 1 (pc' := 49) (A' := [jR 3, jI x, jI y, jI ((Int32.ofInt ((Int32.ofInt 0 ||| Int32.ofInt ((Int32.ofInt 1 <<< (Int32.ofInt (jgk (hp 3 1) (hp 3 2) (hp 4) x y) &&& 31)).toInt)).toInt) ||| Int32.ofInt ((Int32.ofInt 1 <<< (Int32.ofInt (jgk (hp 3 1) (hp 3 2) (hp 4) x (y - 1)) &&& 31)).toInt)).toInt), jI 4, jI (jgk (hp 3 1) (hp 3 2) (hp 4) (x - 1) (y - 1))]) (st' := [jI ((Int32.ofInt ((Int32.ofInt 0 ||| Int32.ofInt ((Int32.ofInt 1 <<< (Int32.ofInt (jgk (hp 3 1) (hp 3 2) (hp 4) x y) &&& 31)).toInt)).toInt) ||| Int32.ofInt ((Int32.ofInt 1 <<< (Int32.ofInt (jgk (hp 3 1) (hp 3 2) (hp 4) x (y - 1)) &&& 31)).toInt)).toInt)]) (hp' := hp) rfl ?_
          exact jE_ret rfl ⟨jrI (by unfold jtk jkor; simp only [*, if_true, if_false]; try rfl), rfl⟩
        · refine jm_Ev.bl 10 (pc' := 8) (A' := [jR 3, jI x, jI y, jI ((Int32.ofInt ((Int32.ofInt ((Int32.ofInt 0 ||| Int32.ofInt ((Int32.ofInt 1 <<< (Int32.ofInt (jgk (hp 3 1) (hp 3 2) (hp 4) x y) &&& 31)).toInt)).toInt) ||| Int32.ofInt ((Int32.ofInt 1 <<< (Int32.ofInt (jgk (hp 3 1) (hp 3 2) (hp 4) x (y - 1)) &&& 31)).toInt)).toInt) ||| Int32.ofInt ((Int32.ofInt 1 <<< (Int32.ofInt (jgk (hp 3 1) (hp 3 2) (hp 4) (x - 1) (y - 1)) &&& 31)).toInt)).toInt), jI 4, jI (jgk (hp 3 1) (hp 3 2) (hp 4) (x - 1) (y - 1))]) (st' := [jI 4, jI 4]) (hp' := hp) rfl ?_
          refine jE_icmp_ge rfl (by omega) (by omega) (fun _ => ?_) (fun c8 => absurd c8 (by omega))
          refine jm_Ev.bl 1 (pc' := 49) (A' := [jR 3, jI x, jI y, jI ((Int32.ofInt ((Int32.ofInt ((Int32.ofInt 0 ||| Int32.ofInt ((Int32.ofInt 1 <<< (Int32.ofInt (jgk (hp 3 1) (hp 3 2) (hp 4) x y) &&& 31)).toInt)).toInt) ||| Int32.ofInt ((Int32.ofInt 1 <<< (Int32.ofInt (jgk (hp 3 1) (hp 3 2) (hp 4) x (y - 1)) &&& 31)).toInt)).toInt) ||| Int32.ofInt ((Int32.ofInt 1 <<< (Int32.ofInt (jgk (hp 3 1) (hp 3 2) (hp 4) (x - 1) (y - 1)) &&& 31)).toInt)).toInt), jI 4, jI (jgk (hp 3 1) (hp 3 2) (hp 4) (x - 1) (y - 1))]) (st' := [jI ((Int32.ofInt ((Int32.ofInt ((Int32.ofInt 0 ||| Int32.ofInt ((Int32.ofInt 1 <<< (Int32.ofInt (jgk (hp 3 1) (hp 3 2) (hp 4) x y) &&& 31)).toInt)).toInt) ||| Int32.ofInt ((Int32.ofInt 1 <<< (Int32.ofInt (jgk (hp 3 1) (hp 3 2) (hp 4) x (y - 1)) &&& 31)).toInt)).toInt) ||| Int32.ofInt ((Int32.ofInt 1 <<< (Int32.ofInt (jgk (hp 3 1) (hp 3 2) (hp 4) (x - 1) (y - 1)) &&& 31)).toInt)).toInt)]) (hp' := hp) rfl ?_
          exact jE_ret rfl ⟨jrI (by unfold jtk jkor; simp only [*, if_true, if_false]; try rfl), rfl⟩
    · refine jm_Ev.bl 10 (pc' := 8) (A' := [jR 3, jI x, jI y, jI ((Int32.ofInt ((Int32.ofInt 0 ||| Int32.ofInt ((Int32.ofInt 1 <<< (Int32.ofInt (jgk (hp 3 1) (hp 3 2) (hp 4) x y) &&& 31)).toInt)).toInt) ||| Int32.ofInt ((Int32.ofInt 1 <<< (Int32.ofInt (jgk (hp 3 1) (hp 3 2) (hp 4) (x - 1) y) &&& 31)).toInt)).toInt), jI 2, jI (jgk (hp 3 1) (hp 3 2) (hp 4) (x - 1) y)]) (st' := [jI 4, jI 2]) (hp' := hp) rfl ?_
      refine jE_icmp_ge rfl (by omega) (by omega) (fun c8 => absurd c8 (by omega)) (fun _ => ?_)
      refine jm_Ev.bl 4 (pc' := 16) (A' := [jR 3, jI x, jI y, jI ((Int32.ofInt ((Int32.ofInt 0 ||| Int32.ofInt ((Int32.ofInt 1 <<< (Int32.ofInt (jgk (hp 3 1) (hp 3 2) (hp 4) x y) &&& 31)).toInt)).toInt) ||| Int32.ofInt ((Int32.ofInt 1 <<< (Int32.ofInt (jgk (hp 3 1) (hp 3 2) (hp 4) (x - 1) y) &&& 31)).toInt)).toInt), jI 2, jI (jgk (hp 3 1) (hp 3 2) (hp 4) (x - 1) y)]) (st' := [jI 2, jI 2, jI x, jR 3]) (hp' := hp) rfl ?_
      refine jE_irem rfl (by omega) (by omega) ?_
      refine jE_top (w := 0) (by decide) ?_
      refine jm_Ev.bl 4 (pc' := 22) (A' := [jR 3, jI x, jI y, jI ((Int32.ofInt ((Int32.ofInt 0 ||| Int32.ofInt ((Int32.ofInt 1 <<< (Int32.ofInt (jgk (hp 3 1) (hp 3 2) (hp 4) x y) &&& 31)).toInt)).toInt) ||| Int32.ofInt ((Int32.ofInt 1 <<< (Int32.ofInt (jgk (hp 3 1) (hp 3 2) (hp 4) (x - 1) y) &&& 31)).toInt)).toInt), jI 2, jI (jgk (hp 3 1) (hp 3 2) (hp 4) (x - 1) y)]) (st' := [jI 2, jI 2, jI y, jI (x - 0), jR 3]) (hp' := hp) rfl ?_
      refine jE_idiv rfl (by omega) (by omega) ?_
      refine jE_top (w := 1) (by decide) ?_
      refine jm_Ev.bl 1 (pc' := 24) (A' := [jR 3, jI x, jI y, jI ((Int32.ofInt ((Int32.ofInt 0 ||| Int32.ofInt ((Int32.ofInt 1 <<< (Int32.ofInt (jgk (hp 3 1) (hp 3 2) (hp 4) x y) &&& 31)).toInt)).toInt) ||| Int32.ofInt ((Int32.ofInt 1 <<< (Int32.ofInt (jgk (hp 3 1) (hp 3 2) (hp 4) (x - 1) y) &&& 31)).toInt)).toInt), jI 2, jI (jgk (hp 3 1) (hp 3 2) (hp 4) (x - 1) y)]) (st' := [jI (y - 1), jI (x - 0), jR 3]) (hp' := hp) rfl ?_
      rw [show x - 0 = x from Int.sub_zero x]
      refine jE_callI (vs := [jR 3, jI x, jI (y - 1)]) (r := []) (nx := 27) (v := jI (jgk (hp 3 1) (hp 3 2) (hp 4) x (y - 1))) (hp1 := hp) rfl (c_g_kindAtCell_3 hp hG _ _ (by omega) (by omega)) ?_
      refine jm_Ev.bl 3 (pc' := 32) (A' := [jR 3, jI x, jI y, jI ((Int32.ofInt ((Int32.ofInt 0 ||| Int32.ofInt ((Int32.ofInt 1 <<< (Int32.ofInt (jgk (hp 3 1) (hp 3 2) (hp 4) x y) &&& 31)).toInt)).toInt) ||| Int32.ofInt ((Int32.ofInt 1 <<< (Int32.ofInt (jgk (hp 3 1) (hp 3 2) (hp 4) (x - 1) y) &&& 31)).toInt)).toInt), jI 2, jI (jgk (hp 3 1) (hp 3 2) (hp 4) x (y - 1))]) (st' := [jI (-1), jI (jgk (hp 3 1) (hp 3 2) (hp 4) x (y - 1))]) (hp' := hp) rfl ?_
      refine jE_icmp_eq rfl (by omega) (by omega) (fun c32_3 => ?_) (fun c32_3 => ?_)
      · refine jm_Ev.bl 4 (pc' := 8) (A' := [jR 3, jI x, jI y, jI ((Int32.ofInt ((Int32.ofInt 0 ||| Int32.ofInt ((Int32.ofInt 1 <<< (Int32.ofInt (jgk (hp 3 1) (hp 3 2) (hp 4) x y) &&& 31)).toInt)).toInt) ||| Int32.ofInt ((Int32.ofInt 1 <<< (Int32.ofInt (jgk (hp 3 1) (hp 3 2) (hp 4) (x - 1) y) &&& 31)).toInt)).toInt), jI 3, jI (jgk (hp 3 1) (hp 3 2) (hp 4) x (y - 1))]) (st' := [jI 4, jI 3]) (hp' := hp) rfl ?_
        refine jE_icmp_ge rfl (by omega) (by omega) (fun c8 => absurd c8 (by omega)) (fun _ => ?_)
        refine jm_Ev.bl 4 (pc' := 16) (A' := [jR 3, jI x, jI y, jI ((Int32.ofInt ((Int32.ofInt 0 ||| Int32.ofInt ((Int32.ofInt 1 <<< (Int32.ofInt (jgk (hp 3 1) (hp 3 2) (hp 4) x y) &&& 31)).toInt)).toInt) ||| Int32.ofInt ((Int32.ofInt 1 <<< (Int32.ofInt (jgk (hp 3 1) (hp 3 2) (hp 4) (x - 1) y) &&& 31)).toInt)).toInt), jI 3, jI (jgk (hp 3 1) (hp 3 2) (hp 4) x (y - 1))]) (st' := [jI 2, jI 3, jI x, jR 3]) (hp' := hp) rfl ?_
        refine jE_irem rfl (by omega) (by omega) ?_
        refine jE_top (w := 1) (by decide) ?_
        refine jm_Ev.bl 4 (pc' := 22) (A' := [jR 3, jI x, jI y, jI ((Int32.ofInt ((Int32.ofInt 0 ||| Int32.ofInt ((Int32.ofInt 1 <<< (Int32.ofInt (jgk (hp 3 1) (hp 3 2) (hp 4) x y) &&& 31)).toInt)).toInt) ||| Int32.ofInt ((Int32.ofInt 1 <<< (Int32.ofInt (jgk (hp 3 1) (hp 3 2) (hp 4) (x - 1) y) &&& 31)).toInt)).toInt), jI 3, jI (jgk (hp 3 1) (hp 3 2) (hp 4) x (y - 1))]) (st' := [jI 2, jI 3, jI y, jI (x - 1), jR 3]) (hp' := hp) rfl ?_
        refine jE_idiv rfl (by omega) (by omega) ?_
        refine jE_top (w := 1) (by decide) ?_
        refine jm_Ev.bl 1 (pc' := 24) (A' := [jR 3, jI x, jI y, jI ((Int32.ofInt ((Int32.ofInt 0 ||| Int32.ofInt ((Int32.ofInt 1 <<< (Int32.ofInt (jgk (hp 3 1) (hp 3 2) (hp 4) x y) &&& 31)).toInt)).toInt) ||| Int32.ofInt ((Int32.ofInt 1 <<< (Int32.ofInt (jgk (hp 3 1) (hp 3 2) (hp 4) (x - 1) y) &&& 31)).toInt)).toInt), jI 3, jI (jgk (hp 3 1) (hp 3 2) (hp 4) x (y - 1))]) (st' := [jI (y - 1), jI (x - 1), jR 3]) (hp' := hp) rfl ?_
        refine jE_callI (vs := [jR 3, jI (x - 1), jI (y - 1)]) (r := []) (nx := 27) (v := jI (jgk (hp 3 1) (hp 3 2) (hp 4) (x - 1) (y - 1))) (hp1 := hp) rfl (c_g_kindAtCell_3 hp hG _ _ (by omega) (by omega)) ?_
        refine jm_Ev.bl 3 (pc' := 32) (A' := [jR 3, jI x, jI y, jI ((Int32.ofInt ((Int32.ofInt 0 ||| Int32.ofInt ((Int32.ofInt 1 <<< (Int32.ofInt (jgk (hp 3 1) (hp 3 2) (hp 4) x y) &&& 31)).toInt)).toInt) ||| Int32.ofInt ((Int32.ofInt 1 <<< (Int32.ofInt (jgk (hp 3 1) (hp 3 2) (hp 4) (x - 1) y) &&& 31)).toInt)).toInt), jI 3, jI (jgk (hp 3 1) (hp 3 2) (hp 4) (x - 1) (y - 1))]) (st' := [jI (-1), jI (jgk (hp 3 1) (hp 3 2) (hp 4) (x - 1) (y - 1))]) (hp' := hp) rfl ?_
        refine jE_icmp_eq rfl (by omega) (by omega) (fun c32_4 => ?_) (fun c32_4 => ?_)
        · refine jm_Ev.bl 4 (pc' := 8) (A' := [jR 3, jI x, jI y, jI ((Int32.ofInt ((Int32.ofInt 0 ||| Int32.ofInt ((Int32.ofInt 1 <<< (Int32.ofInt (jgk (hp 3 1) (hp 3 2) (hp 4) x y) &&& 31)).toInt)).toInt) ||| Int32.ofInt ((Int32.ofInt 1 <<< (Int32.ofInt (jgk (hp 3 1) (hp 3 2) (hp 4) (x - 1) y) &&& 31)).toInt)).toInt), jI 4, jI (jgk (hp 3 1) (hp 3 2) (hp 4) (x - 1) (y - 1))]) (st' := [jI 4, jI 4]) (hp' := hp) rfl ?_
          refine jE_icmp_ge rfl (by omega) (by omega) (fun _ => ?_) (fun c8 => absurd c8 (by omega))
          refine jm_Ev.bl 1 (pc' := 49) (A' := [jR 3, jI x, jI y, jI ((Int32.ofInt ((Int32.ofInt 0 ||| Int32.ofInt ((Int32.ofInt 1 <<< (Int32.ofInt (jgk (hp 3 1) (hp 3 2) (hp 4) x y) &&& 31)).toInt)).toInt) ||| Int32.ofInt ((Int32.ofInt 1 <<< (Int32.ofInt (jgk (hp 3 1) (hp 3 2) (hp 4) (x - 1) y) &&& 31)).toInt)).toInt), jI 4, jI (jgk (hp 3 1) (hp 3 2) (hp 4) (x - 1) (y - 1))]) (st' := [jI ((Int32.ofInt ((Int32.ofInt 0 ||| Int32.ofInt ((Int32.ofInt 1 <<< (Int32.ofInt (jgk (hp 3 1) (hp 3 2) (hp 4) x y) &&& 31)).toInt)).toInt) ||| Int32.ofInt ((Int32.ofInt 1 <<< (Int32.ofInt (jgk (hp 3 1) (hp 3 2) (hp 4) (x - 1) y) &&& 31)).toInt)).toInt)]) (hp' := hp) rfl ?_
          exact jE_ret rfl ⟨jrI (by unfold jtk jkor; simp only [*, if_true, if_false]; try rfl), rfl⟩
        · refine jm_Ev.bl 10 (pc' := 8) (A' := [jR 3, jI x, jI y, jI ((Int32.ofInt ((Int32.ofInt ((Int32.ofInt 0 ||| Int32.ofInt ((Int32.ofInt 1 <<< (Int32.ofInt (jgk (hp 3 1) (hp 3 2) (hp 4) x y) &&& 31)).toInt)).toInt) ||| Int32.ofInt ((Int32.ofInt 1 <<< (Int32.ofInt (jgk (hp 3 1) (hp 3 2) (hp 4) (x - 1) y) &&& 31)).toInt)).toInt) ||| Int32.ofInt ((Int32.ofInt 1 <<< (Int32.ofInt (jgk (hp 3 1) (hp 3 2) (hp 4) (x - 1) (y - 1)) &&& 31)).toInt)).toInt), jI 4, jI (jgk (hp 3 1) (hp 3 2) (hp 4) (x - 1) (y - 1))]) (st' := [jI 4, jI 4]) (hp' := hp) rfl ?_
          refine jE_icmp_ge rfl (by omega) (by omega) (fun _ => ?_) (fun c8 => absurd c8 (by omega))
          refine jm_Ev.bl 1 (pc' := 49) (A' := [jR 3, jI x, jI y, jI ((Int32.ofInt ((Int32.ofInt ((Int32.ofInt 0 ||| Int32.ofInt ((Int32.ofInt 1 <<< (Int32.ofInt (jgk (hp 3 1) (hp 3 2) (hp 4) x y) &&& 31)).toInt)).toInt) ||| Int32.ofInt ((Int32.ofInt 1 <<< (Int32.ofInt (jgk (hp 3 1) (hp 3 2) (hp 4) (x - 1) y) &&& 31)).toInt)).toInt) ||| Int32.ofInt ((Int32.ofInt 1 <<< (Int32.ofInt (jgk (hp 3 1) (hp 3 2) (hp 4) (x - 1) (y - 1)) &&& 31)).toInt)).toInt), jI 4, jI (jgk (hp 3 1) (hp 3 2) (hp 4) (x - 1) (y - 1))]) (st' := [jI ((Int32.ofInt ((Int32.ofInt ((Int32.ofInt 0 ||| Int32.ofInt ((Int32.ofInt 1 <<< (Int32.ofInt (jgk (hp 3 1) (hp 3 2) (hp 4) x y) &&& 31)).toInt)).toInt) ||| Int32.ofInt ((Int32.ofInt 1 <<< (Int32.ofInt (jgk (hp 3 1) (hp 3 2) (hp 4) (x - 1) y) &&& 31)).toInt)).toInt) ||| Int32.ofInt ((Int32.ofInt 1 <<< (Int32.ofInt (jgk (hp 3 1) (hp 3 2) (hp 4) (x - 1) (y - 1)) &&& 31)).toInt)).toInt)]) (hp' := hp) rfl ?_
          exact jE_ret rfl ⟨jrI (by unfold jtk jkor; simp only [*, if_true, if_false]; try rfl), rfl⟩
      · refine jm_Ev.bl 10 (pc' := 8) (A' := [jR 3, jI x, jI y, jI ((Int32.ofInt ((Int32.ofInt ((Int32.ofInt 0 ||| Int32.ofInt ((Int32.ofInt 1 <<< (Int32.ofInt (jgk (hp 3 1) (hp 3 2) (hp 4) x y) &&& 31)).toInt)).toInt) ||| Int32.ofInt ((Int32.ofInt 1 <<< (Int32.ofInt (jgk (hp 3 1) (hp 3 2) (hp 4) (x - 1) y) &&& 31)).toInt)).toInt) ||| Int32.ofInt ((Int32.ofInt 1 <<< (Int32.ofInt (jgk (hp 3 1) (hp 3 2) (hp 4) x (y - 1)) &&& 31)).toInt)).toInt), jI 3, jI (jgk (hp 3 1) (hp 3 2) (hp 4) x (y - 1))]) (st' := [jI 4, jI 3]) (hp' := hp) rfl ?_
        refine jE_icmp_ge rfl (by omega) (by omega) (fun c8 => absurd c8 (by omega)) (fun _ => ?_)
        refine jm_Ev.bl 4 (pc' := 16) (A' := [jR 3, jI x, jI y, jI ((Int32.ofInt ((Int32.ofInt ((Int32.ofInt 0 ||| Int32.ofInt ((Int32.ofInt 1 <<< (Int32.ofInt (jgk (hp 3 1) (hp 3 2) (hp 4) x y) &&& 31)).toInt)).toInt) ||| Int32.ofInt ((Int32.ofInt 1 <<< (Int32.ofInt (jgk (hp 3 1) (hp 3 2) (hp 4) (x - 1) y) &&& 31)).toInt)).toInt) ||| Int32.ofInt ((Int32.ofInt 1 <<< (Int32.ofInt (jgk (hp 3 1) (hp 3 2) (hp 4) x (y - 1)) &&& 31)).toInt)).toInt), jI 3, jI (jgk (hp 3 1) (hp 3 2) (hp 4) x (y - 1))]) (st' := [jI 2, jI 3, jI x, jR 3]) (hp' := hp) rfl ?_
        refine jE_irem rfl (by omega) (by omega) ?_
        refine jE_top (w := 1) (by decide) ?_
        refine jm_Ev.bl 4 (pc' := 22) (A' := [jR 3, jI x, jI y, jI ((Int32.ofInt ((Int32.ofInt ((Int32.ofInt 0 ||| Int32.ofInt ((Int32.ofInt 1 <<< (Int32.ofInt (jgk (hp 3 1) (hp 3 2) (hp 4) x y) &&& 31)).toInt)).toInt) ||| Int32.ofInt ((Int32.ofInt 1 <<< (Int32.ofInt (jgk (hp 3 1) (hp 3 2) (hp 4) (x - 1) y) &&& 31)).toInt)).toInt) ||| Int32.ofInt ((Int32.ofInt 1 <<< (Int32.ofInt (jgk (hp 3 1) (hp 3 2) (hp 4) x (y - 1)) &&& 31)).toInt)).toInt), jI 3, jI (jgk (hp 3 1) (hp 3 2) (hp 4) x (y - 1))]) (st' := [jI 2, jI 3, jI y, jI (x - 1), jR 3]) (hp' := hp) rfl ?_
        refine jE_idiv rfl (by omega) (by omega) ?_
        refine jE_top (w := 1) (by decide) ?_
        refine jm_Ev.bl 1 (pc' := 24) (A' := [jR 3, jI x, jI y, jI ((Int32.ofInt ((Int32.ofInt ((Int32.ofInt 0 ||| Int32.ofInt ((Int32.ofInt 1 <<< (Int32.ofInt (jgk (hp 3 1) (hp 3 2) (hp 4) x y) &&& 31)).toInt)).toInt) ||| Int32.ofInt ((Int32.ofInt 1 <<< (Int32.ofInt (jgk (hp 3 1) (hp 3 2) (hp 4) (x - 1) y) &&& 31)).toInt)).toInt) ||| Int32.ofInt ((Int32.ofInt 1 <<< (Int32.ofInt (jgk (hp 3 1) (hp 3 2) (hp 4) x (y - 1)) &&& 31)).toInt)).toInt), jI 3, jI (jgk (hp 3 1) (hp 3 2) (hp 4) x (y - 1))]) (st' := [jI (y - 1), jI (x - 1), jR 3]) (hp' := hp) rfl ?_
        refine jE_callI (vs := [jR 3, jI (x - 1), jI (y - 1)]) (r := []) (nx := 27) (v := jI (jgk (hp 3 1) (hp 3 2) (hp 4) (x - 1) (y - 1))) (hp1 := hp) rfl (c_g_kindAtCell_3 hp hG _ _ (by omega) (by omega)) ?_
        refine jm_Ev.bl 3 (pc' := 32) (A' := [jR 3, jI x, jI y, jI ((Int32.ofInt ((Int32.ofInt ((Int32.ofInt 0 ||| Int32.ofInt ((Int32.ofInt 1 <<< (Int32.ofInt (jgk (hp 3 1) (hp 3 2) (hp 4) x y) &&& 31)).toInt)).toInt) ||| Int32.ofInt ((Int32.ofInt 1 <<< (Int32.ofInt (jgk (hp 3 1) (hp 3 2) (hp 4) (x - 1) y) &&& 31)).toInt)).toInt) ||| Int32.ofInt ((Int32.ofInt 1 <<< (Int32.ofInt (jgk (hp 3 1) (hp 3 2) (hp 4) x (y - 1)) &&& 31)).toInt)).toInt), jI 3, jI (jgk (hp 3 1) (hp 3 2) (hp 4) (x - 1) (y - 1))]) (st' := [jI (-1), jI (jgk (hp 3 1) (hp 3 2) (hp 4) (x - 1) (y - 1))]) (hp' := hp) rfl ?_
        refine jE_icmp_eq rfl (by omega) (by omega) (fun c32_4 => ?_) (fun c32_4 => ?_)
        · refine jm_Ev.bl 4 (pc' := 8) (A' := [jR 3, jI x, jI y, jI ((Int32.ofInt ((Int32.ofInt ((Int32.ofInt 0 ||| Int32.ofInt ((Int32.ofInt 1 <<< (Int32.ofInt (jgk (hp 3 1) (hp 3 2) (hp 4) x y) &&& 31)).toInt)).toInt) ||| Int32.ofInt ((Int32.ofInt 1 <<< (Int32.ofInt (jgk (hp 3 1) (hp 3 2) (hp 4) (x - 1) y) &&& 31)).toInt)).toInt) ||| Int32.ofInt ((Int32.ofInt 1 <<< (Int32.ofInt (jgk (hp 3 1) (hp 3 2) (hp 4) x (y - 1)) &&& 31)).toInt)).toInt), jI 4, jI (jgk (hp 3 1) (hp 3 2) (hp 4) (x - 1) (y - 1))]) (st' := [jI 4, jI 4]) (hp' := hp) rfl ?_
          refine jE_icmp_ge rfl (by omega) (by omega) (fun _ => ?_) (fun c8 => absurd c8 (by omega))
          refine jm_Ev.bl 1 (pc' := 49) (A' := [jR 3, jI x, jI y, jI ((Int32.ofInt ((Int32.ofInt ((Int32.ofInt 0 ||| Int32.ofInt ((Int32.ofInt 1 <<< (Int32.ofInt (jgk (hp 3 1) (hp 3 2) (hp 4) x y) &&& 31)).toInt)).toInt) ||| Int32.ofInt ((Int32.ofInt 1 <<< (Int32.ofInt (jgk (hp 3 1) (hp 3 2) (hp 4) (x - 1) y) &&& 31)).toInt)).toInt) ||| Int32.ofInt ((Int32.ofInt 1 <<< (Int32.ofInt (jgk (hp 3 1) (hp 3 2) (hp 4) x (y - 1)) &&& 31)).toInt)).toInt), jI 4, jI (jgk (hp 3 1) (hp 3 2) (hp 4) (x - 1) (y - 1))]) (st' := [jI ((Int32.ofInt ((Int32.ofInt ((Int32.ofInt 0 ||| Int32.ofInt ((Int32.ofInt 1 <<< (Int32.ofInt (jgk (hp 3 1) (hp 3 2) (hp 4) x y) &&& 31)).toInt)).toInt) ||| Int32.ofInt ((Int32.ofInt 1 <<< (Int32.ofInt (jgk (hp 3 1) (hp 3 2) (hp 4) (x - 1) y) &&& 31)).toInt)).toInt) ||| Int32.ofInt ((Int32.ofInt 1 <<< (Int32.ofInt (jgk (hp 3 1) (hp 3 2) (hp 4) x (y - 1)) &&& 31)).toInt)).toInt)]) (hp' := hp) rfl ?_
          exact jE_ret rfl ⟨jrI (by unfold jtk jkor; simp only [*, if_true, if_false]; try rfl), rfl⟩
        · refine jm_Ev.bl 10 (pc' := 8) (A' := [jR 3, jI x, jI y, jI ((Int32.ofInt ((Int32.ofInt ((Int32.ofInt ((Int32.ofInt 0 ||| Int32.ofInt ((Int32.ofInt 1 <<< (Int32.ofInt (jgk (hp 3 1) (hp 3 2) (hp 4) x y) &&& 31)).toInt)).toInt) ||| Int32.ofInt ((Int32.ofInt 1 <<< (Int32.ofInt (jgk (hp 3 1) (hp 3 2) (hp 4) (x - 1) y) &&& 31)).toInt)).toInt) ||| Int32.ofInt ((Int32.ofInt 1 <<< (Int32.ofInt (jgk (hp 3 1) (hp 3 2) (hp 4) x (y - 1)) &&& 31)).toInt)).toInt) ||| Int32.ofInt ((Int32.ofInt 1 <<< (Int32.ofInt (jgk (hp 3 1) (hp 3 2) (hp 4) (x - 1) (y - 1)) &&& 31)).toInt)).toInt), jI 4, jI (jgk (hp 3 1) (hp 3 2) (hp 4) (x - 1) (y - 1))]) (st' := [jI 4, jI 4]) (hp' := hp) rfl ?_
          refine jE_icmp_ge rfl (by omega) (by omega) (fun _ => ?_) (fun c8 => absurd c8 (by omega))
          refine jm_Ev.bl 1 (pc' := 49) (A' := [jR 3, jI x, jI y, jI ((Int32.ofInt ((Int32.ofInt ((Int32.ofInt ((Int32.ofInt 0 ||| Int32.ofInt ((Int32.ofInt 1 <<< (Int32.ofInt (jgk (hp 3 1) (hp 3 2) (hp 4) x y) &&& 31)).toInt)).toInt) ||| Int32.ofInt ((Int32.ofInt 1 <<< (Int32.ofInt (jgk (hp 3 1) (hp 3 2) (hp 4) (x - 1) y) &&& 31)).toInt)).toInt) ||| Int32.ofInt ((Int32.ofInt 1 <<< (Int32.ofInt (jgk (hp 3 1) (hp 3 2) (hp 4) x (y - 1)) &&& 31)).toInt)).toInt) ||| Int32.ofInt ((Int32.ofInt 1 <<< (Int32.ofInt (jgk (hp 3 1) (hp 3 2) (hp 4) (x - 1) (y - 1)) &&& 31)).toInt)).toInt), jI 4, jI (jgk (hp 3 1) (hp 3 2) (hp 4) (x - 1) (y - 1))]) (st' := [jI ((Int32.ofInt ((Int32.ofInt ((Int32.ofInt ((Int32.ofInt 0 ||| Int32.ofInt ((Int32.ofInt 1 <<< (Int32.ofInt (jgk (hp 3 1) (hp 3 2) (hp 4) x y) &&& 31)).toInt)).toInt) ||| Int32.ofInt ((Int32.ofInt 1 <<< (Int32.ofInt (jgk (hp 3 1) (hp 3 2) (hp 4) (x - 1) y) &&& 31)).toInt)).toInt) ||| Int32.ofInt ((Int32.ofInt 1 <<< (Int32.ofInt (jgk (hp 3 1) (hp 3 2) (hp 4) x (y - 1)) &&& 31)).toInt)).toInt) ||| Int32.ofInt ((Int32.ofInt 1 <<< (Int32.ofInt (jgk (hp 3 1) (hp 3 2) (hp 4) (x - 1) (y - 1)) &&& 31)).toInt)).toInt)]) (hp' := hp) rfl ?_
          exact jE_ret rfl ⟨jrI (by unfold jtk jkor; simp only [*, if_true, if_false]; try rfl), rfl⟩
theorem c_o_touched_5 (hp : jm_H) (hG : jG hp 5 6) (x y : Int) (hx : 0 ≤ x ∧ x ≤ 5) (hy : 0 ≤ y ∧ y ≤ 5) : jm_Ev 56 0 [jR 5, jI x, jI y, jU, jU, jU] [] hp (jK (some (jI (jtk (jgk (hp 5 1) (hp 5 2) (hp 6)) x y))) hp) := by
  have r0 := jgk_r hG x y
  have r1 := jgk_r hG (x - 1) y
  have r2 := jgk_r hG x (y - 1)
  have r3 := jgk_r hG (x - 1) (y - 1)
  refine jm_Ev.bl 6 (pc' := 8) (A' := [jR 5, jI x, jI y, jI 0, jI 0, jU]) (st' := [jI 4, jI 0]) (hp' := hp) rfl ?_
  refine jE_icmp_ge rfl (by omega) (by omega) (fun c8 => absurd c8 (by omega)) (fun _ => ?_)
  refine jm_Ev.bl 4 (pc' := 16) (A' := [jR 5, jI x, jI y, jI 0, jI 0, jU]) (st' := [jI 2, jI 0, jI x, jR 5]) (hp' := hp) rfl ?_
  refine jE_irem rfl (by omega) (by omega) ?_
  refine jE_top (w := 0) (by decide) ?_
  refine jm_Ev.bl 4 (pc' := 22) (A' := [jR 5, jI x, jI y, jI 0, jI 0, jU]) (st' := [jI 2, jI 0, jI y, jI (x - 0), jR 5]) (hp' := hp) rfl ?_
  refine jE_idiv rfl (by omega) (by omega) ?_
  refine jE_top (w := 0) (by decide) ?_
  refine jm_Ev.bl 1 (pc' := 24) (A' := [jR 5, jI x, jI y, jI 0, jI 0, jU]) (st' := [jI (y - 0), jI (x - 0), jR 5]) (hp' := hp) rfl ?_
  rw [show x - 0 = x from Int.sub_zero x]
  rw [show y - 0 = y from Int.sub_zero y]
  refine jE_callI (vs := [jR 5, jI x, jI y]) (r := []) (nx := 27) (v := jI (jgk (hp 5 1) (hp 5 2) (hp 6) x y)) (hp1 := hp) rfl (c_g_kindAtCell_5 hp hG _ _ (by omega) (by omega)) ?_
  refine jm_Ev.bl 3 (pc' := 32) (A' := [jR 5, jI x, jI y, jI 0, jI 0, jI (jgk (hp 5 1) (hp 5 2) (hp 6) x y)]) (st' := [jI (-1), jI (jgk (hp 5 1) (hp 5 2) (hp 6) x y)]) (hp' := hp) rfl ?_
  refine jE_icmp_eq rfl (by omega) (by omega) (fun c32_1 => ?_) (fun c32_1 => ?_)
  · refine jm_Ev.bl 4 (pc' := 8) (A' := [jR 5, jI x, jI y, jI 0, jI 1, jI (jgk (hp 5 1) (hp 5 2) (hp 6) x y)]) (st' := [jI 4, jI 1]) (hp' := hp) rfl ?_
    refine jE_icmp_ge rfl (by omega) (by omega) (fun c8 => absurd c8 (by omega)) (fun _ => ?_)
    refine jm_Ev.bl 4 (pc' := 16) (A' := [jR 5, jI x, jI y, jI 0, jI 1, jI (jgk (hp 5 1) (hp 5 2) (hp 6) x y)]) (st' := [jI 2, jI 1, jI x, jR 5]) (hp' := hp) rfl ?_
    refine jE_irem rfl (by omega) (by omega) ?_
    refine jE_top (w := 1) (by decide) ?_
    refine jm_Ev.bl 4 (pc' := 22) (A' := [jR 5, jI x, jI y, jI 0, jI 1, jI (jgk (hp 5 1) (hp 5 2) (hp 6) x y)]) (st' := [jI 2, jI 1, jI y, jI (x - 1), jR 5]) (hp' := hp) rfl ?_
    refine jE_idiv rfl (by omega) (by omega) ?_
    refine jE_top (w := 0) (by decide) ?_
    refine jm_Ev.bl 1 (pc' := 24) (A' := [jR 5, jI x, jI y, jI 0, jI 1, jI (jgk (hp 5 1) (hp 5 2) (hp 6) x y)]) (st' := [jI (y - 0), jI (x - 1), jR 5]) (hp' := hp) rfl ?_
    rw [show y - 0 = y from Int.sub_zero y]
    refine jE_callI (vs := [jR 5, jI (x - 1), jI y]) (r := []) (nx := 27) (v := jI (jgk (hp 5 1) (hp 5 2) (hp 6) (x - 1) y)) (hp1 := hp) rfl (c_g_kindAtCell_5 hp hG _ _ (by omega) (by omega)) ?_
    refine jm_Ev.bl 3 (pc' := 32) (A' := [jR 5, jI x, jI y, jI 0, jI 1, jI (jgk (hp 5 1) (hp 5 2) (hp 6) (x - 1) y)]) (st' := [jI (-1), jI (jgk (hp 5 1) (hp 5 2) (hp 6) (x - 1) y)]) (hp' := hp) rfl ?_
    refine jE_icmp_eq rfl (by omega) (by omega) (fun c32_2 => ?_) (fun c32_2 => ?_)
    · refine jm_Ev.bl 4 (pc' := 8) (A' := [jR 5, jI x, jI y, jI 0, jI 2, jI (jgk (hp 5 1) (hp 5 2) (hp 6) (x - 1) y)]) (st' := [jI 4, jI 2]) (hp' := hp) rfl ?_
      refine jE_icmp_ge rfl (by omega) (by omega) (fun c8 => absurd c8 (by omega)) (fun _ => ?_)
      refine jm_Ev.bl 4 (pc' := 16) (A' := [jR 5, jI x, jI y, jI 0, jI 2, jI (jgk (hp 5 1) (hp 5 2) (hp 6) (x - 1) y)]) (st' := [jI 2, jI 2, jI x, jR 5]) (hp' := hp) rfl ?_
      refine jE_irem rfl (by omega) (by omega) ?_
      refine jE_top (w := 0) (by decide) ?_
      refine jm_Ev.bl 4 (pc' := 22) (A' := [jR 5, jI x, jI y, jI 0, jI 2, jI (jgk (hp 5 1) (hp 5 2) (hp 6) (x - 1) y)]) (st' := [jI 2, jI 2, jI y, jI (x - 0), jR 5]) (hp' := hp) rfl ?_
      refine jE_idiv rfl (by omega) (by omega) ?_
      refine jE_top (w := 1) (by decide) ?_
      refine jm_Ev.bl 1 (pc' := 24) (A' := [jR 5, jI x, jI y, jI 0, jI 2, jI (jgk (hp 5 1) (hp 5 2) (hp 6) (x - 1) y)]) (st' := [jI (y - 1), jI (x - 0), jR 5]) (hp' := hp) rfl ?_
      rw [show x - 0 = x from Int.sub_zero x]
      refine jE_callI (vs := [jR 5, jI x, jI (y - 1)]) (r := []) (nx := 27) (v := jI (jgk (hp 5 1) (hp 5 2) (hp 6) x (y - 1))) (hp1 := hp) rfl (c_g_kindAtCell_5 hp hG _ _ (by omega) (by omega)) ?_
      refine jm_Ev.bl 3 (pc' := 32) (A' := [jR 5, jI x, jI y, jI 0, jI 2, jI (jgk (hp 5 1) (hp 5 2) (hp 6) x (y - 1))]) (st' := [jI (-1), jI (jgk (hp 5 1) (hp 5 2) (hp 6) x (y - 1))]) (hp' := hp) rfl ?_
      refine jE_icmp_eq rfl (by omega) (by omega) (fun c32_3 => ?_) (fun c32_3 => ?_)
      · refine jm_Ev.bl 4 (pc' := 8) (A' := [jR 5, jI x, jI y, jI 0, jI 3, jI (jgk (hp 5 1) (hp 5 2) (hp 6) x (y - 1))]) (st' := [jI 4, jI 3]) (hp' := hp) rfl ?_
        refine jE_icmp_ge rfl (by omega) (by omega) (fun c8 => absurd c8 (by omega)) (fun _ => ?_)
        refine jm_Ev.bl 4 (pc' := 16) (A' := [jR 5, jI x, jI y, jI 0, jI 3, jI (jgk (hp 5 1) (hp 5 2) (hp 6) x (y - 1))]) (st' := [jI 2, jI 3, jI x, jR 5]) (hp' := hp) rfl ?_
        refine jE_irem rfl (by omega) (by omega) ?_
        refine jE_top (w := 1) (by decide) ?_
        refine jm_Ev.bl 4 (pc' := 22) (A' := [jR 5, jI x, jI y, jI 0, jI 3, jI (jgk (hp 5 1) (hp 5 2) (hp 6) x (y - 1))]) (st' := [jI 2, jI 3, jI y, jI (x - 1), jR 5]) (hp' := hp) rfl ?_
        refine jE_idiv rfl (by omega) (by omega) ?_
        refine jE_top (w := 1) (by decide) ?_
        refine jm_Ev.bl 1 (pc' := 24) (A' := [jR 5, jI x, jI y, jI 0, jI 3, jI (jgk (hp 5 1) (hp 5 2) (hp 6) x (y - 1))]) (st' := [jI (y - 1), jI (x - 1), jR 5]) (hp' := hp) rfl ?_
        refine jE_callI (vs := [jR 5, jI (x - 1), jI (y - 1)]) (r := []) (nx := 27) (v := jI (jgk (hp 5 1) (hp 5 2) (hp 6) (x - 1) (y - 1))) (hp1 := hp) rfl (c_g_kindAtCell_5 hp hG _ _ (by omega) (by omega)) ?_
        refine jm_Ev.bl 3 (pc' := 32) (A' := [jR 5, jI x, jI y, jI 0, jI 3, jI (jgk (hp 5 1) (hp 5 2) (hp 6) (x - 1) (y - 1))]) (st' := [jI (-1), jI (jgk (hp 5 1) (hp 5 2) (hp 6) (x - 1) (y - 1))]) (hp' := hp) rfl ?_
        refine jE_icmp_eq rfl (by omega) (by omega) (fun c32_4 => ?_) (fun c32_4 => ?_)
        · refine jm_Ev.bl 4 (pc' := 8) (A' := [jR 5, jI x, jI y, jI 0, jI 4, jI (jgk (hp 5 1) (hp 5 2) (hp 6) (x - 1) (y - 1))]) (st' := [jI 4, jI 4]) (hp' := hp) rfl ?_
          refine jE_icmp_ge rfl (by omega) (by omega) (fun _ => ?_) (fun c8 => absurd c8 (by omega))
          refine jm_Ev.bl 1 (pc' := 49) (A' := [jR 5, jI x, jI y, jI 0, jI 4, jI (jgk (hp 5 1) (hp 5 2) (hp 6) (x - 1) (y - 1))]) (st' := [jI 0]) (hp' := hp) rfl ?_
          exact jE_ret rfl ⟨jrI (by unfold jtk jkor; simp only [*, if_true, if_false]; try rfl), rfl⟩
        · refine jm_Ev.bl 10 (pc' := 8) (A' := [jR 5, jI x, jI y, jI ((Int32.ofInt 0 ||| Int32.ofInt ((Int32.ofInt 1 <<< (Int32.ofInt (jgk (hp 5 1) (hp 5 2) (hp 6) (x - 1) (y - 1)) &&& 31)).toInt)).toInt), jI 4, jI (jgk (hp 5 1) (hp 5 2) (hp 6) (x - 1) (y - 1))]) (st' := [jI 4, jI 4]) (hp' := hp) rfl ?_
          refine jE_icmp_ge rfl (by omega) (by omega) (fun _ => ?_) (fun c8 => absurd c8 (by omega))
          refine jm_Ev.bl 1 (pc' := 49) (A' := [jR 5, jI x, jI y, jI ((Int32.ofInt 0 ||| Int32.ofInt ((Int32.ofInt 1 <<< (Int32.ofInt (jgk (hp 5 1) (hp 5 2) (hp 6) (x - 1) (y - 1)) &&& 31)).toInt)).toInt), jI 4, jI (jgk (hp 5 1) (hp 5 2) (hp 6) (x - 1) (y - 1))]) (st' := [jI ((Int32.ofInt 0 ||| Int32.ofInt ((Int32.ofInt 1 <<< (Int32.ofInt (jgk (hp 5 1) (hp 5 2) (hp 6) (x - 1) (y - 1)) &&& 31)).toInt)).toInt)]) (hp' := hp) rfl ?_
          exact jE_ret rfl ⟨jrI (by unfold jtk jkor; simp only [*, if_true, if_false]; try rfl), rfl⟩
      · refine jm_Ev.bl 10 (pc' := 8) (A' := [jR 5, jI x, jI y, jI ((Int32.ofInt 0 ||| Int32.ofInt ((Int32.ofInt 1 <<< (Int32.ofInt (jgk (hp 5 1) (hp 5 2) (hp 6) x (y - 1)) &&& 31)).toInt)).toInt), jI 3, jI (jgk (hp 5 1) (hp 5 2) (hp 6) x (y - 1))]) (st' := [jI 4, jI 3]) (hp' := hp) rfl ?_
        refine jE_icmp_ge rfl (by omega) (by omega) (fun c8 => absurd c8 (by omega)) (fun _ => ?_)
        refine jm_Ev.bl 4 (pc' := 16) (A' := [jR 5, jI x, jI y, jI ((Int32.ofInt 0 ||| Int32.ofInt ((Int32.ofInt 1 <<< (Int32.ofInt (jgk (hp 5 1) (hp 5 2) (hp 6) x (y - 1)) &&& 31)).toInt)).toInt), jI 3, jI (jgk (hp 5 1) (hp 5 2) (hp 6) x (y - 1))]) (st' := [jI 2, jI 3, jI x, jR 5]) (hp' := hp) rfl ?_
        refine jE_irem rfl (by omega) (by omega) ?_
        refine jE_top (w := 1) (by decide) ?_
        refine jm_Ev.bl 4 (pc' := 22) (A' := [jR 5, jI x, jI y, jI ((Int32.ofInt 0 ||| Int32.ofInt ((Int32.ofInt 1 <<< (Int32.ofInt (jgk (hp 5 1) (hp 5 2) (hp 6) x (y - 1)) &&& 31)).toInt)).toInt), jI 3, jI (jgk (hp 5 1) (hp 5 2) (hp 6) x (y - 1))]) (st' := [jI 2, jI 3, jI y, jI (x - 1), jR 5]) (hp' := hp) rfl ?_
        refine jE_idiv rfl (by omega) (by omega) ?_
        refine jE_top (w := 1) (by decide) ?_
        refine jm_Ev.bl 1 (pc' := 24) (A' := [jR 5, jI x, jI y, jI ((Int32.ofInt 0 ||| Int32.ofInt ((Int32.ofInt 1 <<< (Int32.ofInt (jgk (hp 5 1) (hp 5 2) (hp 6) x (y - 1)) &&& 31)).toInt)).toInt), jI 3, jI (jgk (hp 5 1) (hp 5 2) (hp 6) x (y - 1))]) (st' := [jI (y - 1), jI (x - 1), jR 5]) (hp' := hp) rfl ?_
        refine jE_callI (vs := [jR 5, jI (x - 1), jI (y - 1)]) (r := []) (nx := 27) (v := jI (jgk (hp 5 1) (hp 5 2) (hp 6) (x - 1) (y - 1))) (hp1 := hp) rfl (c_g_kindAtCell_5 hp hG _ _ (by omega) (by omega)) ?_
        refine jm_Ev.bl 3 (pc' := 32) (A' := [jR 5, jI x, jI y, jI ((Int32.ofInt 0 ||| Int32.ofInt ((Int32.ofInt 1 <<< (Int32.ofInt (jgk (hp 5 1) (hp 5 2) (hp 6) x (y - 1)) &&& 31)).toInt)).toInt), jI 3, jI (jgk (hp 5 1) (hp 5 2) (hp 6) (x - 1) (y - 1))]) (st' := [jI (-1), jI (jgk (hp 5 1) (hp 5 2) (hp 6) (x - 1) (y - 1))]) (hp' := hp) rfl ?_
        refine jE_icmp_eq rfl (by omega) (by omega) (fun c32_4 => ?_) (fun c32_4 => ?_)
        · refine jm_Ev.bl 4 (pc' := 8) (A' := [jR 5, jI x, jI y, jI ((Int32.ofInt 0 ||| Int32.ofInt ((Int32.ofInt 1 <<< (Int32.ofInt (jgk (hp 5 1) (hp 5 2) (hp 6) x (y - 1)) &&& 31)).toInt)).toInt), jI 4, jI (jgk (hp 5 1) (hp 5 2) (hp 6) (x - 1) (y - 1))]) (st' := [jI 4, jI 4]) (hp' := hp) rfl ?_
          refine jE_icmp_ge rfl (by omega) (by omega) (fun _ => ?_) (fun c8 => absurd c8 (by omega))
          refine jm_Ev.bl 1 (pc' := 49) (A' := [jR 5, jI x, jI y, jI ((Int32.ofInt 0 ||| Int32.ofInt ((Int32.ofInt 1 <<< (Int32.ofInt (jgk (hp 5 1) (hp 5 2) (hp 6) x (y - 1)) &&& 31)).toInt)).toInt), jI 4, jI (jgk (hp 5 1) (hp 5 2) (hp 6) (x - 1) (y - 1))]) (st' := [jI ((Int32.ofInt 0 ||| Int32.ofInt ((Int32.ofInt 1 <<< (Int32.ofInt (jgk (hp 5 1) (hp 5 2) (hp 6) x (y - 1)) &&& 31)).toInt)).toInt)]) (hp' := hp) rfl ?_
          exact jE_ret rfl ⟨jrI (by unfold jtk jkor; simp only [*, if_true, if_false]; try rfl), rfl⟩
        · refine jm_Ev.bl 10 (pc' := 8) (A' := [jR 5, jI x, jI y, jI ((Int32.ofInt ((Int32.ofInt 0 ||| Int32.ofInt ((Int32.ofInt 1 <<< (Int32.ofInt (jgk (hp 5 1) (hp 5 2) (hp 6) x (y - 1)) &&& 31)).toInt)).toInt) ||| Int32.ofInt ((Int32.ofInt 1 <<< (Int32.ofInt (jgk (hp 5 1) (hp 5 2) (hp 6) (x - 1) (y - 1)) &&& 31)).toInt)).toInt), jI 4, jI (jgk (hp 5 1) (hp 5 2) (hp 6) (x - 1) (y - 1))]) (st' := [jI 4, jI 4]) (hp' := hp) rfl ?_
          refine jE_icmp_ge rfl (by omega) (by omega) (fun _ => ?_) (fun c8 => absurd c8 (by omega))
          refine jm_Ev.bl 1 (pc' := 49) (A' := [jR 5, jI x, jI y, jI ((Int32.ofInt ((Int32.ofInt 0 ||| Int32.ofInt ((Int32.ofInt 1 <<< (Int32.ofInt (jgk (hp 5 1) (hp 5 2) (hp 6) x (y - 1)) &&& 31)).toInt)).toInt) ||| Int32.ofInt ((Int32.ofInt 1 <<< (Int32.ofInt (jgk (hp 5 1) (hp 5 2) (hp 6) (x - 1) (y - 1)) &&& 31)).toInt)).toInt), jI 4, jI (jgk (hp 5 1) (hp 5 2) (hp 6) (x - 1) (y - 1))]) (st' := [jI ((Int32.ofInt ((Int32.ofInt 0 ||| Int32.ofInt ((Int32.ofInt 1 <<< (Int32.ofInt (jgk (hp 5 1) (hp 5 2) (hp 6) x (y - 1)) &&& 31)).toInt)).toInt) ||| Int32.ofInt ((Int32.ofInt 1 <<< (Int32.ofInt (jgk (hp 5 1) (hp 5 2) (hp 6) (x - 1) (y - 1)) &&& 31)).toInt)).toInt)]) (hp' := hp) rfl ?_
          exact jE_ret rfl ⟨jrI (by unfold jtk jkor; simp only [*, if_true, if_false]; try rfl), rfl⟩
    · refine jm_Ev.bl 10 (pc' := 8) (A' := [jR 5, jI x, jI y, jI ((Int32.ofInt 0 ||| Int32.ofInt ((Int32.ofInt 1 <<< (Int32.ofInt (jgk (hp 5 1) (hp 5 2) (hp 6) (x - 1) y) &&& 31)).toInt)).toInt), jI 2, jI (jgk (hp 5 1) (hp 5 2) (hp 6) (x - 1) y)]) (st' := [jI 4, jI 2]) (hp' := hp) rfl ?_
      refine jE_icmp_ge rfl (by omega) (by omega) (fun c8 => absurd c8 (by omega)) (fun _ => ?_)
      refine jm_Ev.bl 4 (pc' := 16) (A' := [jR 5, jI x, jI y, jI ((Int32.ofInt 0 ||| Int32.ofInt ((Int32.ofInt 1 <<< (Int32.ofInt (jgk (hp 5 1) (hp 5 2) (hp 6) (x - 1) y) &&& 31)).toInt)).toInt), jI 2, jI (jgk (hp 5 1) (hp 5 2) (hp 6) (x - 1) y)]) (st' := [jI 2, jI 2, jI x, jR 5]) (hp' := hp) rfl ?_
      refine jE_irem rfl (by omega) (by omega) ?_
      refine jE_top (w := 0) (by decide) ?_
      refine jm_Ev.bl 4 (pc' := 22) (A' := [jR 5, jI x, jI y, jI ((Int32.ofInt 0 ||| Int32.ofInt ((Int32.ofInt 1 <<< (Int32.ofInt (jgk (hp 5 1) (hp 5 2) (hp 6) (x - 1) y) &&& 31)).toInt)).toInt), jI 2, jI (jgk (hp 5 1) (hp 5 2) (hp 6) (x - 1) y)]) (st' := [jI 2, jI 2, jI y, jI (x - 0), jR 5]) (hp' := hp) rfl ?_
      refine jE_idiv rfl (by omega) (by omega) ?_
      refine jE_top (w := 1) (by decide) ?_
      refine jm_Ev.bl 1 (pc' := 24) (A' := [jR 5, jI x, jI y, jI ((Int32.ofInt 0 ||| Int32.ofInt ((Int32.ofInt 1 <<< (Int32.ofInt (jgk (hp 5 1) (hp 5 2) (hp 6) (x - 1) y) &&& 31)).toInt)).toInt), jI 2, jI (jgk (hp 5 1) (hp 5 2) (hp 6) (x - 1) y)]) (st' := [jI (y - 1), jI (x - 0), jR 5]) (hp' := hp) rfl ?_
      rw [show x - 0 = x from Int.sub_zero x]
      refine jE_callI (vs := [jR 5, jI x, jI (y - 1)]) (r := []) (nx := 27) (v := jI (jgk (hp 5 1) (hp 5 2) (hp 6) x (y - 1))) (hp1 := hp) rfl (c_g_kindAtCell_5 hp hG _ _ (by omega) (by omega)) ?_
      refine jm_Ev.bl 3 (pc' := 32) (A' := [jR 5, jI x, jI y, jI ((Int32.ofInt 0 ||| Int32.ofInt ((Int32.ofInt 1 <<< (Int32.ofInt (jgk (hp 5 1) (hp 5 2) (hp 6) (x - 1) y) &&& 31)).toInt)).toInt), jI 2, jI (jgk (hp 5 1) (hp 5 2) (hp 6) x (y - 1))]) (st' := [jI (-1), jI (jgk (hp 5 1) (hp 5 2) (hp 6) x (y - 1))]) (hp' := hp) rfl ?_
      refine jE_icmp_eq rfl (by omega) (by omega) (fun c32_3 => ?_) (fun c32_3 => ?_)
      · refine jm_Ev.bl 4 (pc' := 8) (A' := [jR 5, jI x, jI y, jI ((Int32.ofInt 0 ||| Int32.ofInt ((Int32.ofInt 1 <<< (Int32.ofInt (jgk (hp 5 1) (hp 5 2) (hp 6) (x - 1) y) &&& 31)).toInt)).toInt), jI 3, jI (jgk (hp 5 1) (hp 5 2) (hp 6) x (y - 1))]) (st' := [jI 4, jI 3]) (hp' := hp) rfl ?_
        refine jE_icmp_ge rfl (by omega) (by omega) (fun c8 => absurd c8 (by omega)) (fun _ => ?_)
        refine jm_Ev.bl 4 (pc' := 16) (A' := [jR 5, jI x, jI y, jI ((Int32.ofInt 0 ||| Int32.ofInt ((Int32.ofInt 1 <<< (Int32.ofInt (jgk (hp 5 1) (hp 5 2) (hp 6) (x - 1) y) &&& 31)).toInt)).toInt), jI 3, jI (jgk (hp 5 1) (hp 5 2) (hp 6) x (y - 1))]) (st' := [jI 2, jI 3, jI x, jR 5]) (hp' := hp) rfl ?_
        refine jE_irem rfl (by omega) (by omega) ?_
        refine jE_top (w := 1) (by decide) ?_
        refine jm_Ev.bl 4 (pc' := 22) (A' := [jR 5, jI x, jI y, jI ((Int32.ofInt 0 ||| Int32.ofInt ((Int32.ofInt 1 <<< (Int32.ofInt (jgk (hp 5 1) (hp 5 2) (hp 6) (x - 1) y) &&& 31)).toInt)).toInt), jI 3, jI (jgk (hp 5 1) (hp 5 2) (hp 6) x (y - 1))]) (st' := [jI 2, jI 3, jI y, jI (x - 1), jR 5]) (hp' := hp) rfl ?_
        refine jE_idiv rfl (by omega) (by omega) ?_
        refine jE_top (w := 1) (by decide) ?_
        refine jm_Ev.bl 1 (pc' := 24) (A' := [jR 5, jI x, jI y, jI ((Int32.ofInt 0 ||| Int32.ofInt ((Int32.ofInt 1 <<< (Int32.ofInt (jgk (hp 5 1) (hp 5 2) (hp 6) (x - 1) y) &&& 31)).toInt)).toInt), jI 3, jI (jgk (hp 5 1) (hp 5 2) (hp 6) x (y - 1))]) (st' := [jI (y - 1), jI (x - 1), jR 5]) (hp' := hp) rfl ?_
        refine jE_callI (vs := [jR 5, jI (x - 1), jI (y - 1)]) (r := []) (nx := 27) (v := jI (jgk (hp 5 1) (hp 5 2) (hp 6) (x - 1) (y - 1))) (hp1 := hp) rfl (c_g_kindAtCell_5 hp hG _ _ (by omega) (by omega)) ?_
        refine jm_Ev.bl 3 (pc' := 32) (A' := [jR 5, jI x, jI y, jI ((Int32.ofInt 0 ||| Int32.ofInt ((Int32.ofInt 1 <<< (Int32.ofInt (jgk (hp 5 1) (hp 5 2) (hp 6) (x - 1) y) &&& 31)).toInt)).toInt), jI 3, jI (jgk (hp 5 1) (hp 5 2) (hp 6) (x - 1) (y - 1))]) (st' := [jI (-1), jI (jgk (hp 5 1) (hp 5 2) (hp 6) (x - 1) (y - 1))]) (hp' := hp) rfl ?_
        refine jE_icmp_eq rfl (by omega) (by omega) (fun c32_4 => ?_) (fun c32_4 => ?_)
        · refine jm_Ev.bl 4 (pc' := 8) (A' := [jR 5, jI x, jI y, jI ((Int32.ofInt 0 ||| Int32.ofInt ((Int32.ofInt 1 <<< (Int32.ofInt (jgk (hp 5 1) (hp 5 2) (hp 6) (x - 1) y) &&& 31)).toInt)).toInt), jI 4, jI (jgk (hp 5 1) (hp 5 2) (hp 6) (x - 1) (y - 1))]) (st' := [jI 4, jI 4]) (hp' := hp) rfl ?_
          refine jE_icmp_ge rfl (by omega) (by omega) (fun _ => ?_) (fun c8 => absurd c8 (by omega))
          refine jm_Ev.bl 1 (pc' := 49) (A' := [jR 5, jI x, jI y, jI ((Int32.ofInt 0 ||| Int32.ofInt ((Int32.ofInt 1 <<< (Int32.ofInt (jgk (hp 5 1) (hp 5 2) (hp 6) (x - 1) y) &&& 31)).toInt)).toInt), jI 4, jI (jgk (hp 5 1) (hp 5 2) (hp 6) (x - 1) (y - 1))]) (st' := [jI ((Int32.ofInt 0 ||| Int32.ofInt ((Int32.ofInt 1 <<< (Int32.ofInt (jgk (hp 5 1) (hp 5 2) (hp 6) (x - 1) y) &&& 31)).toInt)).toInt)]) (hp' := hp) rfl ?_
          exact jE_ret rfl ⟨jrI (by unfold jtk jkor; simp only [*, if_true, if_false]; try rfl), rfl⟩
        · refine jm_Ev.bl 10 (pc' := 8) (A' := [jR 5, jI x, jI y, jI ((Int32.ofInt ((Int32.ofInt 0 ||| Int32.ofInt ((Int32.ofInt 1 <<< (Int32.ofInt (jgk (hp 5 1) (hp 5 2) (hp 6) (x - 1) y) &&& 31)).toInt)).toInt) ||| Int32.ofInt ((Int32.ofInt 1 <<< (Int32.ofInt (jgk (hp 5 1) (hp 5 2) (hp 6) (x - 1) (y - 1)) &&& 31)).toInt)).toInt), jI 4, jI (jgk (hp 5 1) (hp 5 2) (hp 6) (x - 1) (y - 1))]) (st' := [jI 4, jI 4]) (hp' := hp) rfl ?_
          refine jE_icmp_ge rfl (by omega) (by omega) (fun _ => ?_) (fun c8 => absurd c8 (by omega))
          refine jm_Ev.bl 1 (pc' := 49) (A' := [jR 5, jI x, jI y, jI ((Int32.ofInt ((Int32.ofInt 0 ||| Int32.ofInt ((Int32.ofInt 1 <<< (Int32.ofInt (jgk (hp 5 1) (hp 5 2) (hp 6) (x - 1) y) &&& 31)).toInt)).toInt) ||| Int32.ofInt ((Int32.ofInt 1 <<< (Int32.ofInt (jgk (hp 5 1) (hp 5 2) (hp 6) (x - 1) (y - 1)) &&& 31)).toInt)).toInt), jI 4, jI (jgk (hp 5 1) (hp 5 2) (hp 6) (x - 1) (y - 1))]) (st' := [jI ((Int32.ofInt ((Int32.ofInt 0 ||| Int32.ofInt ((Int32.ofInt 1 <<< (Int32.ofInt (jgk (hp 5 1) (hp 5 2) (hp 6) (x - 1) y) &&& 31)).toInt)).toInt) ||| Int32.ofInt ((Int32.ofInt 1 <<< (Int32.ofInt (jgk (hp 5 1) (hp 5 2) (hp 6) (x - 1) (y - 1)) &&& 31)).toInt)).toInt)]) (hp' := hp) rfl ?_
          exact jE_ret rfl ⟨jrI (by unfold jtk jkor; simp only [*, if_true, if_false]; try rfl), rfl⟩
      · refine jm_Ev.bl 10 (pc' := 8) (A' := [jR 5, jI x, jI y, jI ((Int32.ofInt ((Int32.ofInt 0 ||| Int32.ofInt ((Int32.ofInt 1 <<< (Int32.ofInt (jgk (hp 5 1) (hp 5 2) (hp 6) (x - 1) y) &&& 31)).toInt)).toInt) ||| Int32.ofInt ((Int32.ofInt 1 <<< (Int32.ofInt (jgk (hp 5 1) (hp 5 2) (hp 6) x (y - 1)) &&& 31)).toInt)).toInt), jI 3, jI (jgk (hp 5 1) (hp 5 2) (hp 6) x (y - 1))]) (st' := [jI 4, jI 3]) (hp' := hp) rfl ?_
        refine jE_icmp_ge rfl (by omega) (by omega) (fun c8 => absurd c8 (by omega)) (fun _ => ?_)
        refine jm_Ev.bl 4 (pc' := 16) (A' := [jR 5, jI x, jI y, jI ((Int32.ofInt ((Int32.ofInt 0 ||| Int32.ofInt ((Int32.ofInt 1 <<< (Int32.ofInt (jgk (hp 5 1) (hp 5 2) (hp 6) (x - 1) y) &&& 31)).toInt)).toInt) ||| Int32.ofInt ((Int32.ofInt 1 <<< (Int32.ofInt (jgk (hp 5 1) (hp 5 2) (hp 6) x (y - 1)) &&& 31)).toInt)).toInt), jI 3, jI (jgk (hp 5 1) (hp 5 2) (hp 6) x (y - 1))]) (st' := [jI 2, jI 3, jI x, jR 5]) (hp' := hp) rfl ?_
        refine jE_irem rfl (by omega) (by omega) ?_
        refine jE_top (w := 1) (by decide) ?_
        refine jm_Ev.bl 4 (pc' := 22) (A' := [jR 5, jI x, jI y, jI ((Int32.ofInt ((Int32.ofInt 0 ||| Int32.ofInt ((Int32.ofInt 1 <<< (Int32.ofInt (jgk (hp 5 1) (hp 5 2) (hp 6) (x - 1) y) &&& 31)).toInt)).toInt) ||| Int32.ofInt ((Int32.ofInt 1 <<< (Int32.ofInt (jgk (hp 5 1) (hp 5 2) (hp 6) x (y - 1)) &&& 31)).toInt)).toInt), jI 3, jI (jgk (hp 5 1) (hp 5 2) (hp 6) x (y - 1))]) (st' := [jI 2, jI 3, jI y, jI (x - 1), jR 5]) (hp' := hp) rfl ?_
        refine jE_idiv rfl (by omega) (by omega) ?_
        refine jE_top (w := 1) (by decide) ?_
        refine jm_Ev.bl 1 (pc' := 24) (A' := [jR 5, jI x, jI y, jI ((Int32.ofInt ((Int32.ofInt 0 ||| Int32.ofInt ((Int32.ofInt 1 <<< (Int32.ofInt (jgk (hp 5 1) (hp 5 2) (hp 6) (x - 1) y) &&& 31)).toInt)).toInt) ||| Int32.ofInt ((Int32.ofInt 1 <<< (Int32.ofInt (jgk (hp 5 1) (hp 5 2) (hp 6) x (y - 1)) &&& 31)).toInt)).toInt), jI 3, jI (jgk (hp 5 1) (hp 5 2) (hp 6) x (y - 1))]) (st' := [jI (y - 1), jI (x - 1), jR 5]) (hp' := hp) rfl ?_
        refine jE_callI (vs := [jR 5, jI (x - 1), jI (y - 1)]) (r := []) (nx := 27) (v := jI (jgk (hp 5 1) (hp 5 2) (hp 6) (x - 1) (y - 1))) (hp1 := hp) rfl (c_g_kindAtCell_5 hp hG _ _ (by omega) (by omega)) ?_
        refine jm_Ev.bl 3 (pc' := 32) (A' := [jR 5, jI x, jI y, jI ((Int32.ofInt ((Int32.ofInt 0 ||| Int32.ofInt ((Int32.ofInt 1 <<< (Int32.ofInt (jgk (hp 5 1) (hp 5 2) (hp 6) (x - 1) y) &&& 31)).toInt)).toInt) ||| Int32.ofInt ((Int32.ofInt 1 <<< (Int32.ofInt (jgk (hp 5 1) (hp 5 2) (hp 6) x (y - 1)) &&& 31)).toInt)).toInt), jI 3, jI (jgk (hp 5 1) (hp 5 2) (hp 6) (x - 1) (y - 1))]) (st' := [jI (-1), jI (jgk (hp 5 1) (hp 5 2) (hp 6) (x - 1) (y - 1))]) (hp' := hp) rfl ?_
        refine jE_icmp_eq rfl (by omega) (by omega) (fun c32_4 => ?_) (fun c32_4 => ?_)
        · refine jm_Ev.bl 4 (pc' := 8) (A' := [jR 5, jI x, jI y, jI ((Int32.ofInt ((Int32.ofInt 0 ||| Int32.ofInt ((Int32.ofInt 1 <<< (Int32.ofInt (jgk (hp 5 1) (hp 5 2) (hp 6) (x - 1) y) &&& 31)).toInt)).toInt) ||| Int32.ofInt ((Int32.ofInt 1 <<< (Int32.ofInt (jgk (hp 5 1) (hp 5 2) (hp 6) x (y - 1)) &&& 31)).toInt)).toInt), jI 4, jI (jgk (hp 5 1) (hp 5 2) (hp 6) (x - 1) (y - 1))]) (st' := [jI 4, jI 4]) (hp' := hp) rfl ?_
          refine jE_icmp_ge rfl (by omega) (by omega) (fun _ => ?_) (fun c8 => absurd c8 (by omega))
          refine jm_Ev.bl 1 (pc' := 49) (A' := [jR 5, jI x, jI y, jI ((Int32.ofInt ((Int32.ofInt 0 ||| Int32.ofInt ((Int32.ofInt 1 <<< (Int32.ofInt (jgk (hp 5 1) (hp 5 2) (hp 6) (x - 1) y) &&& 31)).toInt)).toInt) ||| Int32.ofInt ((Int32.ofInt 1 <<< (Int32.ofInt (jgk (hp 5 1) (hp 5 2) (hp 6) x (y - 1)) &&& 31)).toInt)).toInt), jI 4, jI (jgk (hp 5 1) (hp 5 2) (hp 6) (x - 1) (y - 1))]) (st' := [jI ((Int32.ofInt ((Int32.ofInt 0 ||| Int32.ofInt ((Int32.ofInt 1 <<< (Int32.ofInt (jgk (hp 5 1) (hp 5 2) (hp 6) (x - 1) y) &&& 31)).toInt)).toInt) ||| Int32.ofInt ((Int32.ofInt 1 <<< (Int32.ofInt (jgk (hp 5 1) (hp 5 2) (hp 6) x (y - 1)) &&& 31)).toInt)).toInt)]) (hp' := hp) rfl ?_
          exact jE_ret rfl ⟨jrI (by unfold jtk jkor; simp only [*, if_true, if_false]; try rfl), rfl⟩
        · refine jm_Ev.bl 10 (pc' := 8) (A' := [jR 5, jI x, jI y, jI ((Int32.ofInt ((Int32.ofInt ((Int32.ofInt 0 ||| Int32.ofInt ((Int32.ofInt 1 <<< (Int32.ofInt (jgk (hp 5 1) (hp 5 2) (hp 6) (x - 1) y) &&& 31)).toInt)).toInt) ||| Int32.ofInt ((Int32.ofInt 1 <<< (Int32.ofInt (jgk (hp 5 1) (hp 5 2) (hp 6) x (y - 1)) &&& 31)).toInt)).toInt) ||| Int32.ofInt ((Int32.ofInt 1 <<< (Int32.ofInt (jgk (hp 5 1) (hp 5 2) (hp 6) (x - 1) (y - 1)) &&& 31)).toInt)).toInt), jI 4, jI (jgk (hp 5 1) (hp 5 2) (hp 6) (x - 1) (y - 1))]) (st' := [jI 4, jI 4]) (hp' := hp) rfl ?_
          refine jE_icmp_ge rfl (by omega) (by omega) (fun _ => ?_) (fun c8 => absurd c8 (by omega))
          refine jm_Ev.bl 1 (pc' := 49) (A' := [jR 5, jI x, jI y, jI ((Int32.ofInt ((Int32.ofInt ((Int32.ofInt 0 ||| Int32.ofInt ((Int32.ofInt 1 <<< (Int32.ofInt (jgk (hp 5 1) (hp 5 2) (hp 6) (x - 1) y) &&& 31)).toInt)).toInt) ||| Int32.ofInt ((Int32.ofInt 1 <<< (Int32.ofInt (jgk (hp 5 1) (hp 5 2) (hp 6) x (y - 1)) &&& 31)).toInt)).toInt) ||| Int32.ofInt ((Int32.ofInt 1 <<< (Int32.ofInt (jgk (hp 5 1) (hp 5 2) (hp 6) (x - 1) (y - 1)) &&& 31)).toInt)).toInt), jI 4, jI (jgk (hp 5 1) (hp 5 2) (hp 6) (x - 1) (y - 1))]) (st' := [jI ((Int32.ofInt ((Int32.ofInt ((Int32.ofInt 0 ||| Int32.ofInt ((Int32.ofInt 1 <<< (Int32.ofInt (jgk (hp 5 1) (hp 5 2) (hp 6) (x - 1) y) &&& 31)).toInt)).toInt) ||| Int32.ofInt ((Int32.ofInt 1 <<< (Int32.ofInt (jgk (hp 5 1) (hp 5 2) (hp 6) x (y - 1)) &&& 31)).toInt)).toInt) ||| Int32.ofInt ((Int32.ofInt 1 <<< (Int32.ofInt (jgk (hp 5 1) (hp 5 2) (hp 6) (x - 1) (y - 1)) &&& 31)).toInt)).toInt)]) (hp' := hp) rfl ?_
          exact jE_ret rfl ⟨jrI (by unfold jtk jkor; simp only [*, if_true, if_false]; try rfl), rfl⟩
  · refine jm_Ev.bl 10 (pc' := 8) (A' := [jR 5, jI x, jI y, jI ((Int32.ofInt 0 ||| Int32.ofInt ((Int32.ofInt 1 <<< (Int32.ofInt (jgk (hp 5 1) (hp 5 2) (hp 6) x y) &&& 31)).toInt)).toInt), jI 1, jI (jgk (hp 5 1) (hp 5 2) (hp 6) x y)]) (st' := [jI 4, jI 1]) (hp' := hp) rfl ?_
    refine jE_icmp_ge rfl (by omega) (by omega) (fun c8 => absurd c8 (by omega)) (fun _ => ?_)
    refine jm_Ev.bl 4 (pc' := 16) (A' := [jR 5, jI x, jI y, jI ((Int32.ofInt 0 ||| Int32.ofInt ((Int32.ofInt 1 <<< (Int32.ofInt (jgk (hp 5 1) (hp 5 2) (hp 6) x y) &&& 31)).toInt)).toInt), jI 1, jI (jgk (hp 5 1) (hp 5 2) (hp 6) x y)]) (st' := [jI 2, jI 1, jI x, jR 5]) (hp' := hp) rfl ?_
    refine jE_irem rfl (by omega) (by omega) ?_
    refine jE_top (w := 1) (by decide) ?_
    refine jm_Ev.bl 4 (pc' := 22) (A' := [jR 5, jI x, jI y, jI ((Int32.ofInt 0 ||| Int32.ofInt ((Int32.ofInt 1 <<< (Int32.ofInt (jgk (hp 5 1) (hp 5 2) (hp 6) x y) &&& 31)).toInt)).toInt), jI 1, jI (jgk (hp 5 1) (hp 5 2) (hp 6) x y)]) (st' := [jI 2, jI 1, jI y, jI (x - 1), jR 5]) (hp' := hp) rfl ?_
    refine jE_idiv rfl (by omega) (by omega) ?_
    refine jE_top (w := 0) (by decide) ?_
    refine jm_Ev.bl 1 (pc' := 24) (A' := [jR 5, jI x, jI y, jI ((Int32.ofInt 0 ||| Int32.ofInt ((Int32.ofInt 1 <<< (Int32.ofInt (jgk (hp 5 1) (hp 5 2) (hp 6) x y) &&& 31)).toInt)).toInt), jI 1, jI (jgk (hp 5 1) (hp 5 2) (hp 6) x y)]) (st' := [jI (y - 0), jI (x - 1), jR 5]) (hp' := hp) rfl ?_
    rw [show y - 0 = y from Int.sub_zero y]
    refine jE_callI (vs := [jR 5, jI (x - 1), jI y]) (r := []) (nx := 27) (v := jI (jgk (hp 5 1) (hp 5 2) (hp 6) (x - 1) y)) (hp1 := hp) rfl (c_g_kindAtCell_5 hp hG _ _ (by omega) (by omega)) ?_
    refine jm_Ev.bl 3 (pc' := 32) (A' := [jR 5, jI x, jI y, jI ((Int32.ofInt 0 ||| Int32.ofInt ((Int32.ofInt 1 <<< (Int32.ofInt (jgk (hp 5 1) (hp 5 2) (hp 6) x y) &&& 31)).toInt)).toInt), jI 1, jI (jgk (hp 5 1) (hp 5 2) (hp 6) (x - 1) y)]) (st' := [jI (-1), jI (jgk (hp 5 1) (hp 5 2) (hp 6) (x - 1) y)]) (hp' := hp) rfl ?_
    refine jE_icmp_eq rfl (by omega) (by omega) (fun c32_2 => ?_) (fun c32_2 => ?_)
    · refine jm_Ev.bl 4 (pc' := 8) (A' := [jR 5, jI x, jI y, jI ((Int32.ofInt 0 ||| Int32.ofInt ((Int32.ofInt 1 <<< (Int32.ofInt (jgk (hp 5 1) (hp 5 2) (hp 6) x y) &&& 31)).toInt)).toInt), jI 2, jI (jgk (hp 5 1) (hp 5 2) (hp 6) (x - 1) y)]) (st' := [jI 4, jI 2]) (hp' := hp) rfl ?_
      refine jE_icmp_ge rfl (by omega) (by omega) (fun c8 => absurd c8 (by omega)) (fun _ => ?_)
      refine jm_Ev.bl 4 (pc' := 16) (A' := [jR 5, jI x, jI y, jI ((Int32.ofInt 0 ||| Int32.ofInt ((Int32.ofInt 1 <<< (Int32.ofInt (jgk (hp 5 1) (hp 5 2) (hp 6) x y) &&& 31)).toInt)).toInt), jI 2, jI (jgk (hp 5 1) (hp 5 2) (hp 6) (x - 1) y)]) (st' := [jI 2, jI 2, jI x, jR 5]) (hp' := hp) rfl ?_
      refine jE_irem rfl (by omega) (by omega) ?_
      refine jE_top (w := 0) (by decide) ?_
      refine jm_Ev.bl 4 (pc' := 22) (A' := [jR 5, jI x, jI y, jI ((Int32.ofInt 0 ||| Int32.ofInt ((Int32.ofInt 1 <<< (Int32.ofInt (jgk (hp 5 1) (hp 5 2) (hp 6) x y) &&& 31)).toInt)).toInt), jI 2, jI (jgk (hp 5 1) (hp 5 2) (hp 6) (x - 1) y)]) (st' := [jI 2, jI 2, jI y, jI (x - 0), jR 5]) (hp' := hp) rfl ?_
      refine jE_idiv rfl (by omega) (by omega) ?_
      refine jE_top (w := 1) (by decide) ?_
      refine jm_Ev.bl 1 (pc' := 24) (A' := [jR 5, jI x, jI y, jI ((Int32.ofInt 0 ||| Int32.ofInt ((Int32.ofInt 1 <<< (Int32.ofInt (jgk (hp 5 1) (hp 5 2) (hp 6) x y) &&& 31)).toInt)).toInt), jI 2, jI (jgk (hp 5 1) (hp 5 2) (hp 6) (x - 1) y)]) (st' := [jI (y - 1), jI (x - 0), jR 5]) (hp' := hp) rfl ?_
      rw [show x - 0 = x from Int.sub_zero x]
      refine jE_callI (vs := [jR 5, jI x, jI (y - 1)]) (r := []) (nx := 27) (v := jI (jgk (hp 5 1) (hp 5 2) (hp 6) x (y - 1))) (hp1 := hp) rfl (c_g_kindAtCell_5 hp hG _ _ (by omega) (by omega)) ?_
      refine jm_Ev.bl 3 (pc' := 32) (A' := [jR 5, jI x, jI y, jI ((Int32.ofInt 0 ||| Int32.ofInt ((Int32.ofInt 1 <<< (Int32.ofInt (jgk (hp 5 1) (hp 5 2) (hp 6) x y) &&& 31)).toInt)).toInt), jI 2, jI (jgk (hp 5 1) (hp 5 2) (hp 6) x (y - 1))]) (st' := [jI (-1), jI (jgk (hp 5 1) (hp 5 2) (hp 6) x (y - 1))]) (hp' := hp) rfl ?_
      refine jE_icmp_eq rfl (by omega) (by omega) (fun c32_3 => ?_) (fun c32_3 => ?_)
      · refine jm_Ev.bl 4 (pc' := 8) (A' := [jR 5, jI x, jI y, jI ((Int32.ofInt 0 ||| Int32.ofInt ((Int32.ofInt 1 <<< (Int32.ofInt (jgk (hp 5 1) (hp 5 2) (hp 6) x y) &&& 31)).toInt)).toInt), jI 3, jI (jgk (hp 5 1) (hp 5 2) (hp 6) x (y - 1))]) (st' := [jI 4, jI 3]) (hp' := hp) rfl ?_
        refine jE_icmp_ge rfl (by omega) (by omega) (fun c8 => absurd c8 (by omega)) (fun _ => ?_)
        refine jm_Ev.bl 4 (pc' := 16) (A' := [jR 5, jI x, jI y, jI ((Int32.ofInt 0 ||| Int32.ofInt ((Int32.ofInt 1 <<< (Int32.ofInt (jgk (hp 5 1) (hp 5 2) (hp 6) x y) &&& 31)).toInt)).toInt), jI 3, jI (jgk (hp 5 1) (hp 5 2) (hp 6) x (y - 1))]) (st' := [jI 2, jI 3, jI x, jR 5]) (hp' := hp) rfl ?_
        refine jE_irem rfl (by omega) (by omega) ?_
        refine jE_top (w := 1) (by decide) ?_
        refine jm_Ev.bl 4 (pc' := 22) (A' := [jR 5, jI x, jI y, jI ((Int32.ofInt 0 ||| Int32.ofInt ((Int32.ofInt 1 <<< (Int32.ofInt (jgk (hp 5 1) (hp 5 2) (hp 6) x y) &&& 31)).toInt)).toInt), jI 3, jI (jgk (hp 5 1) (hp 5 2) (hp 6) x (y - 1))]) (st' := [jI 2, jI 3, jI y, jI (x - 1), jR 5]) (hp' := hp) rfl ?_
        refine jE_idiv rfl (by omega) (by omega) ?_
        refine jE_top (w := 1) (by decide) ?_
        refine jm_Ev.bl 1 (pc' := 24) (A' := [jR 5, jI x, jI y, jI ((Int32.ofInt 0 ||| Int32.ofInt ((Int32.ofInt 1 <<< (Int32.ofInt (jgk (hp 5 1) (hp 5 2) (hp 6) x y) &&& 31)).toInt)).toInt), jI 3, jI (jgk (hp 5 1) (hp 5 2) (hp 6) x (y - 1))]) (st' := [jI (y - 1), jI (x - 1), jR 5]) (hp' := hp) rfl ?_
        refine jE_callI (vs := [jR 5, jI (x - 1), jI (y - 1)]) (r := []) (nx := 27) (v := jI (jgk (hp 5 1) (hp 5 2) (hp 6) (x - 1) (y - 1))) (hp1 := hp) rfl (c_g_kindAtCell_5 hp hG _ _ (by omega) (by omega)) ?_
        refine jm_Ev.bl 3 (pc' := 32) (A' := [jR 5, jI x, jI y, jI ((Int32.ofInt 0 ||| Int32.ofInt ((Int32.ofInt 1 <<< (Int32.ofInt (jgk (hp 5 1) (hp 5 2) (hp 6) x y) &&& 31)).toInt)).toInt), jI 3, jI (jgk (hp 5 1) (hp 5 2) (hp 6) (x - 1) (y - 1))]) (st' := [jI (-1), jI (jgk (hp 5 1) (hp 5 2) (hp 6) (x - 1) (y - 1))]) (hp' := hp) rfl ?_
        refine jE_icmp_eq rfl (by omega) (by omega) (fun c32_4 => ?_) (fun c32_4 => ?_)
        · refine jm_Ev.bl 4 (pc' := 8) (A' := [jR 5, jI x, jI y, jI ((Int32.ofInt 0 ||| Int32.ofInt ((Int32.ofInt 1 <<< (Int32.ofInt (jgk (hp 5 1) (hp 5 2) (hp 6) x y) &&& 31)).toInt)).toInt), jI 4, jI (jgk (hp 5 1) (hp 5 2) (hp 6) (x - 1) (y - 1))]) (st' := [jI 4, jI 4]) (hp' := hp) rfl ?_
          refine jE_icmp_ge rfl (by omega) (by omega) (fun _ => ?_) (fun c8 => absurd c8 (by omega))
          refine jm_Ev.bl 1 (pc' := 49) (A' := [jR 5, jI x, jI y, jI ((Int32.ofInt 0 ||| Int32.ofInt ((Int32.ofInt 1 <<< (Int32.ofInt (jgk (hp 5 1) (hp 5 2) (hp 6) x y) &&& 31)).toInt)).toInt), jI 4, jI (jgk (hp 5 1) (hp 5 2) (hp 6) (x - 1) (y - 1))]) (st' := [jI ((Int32.ofInt 0 ||| Int32.ofInt ((Int32.ofInt 1 <<< (Int32.ofInt (jgk (hp 5 1) (hp 5 2) (hp 6) x y) &&& 31)).toInt)).toInt)]) (hp' := hp) rfl ?_
          exact jE_ret rfl ⟨jrI (by unfold jtk jkor; simp only [*, if_true, if_false]; try rfl), rfl⟩
        · refine jm_Ev.bl 10 (pc' := 8) (A' := [jR 5, jI x, jI y, jI ((Int32.ofInt ((Int32.ofInt 0 ||| Int32.ofInt ((Int32.ofInt 1 <<< (Int32.ofInt (jgk (hp 5 1) (hp 5 2) (hp 6) x y) &&& 31)).toInt)).toInt) ||| Int32.ofInt ((Int32.ofInt 1 <<< (Int32.ofInt (jgk (hp 5 1) (hp 5 2) (hp 6) (x - 1) (y - 1)) &&& 31)).toInt)).toInt), jI 4, jI (jgk (hp 5 1) (hp 5 2) (hp 6) (x - 1) (y - 1))]) (st' := [jI 4, jI 4]) (hp' := hp) rfl ?_
          refine jE_icmp_ge rfl (by omega) (by omega) (fun _ => ?_) (fun c8 => absurd c8 (by omega))
          refine jm_Ev.bl 1 (pc' := 49) (A' := [jR 5, jI x, jI y, jI ((Int32.ofInt ((Int32.ofInt 0 ||| Int32.ofInt ((Int32.ofInt 1 <<< (Int32.ofInt (jgk (hp 5 1) (hp 5 2) (hp 6) x y) &&& 31)).toInt)).toInt) ||| Int32.ofInt ((Int32.ofInt 1 <<< (Int32.ofInt (jgk (hp 5 1) (hp 5 2) (hp 6) (x - 1) (y - 1)) &&& 31)).toInt)).toInt), jI 4, jI (jgk (hp 5 1) (hp 5 2) (hp 6) (x - 1) (y - 1))]) (st' := [jI ((Int32.ofInt ((Int32.ofInt 0 ||| Int32.ofInt ((Int32.ofInt 1 <<< (Int32.ofInt (jgk (hp 5 1) (hp 5 2) (hp 6) x y) &&& 31)).toInt)).toInt) ||| Int32.ofInt ((Int32.ofInt 1 <<< (Int32.ofInt (jgk (hp 5 1) (hp 5 2) (hp 6) (x - 1) (y - 1)) &&& 31)).toInt)).toInt)]) (hp' := hp) rfl ?_
          exact jE_ret rfl ⟨jrI (by unfold jtk jkor; simp only [*, if_true, if_false]; try rfl), rfl⟩
      · refine jm_Ev.bl 10 (pc' := 8) (A' := [jR 5, jI x, jI y, jI ((Int32.ofInt ((Int32.ofInt 0 ||| Int32.ofInt ((Int32.ofInt 1 <<< (Int32.ofInt (jgk (hp 5 1) (hp 5 2) (hp 6) x y) &&& 31)).toInt)).toInt) ||| Int32.ofInt ((Int32.ofInt 1 <<< (Int32.ofInt (jgk (hp 5 1) (hp 5 2) (hp 6) x (y - 1)) &&& 31)).toInt)).toInt), jI 3, jI (jgk (hp 5 1) (hp 5 2) (hp 6) x (y - 1))]) (st' := [jI 4, jI 3]) (hp' := hp) rfl ?_
        refine jE_icmp_ge rfl (by omega) (by omega) (fun c8 => absurd c8 (by omega)) (fun _ => ?_)
        refine jm_Ev.bl 4 (pc' := 16) (A' := [jR 5, jI x, jI y, jI ((Int32.ofInt ((Int32.ofInt 0 ||| Int32.ofInt ((Int32.ofInt 1 <<< (Int32.ofInt (jgk (hp 5 1) (hp 5 2) (hp 6) x y) &&& 31)).toInt)).toInt) ||| Int32.ofInt ((Int32.ofInt 1 <<< (Int32.ofInt (jgk (hp 5 1) (hp 5 2) (hp 6) x (y - 1)) &&& 31)).toInt)).toInt), jI 3, jI (jgk (hp 5 1) (hp 5 2) (hp 6) x (y - 1))]) (st' := [jI 2, jI 3, jI x, jR 5]) (hp' := hp) rfl ?_
        refine jE_irem rfl (by omega) (by omega) ?_
        refine jE_top (w := 1) (by decide) ?_
        refine jm_Ev.bl 4 (pc' := 22) (A' := [jR 5, jI x, jI y, jI ((Int32.ofInt ((Int32.ofInt 0 ||| Int32.ofInt ((Int32.ofInt 1 <<< (Int32.ofInt (jgk (hp 5 1) (hp 5 2) (hp 6) x y) &&& 31)).toInt)).toInt) ||| Int32.ofInt ((Int32.ofInt 1 <<< (Int32.ofInt (jgk (hp 5 1) (hp 5 2) (hp 6) x (y - 1)) &&& 31)).toInt)).toInt), jI 3, jI (jgk (hp 5 1) (hp 5 2) (hp 6) x (y - 1))]) (st' := [jI 2, jI 3, jI y, jI (x - 1), jR 5]) (hp' := hp) rfl ?_
        refine jE_idiv rfl (by omega) (by omega) ?_
        refine jE_top (w := 1) (by decide) ?_
        refine jm_Ev.bl 1 (pc' := 24) (A' := [jR 5, jI x, jI y, jI ((Int32.ofInt ((Int32.ofInt 0 ||| Int32.ofInt ((Int32.ofInt 1 <<< (Int32.ofInt (jgk (hp 5 1) (hp 5 2) (hp 6) x y) &&& 31)).toInt)).toInt) ||| Int32.ofInt ((Int32.ofInt 1 <<< (Int32.ofInt (jgk (hp 5 1) (hp 5 2) (hp 6) x (y - 1)) &&& 31)).toInt)).toInt), jI 3, jI (jgk (hp 5 1) (hp 5 2) (hp 6) x (y - 1))]) (st' := [jI (y - 1), jI (x - 1), jR 5]) (hp' := hp) rfl ?_
        refine jE_callI (vs := [jR 5, jI (x - 1), jI (y - 1)]) (r := []) (nx := 27) (v := jI (jgk (hp 5 1) (hp 5 2) (hp 6) (x - 1) (y - 1))) (hp1 := hp) rfl (c_g_kindAtCell_5 hp hG _ _ (by omega) (by omega)) ?_
        refine jm_Ev.bl 3 (pc' := 32) (A' := [jR 5, jI x, jI y, jI ((Int32.ofInt ((Int32.ofInt 0 ||| Int32.ofInt ((Int32.ofInt 1 <<< (Int32.ofInt (jgk (hp 5 1) (hp 5 2) (hp 6) x y) &&& 31)).toInt)).toInt) ||| Int32.ofInt ((Int32.ofInt 1 <<< (Int32.ofInt (jgk (hp 5 1) (hp 5 2) (hp 6) x (y - 1)) &&& 31)).toInt)).toInt), jI 3, jI (jgk (hp 5 1) (hp 5 2) (hp 6) (x - 1) (y - 1))]) (st' := [jI (-1), jI (jgk (hp 5 1) (hp 5 2) (hp 6) (x - 1) (y - 1))]) (hp' := hp) rfl ?_
        refine jE_icmp_eq rfl (by omega) (by omega) (fun c32_4 => ?_) (fun c32_4 => ?_)
        · refine jm_Ev.bl 4 (pc' := 8) (A' := [jR 5, jI x, jI y, jI ((Int32.ofInt ((Int32.ofInt 0 ||| Int32.ofInt ((Int32.ofInt 1 <<< (Int32.ofInt (jgk (hp 5 1) (hp 5 2) (hp 6) x y) &&& 31)).toInt)).toInt) ||| Int32.ofInt ((Int32.ofInt 1 <<< (Int32.ofInt (jgk (hp 5 1) (hp 5 2) (hp 6) x (y - 1)) &&& 31)).toInt)).toInt), jI 4, jI (jgk (hp 5 1) (hp 5 2) (hp 6) (x - 1) (y - 1))]) (st' := [jI 4, jI 4]) (hp' := hp) rfl ?_
          refine jE_icmp_ge rfl (by omega) (by omega) (fun _ => ?_) (fun c8 => absurd c8 (by omega))
          refine jm_Ev.bl 1 (pc' := 49) (A' := [jR 5, jI x, jI y, jI ((Int32.ofInt ((Int32.ofInt 0 ||| Int32.ofInt ((Int32.ofInt 1 <<< (Int32.ofInt (jgk (hp 5 1) (hp 5 2) (hp 6) x y) &&& 31)).toInt)).toInt) ||| Int32.ofInt ((Int32.ofInt 1 <<< (Int32.ofInt (jgk (hp 5 1) (hp 5 2) (hp 6) x (y - 1)) &&& 31)).toInt)).toInt), jI 4, jI (jgk (hp 5 1) (hp 5 2) (hp 6) (x - 1) (y - 1))]) (st' := [jI ((Int32.ofInt ((Int32.ofInt 0 ||| Int32.ofInt ((Int32.ofInt 1 <<< (Int32.ofInt (jgk (hp 5 1) (hp 5 2) (hp 6) x y) &&& 31)).toInt)).toInt) ||| Int32.ofInt ((Int32.ofInt 1 <<< (Int32.ofInt (jgk (hp 5 1) (hp 5 2) (hp 6) x (y - 1)) &&& 31)).toInt)).toInt)]) (hp' := hp) rfl ?_
          exact jE_ret rfl ⟨jrI (by unfold jtk jkor; simp only [*, if_true, if_false]; try rfl), rfl⟩
        · refine jm_Ev.bl 10 (pc' := 8) (A' := [jR 5, jI x, jI y, jI ((Int32.ofInt ((Int32.ofInt ((Int32.ofInt 0 ||| Int32.ofInt ((Int32.ofInt 1 <<< (Int32.ofInt (jgk (hp 5 1) (hp 5 2) (hp 6) x y) &&& 31)).toInt)).toInt) ||| Int32.ofInt ((Int32.ofInt 1 <<< (Int32.ofInt (jgk (hp 5 1) (hp 5 2) (hp 6) x (y - 1)) &&& 31)).toInt)).toInt) ||| Int32.ofInt ((Int32.ofInt 1 <<< (Int32.ofInt (jgk (hp 5 1) (hp 5 2) (hp 6) (x - 1) (y - 1)) &&& 31)).toInt)).toInt), jI 4, jI (jgk (hp 5 1) (hp 5 2) (hp 6) (x - 1) (y - 1))]) (st' := [jI 4, jI 4]) (hp' := hp) rfl ?_
          refine jE_icmp_ge rfl (by omega) (by omega) (fun _ => ?_) (fun c8 => absurd c8 (by omega))
          refine jm_Ev.bl 1 (pc' := 49) (A' := [jR 5, jI x, jI y, jI ((Int32.ofInt ((Int32.ofInt ((Int32.ofInt 0 ||| Int32.ofInt ((Int32.ofInt 1 <<< (Int32.ofInt (jgk (hp 5 1) (hp 5 2) (hp 6) x y) &&& 31)).toInt)).toInt) ||| Int32.ofInt ((Int32.ofInt 1 <<< (Int32.ofInt (jgk (hp 5 1) (hp 5 2) (hp 6) x (y - 1)) &&& 31)).toInt)).toInt) ||| Int32.ofInt ((Int32.ofInt 1 <<< (Int32.ofInt (jgk (hp 5 1) (hp 5 2) (hp 6) (x - 1) (y - 1)) &&& 31)).toInt)).toInt), jI 4, jI (jgk (hp 5 1) (hp 5 2) (hp 6) (x - 1) (y - 1))]) (st' := [jI ((Int32.ofInt ((Int32.ofInt ((Int32.ofInt 0 ||| Int32.ofInt ((Int32.ofInt 1 <<< (Int32.ofInt (jgk (hp 5 1) (hp 5 2) (hp 6) x y) &&& 31)).toInt)).toInt) ||| Int32.ofInt ((Int32.ofInt 1 <<< (Int32.ofInt (jgk (hp 5 1) (hp 5 2) (hp 6) x (y - 1)) &&& 31)).toInt)).toInt) ||| Int32.ofInt ((Int32.ofInt 1 <<< (Int32.ofInt (jgk (hp 5 1) (hp 5 2) (hp 6) (x - 1) (y - 1)) &&& 31)).toInt)).toInt)]) (hp' := hp) rfl ?_
          exact jE_ret rfl ⟨jrI (by unfold jtk jkor; simp only [*, if_true, if_false]; try rfl), rfl⟩
    · refine jm_Ev.bl 10 (pc' := 8) (A' := [jR 5, jI x, jI y, jI ((Int32.ofInt ((Int32.ofInt 0 ||| Int32.ofInt ((Int32.ofInt 1 <<< (Int32.ofInt (jgk (hp 5 1) (hp 5 2) (hp 6) x y) &&& 31)).toInt)).toInt) ||| Int32.ofInt ((Int32.ofInt 1 <<< (Int32.ofInt (jgk (hp 5 1) (hp 5 2) (hp 6) (x - 1) y) &&& 31)).toInt)).toInt), jI 2, jI (jgk (hp 5 1) (hp 5 2) (hp 6) (x - 1) y)]) (st' := [jI 4, jI 2]) (hp' := hp) rfl ?_
      refine jE_icmp_ge rfl (by omega) (by omega) (fun c8 => absurd c8 (by omega)) (fun _ => ?_)
      refine jm_Ev.bl 4 (pc' := 16) (A' := [jR 5, jI x, jI y, jI ((Int32.ofInt ((Int32.ofInt 0 ||| Int32.ofInt ((Int32.ofInt 1 <<< (Int32.ofInt (jgk (hp 5 1) (hp 5 2) (hp 6) x y) &&& 31)).toInt)).toInt) ||| Int32.ofInt ((Int32.ofInt 1 <<< (Int32.ofInt (jgk (hp 5 1) (hp 5 2) (hp 6) (x - 1) y) &&& 31)).toInt)).toInt), jI 2, jI (jgk (hp 5 1) (hp 5 2) (hp 6) (x - 1) y)]) (st' := [jI 2, jI 2, jI x, jR 5]) (hp' := hp) rfl ?_
      refine jE_irem rfl (by omega) (by omega) ?_
      refine jE_top (w := 0) (by decide) ?_
      refine jm_Ev.bl 4 (pc' := 22) (A' := [jR 5, jI x, jI y, jI ((Int32.ofInt ((Int32.ofInt 0 ||| Int32.ofInt ((Int32.ofInt 1 <<< (Int32.ofInt (jgk (hp 5 1) (hp 5 2) (hp 6) x y) &&& 31)).toInt)).toInt) ||| Int32.ofInt ((Int32.ofInt 1 <<< (Int32.ofInt (jgk (hp 5 1) (hp 5 2) (hp 6) (x - 1) y) &&& 31)).toInt)).toInt), jI 2, jI (jgk (hp 5 1) (hp 5 2) (hp 6) (x - 1) y)]) (st' := [jI 2, jI 2, jI y, jI (x - 0), jR 5]) (hp' := hp) rfl ?_
      refine jE_idiv rfl (by omega) (by omega) ?_
      refine jE_top (w := 1) (by decide) ?_
      refine jm_Ev.bl 1 (pc' := 24) (A' := [jR 5, jI x, jI y, jI ((Int32.ofInt ((Int32.ofInt 0 ||| Int32.ofInt ((Int32.ofInt 1 <<< (Int32.ofInt (jgk (hp 5 1) (hp 5 2) (hp 6) x y) &&& 31)).toInt)).toInt) ||| Int32.ofInt ((Int32.ofInt 1 <<< (Int32.ofInt (jgk (hp 5 1) (hp 5 2) (hp 6) (x - 1) y) &&& 31)).toInt)).toInt), jI 2, jI (jgk (hp 5 1) (hp 5 2) (hp 6) (x - 1) y)]) (st' := [jI (y - 1), jI (x - 0), jR 5]) (hp' := hp) rfl ?_
      rw [show x - 0 = x from Int.sub_zero x]
      refine jE_callI (vs := [jR 5, jI x, jI (y - 1)]) (r := []) (nx := 27) (v := jI (jgk (hp 5 1) (hp 5 2) (hp 6) x (y - 1))) (hp1 := hp) rfl (c_g_kindAtCell_5 hp hG _ _ (by omega) (by omega)) ?_
      refine jm_Ev.bl 3 (pc' := 32) (A' := [jR 5, jI x, jI y, jI ((Int32.ofInt ((Int32.ofInt 0 ||| Int32.ofInt ((Int32.ofInt 1 <<< (Int32.ofInt (jgk (hp 5 1) (hp 5 2) (hp 6) x y) &&& 31)).toInt)).toInt) ||| Int32.ofInt ((Int32.ofInt 1 <<< (Int32.ofInt (jgk (hp 5 1) (hp 5 2) (hp 6) (x - 1) y) &&& 31)).toInt)).toInt), jI 2, jI (jgk (hp 5 1) (hp 5 2) (hp 6) x (y - 1))]) (st' := [jI (-1), jI (jgk (hp 5 1) (hp 5 2) (hp 6) x (y - 1))]) (hp' := hp) rfl ?_
      refine jE_icmp_eq rfl (by omega) (by omega) (fun c32_3 => ?_) (fun c32_3 => ?_)
      · refine jm_Ev.bl 4 (pc' := 8) (A' := [jR 5, jI x, jI y, jI ((Int32.ofInt ((Int32.ofInt 0 ||| Int32.ofInt ((Int32.ofInt 1 <<< (Int32.ofInt (jgk (hp 5 1) (hp 5 2) (hp 6) x y) &&& 31)).toInt)).toInt) ||| Int32.ofInt ((Int32.ofInt 1 <<< (Int32.ofInt (jgk (hp 5 1) (hp 5 2) (hp 6) (x - 1) y) &&& 31)).toInt)).toInt), jI 3, jI (jgk (hp 5 1) (hp 5 2) (hp 6) x (y - 1))]) (st' := [jI 4, jI 3]) (hp' := hp) rfl ?_
        refine jE_icmp_ge rfl (by omega) (by omega) (fun c8 => absurd c8 (by omega)) (fun _ => ?_)
        refine jm_Ev.bl 4 (pc' := 16) (A' := [jR 5, jI x, jI y, jI ((Int32.ofInt ((Int32.ofInt 0 ||| Int32.ofInt ((Int32.ofInt 1 <<< (Int32.ofInt (jgk (hp 5 1) (hp 5 2) (hp 6) x y) &&& 31)).toInt)).toInt) ||| Int32.ofInt ((Int32.ofInt 1 <<< (Int32.ofInt (jgk (hp 5 1) (hp 5 2) (hp 6) (x - 1) y) &&& 31)).toInt)).toInt), jI 3, jI (jgk (hp 5 1) (hp 5 2) (hp 6) x (y - 1))]) (st' := [jI 2, jI 3, jI x, jR 5]) (hp' := hp) rfl ?_
        refine jE_irem rfl (by omega) (by omega) ?_
        refine jE_top (w := 1) (by decide) ?_
        refine jm_Ev.bl 4 (pc' := 22) (A' := [jR 5, jI x, jI y, jI ((Int32.ofInt ((Int32.ofInt 0 ||| Int32.ofInt ((Int32.ofInt 1 <<< (Int32.ofInt (jgk (hp 5 1) (hp 5 2) (hp 6) x y) &&& 31)).toInt)).toInt) ||| Int32.ofInt ((Int32.ofInt 1 <<< (Int32.ofInt (jgk (hp 5 1) (hp 5 2) (hp 6) (x - 1) y) &&& 31)).toInt)).toInt), jI 3, jI (jgk (hp 5 1) (hp 5 2) (hp 6) x (y - 1))]) (st' := [jI 2, jI 3, jI y, jI (x - 1), jR 5]) (hp' := hp) rfl ?_
        refine jE_idiv rfl (by omega) (by omega) ?_
        refine jE_top (w := 1) (by decide) ?_
        refine jm_Ev.bl 1 (pc' := 24) (A' := [jR 5, jI x, jI y, jI ((Int32.ofInt ((Int32.ofInt 0 ||| Int32.ofInt ((Int32.ofInt 1 <<< (Int32.ofInt (jgk (hp 5 1) (hp 5 2) (hp 6) x y) &&& 31)).toInt)).toInt) ||| Int32.ofInt ((Int32.ofInt 1 <<< (Int32.ofInt (jgk (hp 5 1) (hp 5 2) (hp 6) (x - 1) y) &&& 31)).toInt)).toInt), jI 3, jI (jgk (hp 5 1) (hp 5 2) (hp 6) x (y - 1))]) (st' := [jI (y - 1), jI (x - 1), jR 5]) (hp' := hp) rfl ?_
        refine jE_callI (vs := [jR 5, jI (x - 1), jI (y - 1)]) (r := []) (nx := 27) (v := jI (jgk (hp 5 1) (hp 5 2) (hp 6) (x - 1) (y - 1))) (hp1 := hp) rfl (c_g_kindAtCell_5 hp hG _ _ (by omega) (by omega)) ?_
        refine jm_Ev.bl 3 (pc' := 32) (A' := [jR 5, jI x, jI y, jI ((Int32.ofInt ((Int32.ofInt 0 ||| Int32.ofInt ((Int32.ofInt 1 <<< (Int32.ofInt (jgk (hp 5 1) (hp 5 2) (hp 6) x y) &&& 31)).toInt)).toInt) ||| Int32.ofInt ((Int32.ofInt 1 <<< (Int32.ofInt (jgk (hp 5 1) (hp 5 2) (hp 6) (x - 1) y) &&& 31)).toInt)).toInt), jI 3, jI (jgk (hp 5 1) (hp 5 2) (hp 6) (x - 1) (y - 1))]) (st' := [jI (-1), jI (jgk (hp 5 1) (hp 5 2) (hp 6) (x - 1) (y - 1))]) (hp' := hp) rfl ?_
        refine jE_icmp_eq rfl (by omega) (by omega) (fun c32_4 => ?_) (fun c32_4 => ?_)
        · refine jm_Ev.bl 4 (pc' := 8) (A' := [jR 5, jI x, jI y, jI ((Int32.ofInt ((Int32.ofInt 0 ||| Int32.ofInt ((Int32.ofInt 1 <<< (Int32.ofInt (jgk (hp 5 1) (hp 5 2) (hp 6) x y) &&& 31)).toInt)).toInt) ||| Int32.ofInt ((Int32.ofInt 1 <<< (Int32.ofInt (jgk (hp 5 1) (hp 5 2) (hp 6) (x - 1) y) &&& 31)).toInt)).toInt), jI 4, jI (jgk (hp 5 1) (hp 5 2) (hp 6) (x - 1) (y - 1))]) (st' := [jI 4, jI 4]) (hp' := hp) rfl ?_
          refine jE_icmp_ge rfl (by omega) (by omega) (fun _ => ?_) (fun c8 => absurd c8 (by omega))
          refine jm_Ev.bl 1 (pc' := 49) (A' := [jR 5, jI x, jI y, jI ((Int32.ofInt ((Int32.ofInt 0 ||| Int32.ofInt ((Int32.ofInt 1 <<< (Int32.ofInt (jgk (hp 5 1) (hp 5 2) (hp 6) x y) &&& 31)).toInt)).toInt) ||| Int32.ofInt ((Int32.ofInt 1 <<< (Int32.ofInt (jgk (hp 5 1) (hp 5 2) (hp 6) (x - 1) y) &&& 31)).toInt)).toInt), jI 4, jI (jgk (hp 5 1) (hp 5 2) (hp 6) (x - 1) (y - 1))]) (st' := [jI ((Int32.ofInt ((Int32.ofInt 0 ||| Int32.ofInt ((Int32.ofInt 1 <<< (Int32.ofInt (jgk (hp 5 1) (hp 5 2) (hp 6) x y) &&& 31)).toInt)).toInt) ||| Int32.ofInt ((Int32.ofInt 1 <<< (Int32.ofInt (jgk (hp 5 1) (hp 5 2) (hp 6) (x - 1) y) &&& 31)).toInt)).toInt)]) (hp' := hp) rfl ?_
          exact jE_ret rfl ⟨jrI (by unfold jtk jkor; simp only [*, if_true, if_false]; try rfl), rfl⟩
        · refine jm_Ev.bl 10 (pc' := 8) (A' := [jR 5, jI x, jI y, jI ((Int32.ofInt ((Int32.ofInt ((Int32.ofInt 0 ||| Int32.ofInt ((Int32.ofInt 1 <<< (Int32.ofInt (jgk (hp 5 1) (hp 5 2) (hp 6) x y) &&& 31)).toInt)).toInt) ||| Int32.ofInt ((Int32.ofInt 1 <<< (Int32.ofInt (jgk (hp 5 1) (hp 5 2) (hp 6) (x - 1) y) &&& 31)).toInt)).toInt) ||| Int32.ofInt ((Int32.ofInt 1 <<< (Int32.ofInt (jgk (hp 5 1) (hp 5 2) (hp 6) (x - 1) (y - 1)) &&& 31)).toInt)).toInt), jI 4, jI (jgk (hp 5 1) (hp 5 2) (hp 6) (x - 1) (y - 1))]) (st' := [jI 4, jI 4]) (hp' := hp) rfl ?_
          refine jE_icmp_ge rfl (by omega) (by omega) (fun _ => ?_) (fun c8 => absurd c8 (by omega))
          refine jm_Ev.bl 1 (pc' := 49) (A' := [jR 5, jI x, jI y, jI ((Int32.ofInt ((Int32.ofInt ((Int32.ofInt 0 ||| Int32.ofInt ((Int32.ofInt 1 <<< (Int32.ofInt (jgk (hp 5 1) (hp 5 2) (hp 6) x y) &&& 31)).toInt)).toInt) ||| Int32.ofInt ((Int32.ofInt 1 <<< (Int32.ofInt (jgk (hp 5 1) (hp 5 2) (hp 6) (x - 1) y) &&& 31)).toInt)).toInt) ||| Int32.ofInt ((Int32.ofInt 1 <<< (Int32.ofInt (jgk (hp 5 1) (hp 5 2) (hp 6) (x - 1) (y - 1)) &&& 31)).toInt)).toInt), jI 4, jI (jgk (hp 5 1) (hp 5 2) (hp 6) (x - 1) (y - 1))]) (st' := [jI ((Int32.ofInt ((Int32.ofInt ((Int32.ofInt 0 ||| Int32.ofInt ((Int32.ofInt 1 <<< (Int32.ofInt (jgk (hp 5 1) (hp 5 2) (hp 6) x y) &&& 31)).toInt)).toInt) ||| Int32.ofInt ((Int32.ofInt 1 <<< (Int32.ofInt (jgk (hp 5 1) (hp 5 2) (hp 6) (x - 1) y) &&& 31)).toInt)).toInt) ||| Int32.ofInt ((Int32.ofInt 1 <<< (Int32.ofInt (jgk (hp 5 1) (hp 5 2) (hp 6) (x - 1) (y - 1)) &&& 31)).toInt)).toInt)]) (hp' := hp) rfl ?_
          exact jE_ret rfl ⟨jrI (by unfold jtk jkor; simp only [*, if_true, if_false]; try rfl), rfl⟩
      · refine jm_Ev.bl 10 (pc' := 8) (A' := [jR 5, jI x, jI y, jI ((Int32.ofInt ((Int32.ofInt ((Int32.ofInt 0 ||| Int32.ofInt ((Int32.ofInt 1 <<< (Int32.ofInt (jgk (hp 5 1) (hp 5 2) (hp 6) x y) &&& 31)).toInt)).toInt) ||| Int32.ofInt ((Int32.ofInt 1 <<< (Int32.ofInt (jgk (hp 5 1) (hp 5 2) (hp 6) (x - 1) y) &&& 31)).toInt)).toInt) ||| Int32.ofInt ((Int32.ofInt 1 <<< (Int32.ofInt (jgk (hp 5 1) (hp 5 2) (hp 6) x (y - 1)) &&& 31)).toInt)).toInt), jI 3, jI (jgk (hp 5 1) (hp 5 2) (hp 6) x (y - 1))]) (st' := [jI 4, jI 3]) (hp' := hp) rfl ?_
        refine jE_icmp_ge rfl (by omega) (by omega) (fun c8 => absurd c8 (by omega)) (fun _ => ?_)
        refine jm_Ev.bl 4 (pc' := 16) (A' := [jR 5, jI x, jI y, jI ((Int32.ofInt ((Int32.ofInt ((Int32.ofInt 0 ||| Int32.ofInt ((Int32.ofInt 1 <<< (Int32.ofInt (jgk (hp 5 1) (hp 5 2) (hp 6) x y) &&& 31)).toInt)).toInt) ||| Int32.ofInt ((Int32.ofInt 1 <<< (Int32.ofInt (jgk (hp 5 1) (hp 5 2) (hp 6) (x - 1) y) &&& 31)).toInt)).toInt) ||| Int32.ofInt ((Int32.ofInt 1 <<< (Int32.ofInt (jgk (hp 5 1) (hp 5 2) (hp 6) x (y - 1)) &&& 31)).toInt)).toInt), jI 3, jI (jgk (hp 5 1) (hp 5 2) (hp 6) x (y - 1))]) (st' := [jI 2, jI 3, jI x, jR 5]) (hp' := hp) rfl ?_
        refine jE_irem rfl (by omega) (by omega) ?_
        refine jE_top (w := 1) (by decide) ?_
        refine jm_Ev.bl 4 (pc' := 22) (A' := [jR 5, jI x, jI y, jI ((Int32.ofInt ((Int32.ofInt ((Int32.ofInt 0 ||| Int32.ofInt ((Int32.ofInt 1 <<< (Int32.ofInt (jgk (hp 5 1) (hp 5 2) (hp 6) x y) &&& 31)).toInt)).toInt) ||| Int32.ofInt ((Int32.ofInt 1 <<< (Int32.ofInt (jgk (hp 5 1) (hp 5 2) (hp 6) (x - 1) y) &&& 31)).toInt)).toInt) ||| Int32.ofInt ((Int32.ofInt 1 <<< (Int32.ofInt (jgk (hp 5 1) (hp 5 2) (hp 6) x (y - 1)) &&& 31)).toInt)).toInt), jI 3, jI (jgk (hp 5 1) (hp 5 2) (hp 6) x (y - 1))]) (st' := [jI 2, jI 3, jI y, jI (x - 1), jR 5]) (hp' := hp) rfl ?_
        refine jE_idiv rfl (by omega) (by omega) ?_
        refine jE_top (w := 1) (by decide) ?_
        refine jm_Ev.bl 1 (pc' := 24) (A' := [jR 5, jI x, jI y, jI ((Int32.ofInt ((Int32.ofInt ((Int32.ofInt 0 ||| Int32.ofInt ((Int32.ofInt 1 <<< (Int32.ofInt (jgk (hp 5 1) (hp 5 2) (hp 6) x y) &&& 31)).toInt)).toInt) ||| Int32.ofInt ((Int32.ofInt 1 <<< (Int32.ofInt (jgk (hp 5 1) (hp 5 2) (hp 6) (x - 1) y) &&& 31)).toInt)).toInt) ||| Int32.ofInt ((Int32.ofInt 1 <<< (Int32.ofInt (jgk (hp 5 1) (hp 5 2) (hp 6) x (y - 1)) &&& 31)).toInt)).toInt), jI 3, jI (jgk (hp 5 1) (hp 5 2) (hp 6) x (y - 1))]) (st' := [jI (y - 1), jI (x - 1), jR 5]) (hp' := hp) rfl ?_
        refine jE_callI (vs := [jR 5, jI (x - 1), jI (y - 1)]) (r := []) (nx := 27) (v := jI (jgk (hp 5 1) (hp 5 2) (hp 6) (x - 1) (y - 1))) (hp1 := hp) rfl (c_g_kindAtCell_5 hp hG _ _ (by omega) (by omega)) ?_
        refine jm_Ev.bl 3 (pc' := 32) (A' := [jR 5, jI x, jI y, jI ((Int32.ofInt ((Int32.ofInt ((Int32.ofInt 0 ||| Int32.ofInt ((Int32.ofInt 1 <<< (Int32.ofInt (jgk (hp 5 1) (hp 5 2) (hp 6) x y) &&& 31)).toInt)).toInt) ||| Int32.ofInt ((Int32.ofInt 1 <<< (Int32.ofInt (jgk (hp 5 1) (hp 5 2) (hp 6) (x - 1) y) &&& 31)).toInt)).toInt) ||| Int32.ofInt ((Int32.ofInt 1 <<< (Int32.ofInt (jgk (hp 5 1) (hp 5 2) (hp 6) x (y - 1)) &&& 31)).toInt)).toInt), jI 3, jI (jgk (hp 5 1) (hp 5 2) (hp 6) (x - 1) (y - 1))]) (st' := [jI (-1), jI (jgk (hp 5 1) (hp 5 2) (hp 6) (x - 1) (y - 1))]) (hp' := hp) rfl ?_
        refine jE_icmp_eq rfl (by omega) (by omega) (fun c32_4 => ?_) (fun c32_4 => ?_)
        · refine jm_Ev.bl 4 (pc' := 8) (A' := [jR 5, jI x, jI y, jI ((Int32.ofInt ((Int32.ofInt ((Int32.ofInt 0 ||| Int32.ofInt ((Int32.ofInt 1 <<< (Int32.ofInt (jgk (hp 5 1) (hp 5 2) (hp 6) x y) &&& 31)).toInt)).toInt) ||| Int32.ofInt ((Int32.ofInt 1 <<< (Int32.ofInt (jgk (hp 5 1) (hp 5 2) (hp 6) (x - 1) y) &&& 31)).toInt)).toInt) ||| Int32.ofInt ((Int32.ofInt 1 <<< (Int32.ofInt (jgk (hp 5 1) (hp 5 2) (hp 6) x (y - 1)) &&& 31)).toInt)).toInt), jI 4, jI (jgk (hp 5 1) (hp 5 2) (hp 6) (x - 1) (y - 1))]) (st' := [jI 4, jI 4]) (hp' := hp) rfl ?_
          refine jE_icmp_ge rfl (by omega) (by omega) (fun _ => ?_) (fun c8 => absurd c8 (by omega))
          refine jm_Ev.bl 1 (pc' := 49) (A' := [jR 5, jI x, jI y, jI ((Int32.ofInt ((Int32.ofInt ((Int32.ofInt 0 ||| Int32.ofInt ((Int32.ofInt 1 <<< (Int32.ofInt (jgk (hp 5 1) (hp 5 2) (hp 6) x y) &&& 31)).toInt)).toInt) ||| Int32.ofInt ((Int32.ofInt 1 <<< (Int32.ofInt (jgk (hp 5 1) (hp 5 2) (hp 6) (x - 1) y) &&& 31)).toInt)).toInt) ||| Int32.ofInt ((Int32.ofInt 1 <<< (Int32.ofInt (jgk (hp 5 1) (hp 5 2) (hp 6) x (y - 1)) &&& 31)).toInt)).toInt), jI 4, jI (jgk (hp 5 1) (hp 5 2) (hp 6) (x - 1) (y - 1))]) (st' := [jI ((Int32.ofInt ((Int32.ofInt ((Int32.ofInt 0 ||| Int32.ofInt ((Int32.ofInt 1 <<< (Int32.ofInt (jgk (hp 5 1) (hp 5 2) (hp 6) x y) &&& 31)).toInt)).toInt) ||| Int32.ofInt ((Int32.ofInt 1 <<< (Int32.ofInt (jgk (hp 5 1) (hp 5 2) (hp 6) (x - 1) y) &&& 31)).toInt)).toInt) ||| Int32.ofInt ((Int32.ofInt 1 <<< (Int32.ofInt (jgk (hp 5 1) (hp 5 2) (hp 6) x (y - 1)) &&& 31)).toInt)).toInt)]) (hp' := hp) rfl ?_
          exact jE_ret rfl ⟨jrI (by unfold jtk jkor; simp only [*, if_true, if_false]; try rfl), rfl⟩
        · refine jm_Ev.bl 10 (pc' := 8) (A' := [jR 5, jI x, jI y, jI ((Int32.ofInt ((Int32.ofInt ((Int32.ofInt ((Int32.ofInt 0 ||| Int32.ofInt ((Int32.ofInt 1 <<< (Int32.ofInt (jgk (hp 5 1) (hp 5 2) (hp 6) x y) &&& 31)).toInt)).toInt) ||| Int32.ofInt ((Int32.ofInt 1 <<< (Int32.ofInt (jgk (hp 5 1) (hp 5 2) (hp 6) (x - 1) y) &&& 31)).toInt)).toInt) ||| Int32.ofInt ((Int32.ofInt 1 <<< (Int32.ofInt (jgk (hp 5 1) (hp 5 2) (hp 6) x (y - 1)) &&& 31)).toInt)).toInt) ||| Int32.ofInt ((Int32.ofInt 1 <<< (Int32.ofInt (jgk (hp 5 1) (hp 5 2) (hp 6) (x - 1) (y - 1)) &&& 31)).toInt)).toInt), jI 4, jI (jgk (hp 5 1) (hp 5 2) (hp 6) (x - 1) (y - 1))]) (st' := [jI 4, jI 4]) (hp' := hp) rfl ?_
          refine jE_icmp_ge rfl (by omega) (by omega) (fun _ => ?_) (fun c8 => absurd c8 (by omega))
          refine jm_Ev.bl 1 (pc' := 49) (A' := [jR 5, jI x, jI y, jI ((Int32.ofInt ((Int32.ofInt ((Int32.ofInt ((Int32.ofInt 0 ||| Int32.ofInt ((Int32.ofInt 1 <<< (Int32.ofInt (jgk (hp 5 1) (hp 5 2) (hp 6) x y) &&& 31)).toInt)).toInt) ||| Int32.ofInt ((Int32.ofInt 1 <<< (Int32.ofInt (jgk (hp 5 1) (hp 5 2) (hp 6) (x - 1) y) &&& 31)).toInt)).toInt) ||| Int32.ofInt ((Int32.ofInt 1 <<< (Int32.ofInt (jgk (hp 5 1) (hp 5 2) (hp 6) x (y - 1)) &&& 31)).toInt)).toInt) ||| Int32.ofInt ((Int32.ofInt 1 <<< (Int32.ofInt (jgk (hp 5 1) (hp 5 2) (hp 6) (x - 1) (y - 1)) &&& 31)).toInt)).toInt), jI 4, jI (jgk (hp 5 1) (hp 5 2) (hp 6) (x - 1) (y - 1))]) (st' := [jI ((Int32.ofInt ((Int32.ofInt ((Int32.ofInt ((Int32.ofInt 0 ||| Int32.ofInt ((Int32.ofInt 1 <<< (Int32.ofInt (jgk (hp 5 1) (hp 5 2) (hp 6) x y) &&& 31)).toInt)).toInt) ||| Int32.ofInt ((Int32.ofInt 1 <<< (Int32.ofInt (jgk (hp 5 1) (hp 5 2) (hp 6) (x - 1) y) &&& 31)).toInt)).toInt) ||| Int32.ofInt ((Int32.ofInt 1 <<< (Int32.ofInt (jgk (hp 5 1) (hp 5 2) (hp 6) x (y - 1)) &&& 31)).toInt)).toInt) ||| Int32.ofInt ((Int32.ofInt 1 <<< (Int32.ofInt (jgk (hp 5 1) (hp 5 2) (hp 6) (x - 1) (y - 1)) &&& 31)).toInt)).toInt)]) (hp' := hp) rfl ?_
          exact jE_ret rfl ⟨jrI (by unfold jtk jkor; simp only [*, if_true, if_false]; try rfl), rfl⟩
theorem c_o_hasKind (hp : jm_H) (v w : Int) : jm_Ev 57 0 [jI v, jI w] [] hp (jK (some (jI (jb (jbit v w)))) hp) := by
  refine jm_Ev.bl 6 (pc' := 6) (A' := [jI v, jI w]) (st' := [jI 1, jI ((Int32.ofInt ((Int32.ofInt v >>> (Int32.ofInt w &&& 31)).toInt) &&& Int32.ofInt 1).toInt)]) (hp' := hp) rfl ?_
  refine jE_icmp_ne rfl (by first | exact jI32_r _ | omega) (by first | exact jI32_r _ | omega) (fun c6 => ?_) (fun c6 => ?_)
  · refine jm_Ev.bl 1 (pc' := 14) (A' := [jI v, jI w]) (st' := [jI 0]) (hp' := hp) rfl ?_
    exact jE_ret rfl ⟨jr0 c6, rfl⟩
  · refine jm_Ev.bl 2 (pc' := 14) (A' := [jI v, jI w]) (st' := [jI 1]) (hp' := hp) rfl ?_
    exact jE_ret rfl ⟨jr1 c6, rfl⟩
theorem c_o_startOf_20 (hp : jm_H) (i : Int) (h0 : 0 ≤ i) (h1 : i < 15) : jm_Ev 61 0 [jR 20, jI i] [] hp (jK (some (jI (hp 21 i))) hp) := by
  refine jm_Ev.bl 1 (pc' := 1) (A' := [jR 20, jI i]) (st' := [jI i]) (hp' := hp) rfl ?_
  refine jE_if_lt rfl (by omega) (fun c1 => ?_) (fun c1 => ?_)
  · omega
  · refine jm_Ev.bl 2 (pc' := 7) (A' := [jR 20, jI i]) (st' := [jI 15, jI i]) (hp' := hp) rfl ?_
    refine jE_icmp_ge rfl (by omega) (by omega) (fun c7 => ?_) (fun c7 => ?_)
    · omega
    · refine jm_Ev.bl 3 (pc' := 15) (A' := [jR 20, jI i]) (st' := [jI i, jR 21]) (hp' := hp) rfl ?_
      refine jE_iald (n := 15) (f := hp 21) rfl rfl (by omega) ?_
      refine jm_Ev.bl 1 (pc' := 20) (A' := [jR 20, jI i]) (st' := [jI (hp 21 i)]) (hp' := hp) rfl ?_
      exact jE_ret rfl ⟨rfl, rfl⟩
theorem c_o_xAt_20 (hp : jm_H) (i : Int) (h0 : 0 ≤ i) (h1 : i < 60) : jm_Ev 65 0 [jR 20, jI i] [] hp (jK (some (jI (hp 24 i))) hp) := by
  refine jm_Ev.bl 1 (pc' := 1) (A' := [jR 20, jI i]) (st' := [jI i]) (hp' := hp) rfl ?_
  refine jE_if_lt rfl (by omega) (fun c1 => ?_) (fun c1 => ?_)
  · omega
  · refine jm_Ev.bl 2 (pc' := 7) (A' := [jR 20, jI i]) (st' := [jI 60, jI i]) (hp' := hp) rfl ?_
    refine jE_icmp_ge rfl (by omega) (by omega) (fun c7 => ?_) (fun c7 => ?_)
    · omega
    · refine jm_Ev.bl 3 (pc' := 15) (A' := [jR 20, jI i]) (st' := [jI i, jR 24]) (hp' := hp) rfl ?_
      refine jE_iald (n := 60) (f := hp 24) rfl rfl (by omega) ?_
      refine jm_Ev.bl 1 (pc' := 20) (A' := [jR 20, jI i]) (st' := [jI (hp 24 i)]) (hp' := hp) rfl ?_
      exact jE_ret rfl ⟨rfl, rfl⟩
theorem c_o_yAt_20 (hp : jm_H) (i : Int) (h0 : 0 ≤ i) (h1 : i < 60) : jm_Ev 66 0 [jR 20, jI i] [] hp (jK (some (jI (hp 25 i))) hp) := by
  refine jm_Ev.bl 1 (pc' := 1) (A' := [jR 20, jI i]) (st' := [jI i]) (hp' := hp) rfl ?_
  refine jE_if_lt rfl (by omega) (fun c1 => ?_) (fun c1 => ?_)
  · omega
  · refine jm_Ev.bl 2 (pc' := 7) (A' := [jR 20, jI i]) (st' := [jI 60, jI i]) (hp' := hp) rfl ?_
    refine jE_icmp_ge rfl (by omega) (by omega) (fun c7 => ?_) (fun c7 => ?_)
    · omega
    · refine jm_Ev.bl 3 (pc' := 15) (A' := [jR 20, jI i]) (st' := [jI i, jR 25]) (hp' := hp) rfl ?_
      refine jE_iald (n := 60) (f := hp 25) rfl rfl (by omega) ?_
      refine jm_Ev.bl 1 (pc' := 20) (A' := [jR 20, jI i]) (st' := [jI (hp 25 i)]) (hp' := hp) rfl ?_
      exact jE_ret rfl ⟨rfl, rfl⟩
theorem c_o_wayAt_20 (hp : jm_H) (i : Int) (h0 : 0 ≤ i) (h1 : i < 60) : jm_Ev 67 0 [jR 20, jI i] [] hp (jK (some (jI (hp 26 i))) hp) := by
  refine jm_Ev.bl 1 (pc' := 1) (A' := [jR 20, jI i]) (st' := [jI i]) (hp' := hp) rfl ?_
  refine jE_if_lt rfl (by omega) (fun c1 => ?_) (fun c1 => ?_)
  · omega
  · refine jm_Ev.bl 2 (pc' := 7) (A' := [jR 20, jI i]) (st' := [jI 60, jI i]) (hp' := hp) rfl ?_
    refine jE_icmp_ge rfl (by omega) (by omega) (fun c7 => ?_) (fun c7 => ?_)
    · omega
    · refine jm_Ev.bl 3 (pc' := 15) (A' := [jR 20, jI i]) (st' := [jI i, jR 26]) (hp' := hp) rfl ?_
      refine jE_iald (n := 60) (f := hp 26) rfl rfl (by omega) ?_
      refine jm_Ev.bl 1 (pc' := 20) (A' := [jR 20, jI i]) (st' := [jI (hp 26 i)]) (hp' := hp) rfl ?_
      exact jE_ret rfl ⟨rfl, rfl⟩
theorem c_o_leewayAt_20 (hp : jm_H) (i : Int) (h0 : 0 ≤ i) (h1 : i < 60) : jm_Ev 68 0 [jR 20, jI i] [] hp (jK (some (jI (hp 27 i))) hp) := by
  refine jm_Ev.bl 1 (pc' := 1) (A' := [jR 20, jI i]) (st' := [jI i]) (hp' := hp) rfl ?_
  refine jE_if_lt rfl (by omega) (fun c1 => ?_) (fun c1 => ?_)
  · omega
  · refine jm_Ev.bl 2 (pc' := 7) (A' := [jR 20, jI i]) (st' := [jI 60, jI i]) (hp' := hp) rfl ?_
    refine jE_icmp_ge rfl (by omega) (by omega) (fun c7 => ?_) (fun c7 => ?_)
    · omega
    · refine jm_Ev.bl 3 (pc' := 15) (A' := [jR 20, jI i]) (st' := [jI i, jR 27]) (hp' := hp) rfl ?_
      refine jE_iald (n := 60) (f := hp 27) rfl rfl (by omega) ?_
      refine jm_Ev.bl 1 (pc' := 20) (A' := [jR 20, jI i]) (st' := [jI (hp 27 i)]) (hp' := hp) rfl ?_
      exact jE_ret rfl ⟨rfl, rfl⟩
theorem c_o_lengthOf_20 (hp : jm_H) (hc : 0 ≤ hp 20 0 ∧ hp 20 0 ≤ 15) (i : Int) (hi : jR32 i) : jm_Ev 62 0 [jR 20, jI i] [] hp (jK (some (jI (if 0 ≤ i ∧ i < hp 20 0 then hp 22 i else 0))) hp) := by
  refine jm_Ev.bl 1 (pc' := 1) (A' := [jR 20, jI i]) (st' := [jI i]) (hp' := hp) rfl ?_
  refine jE_if_lt rfl (by omega) (fun c1 => ?_) (fun c1 => ?_)
  · refine jm_Ev.bl 1 (pc' := 28) (A' := [jR 20, jI i]) (st' := [jI 0]) (hp' := hp) rfl ?_
    exact jE_ret rfl ⟨jrI (by first | (exfalso; omega) | rw [if_pos (by omega)] | rw [if_neg (by omega)]), rfl⟩
  · refine jm_Ev.bl 3 (pc' := 9) (A' := [jR 20, jI i]) (st' := [jI (hp 20 0), jI i]) (hp' := hp) rfl ?_
    refine jE_icmp_ge rfl (by omega) (by omega) (fun c9 => ?_) (fun c9 => ?_)
    · refine jm_Ev.bl 1 (pc' := 28) (A' := [jR 20, jI i]) (st' := [jI 0]) (hp' := hp) rfl ?_
      exact jE_ret rfl ⟨jrI (by first | (exfalso; omega) | rw [if_pos (by omega)] | rw [if_neg (by omega)]), rfl⟩
    · refine jm_Ev.bl 2 (pc' := 15) (A' := [jR 20, jI i]) (st' := [jI 15, jI i]) (hp' := hp) rfl ?_
      refine jE_icmp_ge rfl (by omega) (by omega) (fun c15 => ?_) (fun c15 => ?_)
      · refine jm_Ev.bl 1 (pc' := 28) (A' := [jR 20, jI i]) (st' := [jI 0]) (hp' := hp) rfl ?_
        exact jE_ret rfl ⟨jrI (by first | (exfalso; omega) | rw [if_pos (by omega)] | rw [if_neg (by omega)]), rfl⟩
      · refine jm_Ev.bl 3 (pc' := 23) (A' := [jR 20, jI i]) (st' := [jI i, jR 22]) (hp' := hp) rfl ?_
        refine jE_iald (n := 15) (f := hp 22) rfl rfl (by omega) ?_
        refine jm_Ev.bl 1 (pc' := 28) (A' := [jR 20, jI i]) (st' := [jI (hp 22 i)]) (hp' := hp) rfl ?_
        exact jE_ret rfl ⟨jrI (by first | (exfalso; omega) | rw [if_pos (by omega)] | rw [if_neg (by omega)]), rfl⟩
theorem c_o_len_20 (hp : jm_H) (hc : 0 ≤ hp 20 0 ∧ hp 20 0 ≤ 15) (i : Int) (h0 : 0 ≤ i) (h1 : i < hp 20 0) : jm_Ev 62 0 [jR 20, jI i] [] hp (jK (some (jI (hp 22 i))) hp) := by
  refine jm_Ev.bl 1 (pc' := 1) (A' := [jR 20, jI i]) (st' := [jI i]) (hp' := hp) rfl ?_
  refine jE_if_lt rfl (by omega) (fun c1 => ?_) (fun c1 => ?_)
  · omega
  · refine jm_Ev.bl 3 (pc' := 9) (A' := [jR 20, jI i]) (st' := [jI (hp 20 0), jI i]) (hp' := hp) rfl ?_
    refine jE_icmp_ge rfl (by omega) (by omega) (fun c9 => ?_) (fun c9 => ?_)
    · omega
    · refine jm_Ev.bl 2 (pc' := 15) (A' := [jR 20, jI i]) (st' := [jI 15, jI i]) (hp' := hp) rfl ?_
      refine jE_icmp_ge rfl (by omega) (by omega) (fun c15 => ?_) (fun c15 => ?_)
      · omega
      · refine jm_Ev.bl 3 (pc' := 23) (A' := [jR 20, jI i]) (st' := [jI i, jR 22]) (hp' := hp) rfl ?_
        refine jE_iald (n := 15) (f := hp 22) rfl rfl (by omega) ?_
        refine jm_Ev.bl 1 (pc' := 28) (A' := [jR 20, jI i]) (st' := [jI (hp 22 i)]) (hp' := hp) rfl ?_
        exact jE_ret rfl ⟨rfl, rfl⟩
theorem c_o_has_20 (hp : jm_H) (hc : 0 ≤ hp 20 0 ∧ hp 20 0 ≤ 15) (i : Int) (hi : jR32 i) : jm_Ev 58 0 [jR 20, jI i] [] hp (jK (some (jI (jb (decide (0 ≤ i ∧ i < hp 20 0))))) hp) := by
  refine jm_Ev.bl 1 (pc' := 1) (A' := [jR 20, jI i]) (st' := [jI i]) (hp' := hp) rfl ?_
  refine jE_if_lt rfl (by omega) (fun c1 => ?_) (fun c1 => ?_)
  · refine jm_Ev.bl 1 (pc' := 23) (A' := [jR 20, jI i]) (st' := [jI 0]) (hp' := hp) rfl ?_
    exact jE_ret rfl ⟨jr0 (by omega), rfl⟩
  · refine jm_Ev.bl 3 (pc' := 9) (A' := [jR 20, jI i]) (st' := [jI (hp 20 0), jI i]) (hp' := hp) rfl ?_
    refine jE_icmp_ge rfl (by omega) (by omega) (fun c9 => ?_) (fun c9 => ?_)
    · refine jm_Ev.bl 1 (pc' := 23) (A' := [jR 20, jI i]) (st' := [jI 0]) (hp' := hp) rfl ?_
      exact jE_ret rfl ⟨jr0 (by omega), rfl⟩
    · refine jm_Ev.bl 2 (pc' := 15) (A' := [jR 20, jI i]) (st' := [jI 15, jI i]) (hp' := hp) rfl ?_
      refine jE_icmp_ge rfl (by omega) (by omega) (fun c15 => ?_) (fun c15 => ?_)
      · refine jm_Ev.bl 1 (pc' := 23) (A' := [jR 20, jI i]) (st' := [jI 0]) (hp' := hp) rfl ?_
        exact jE_ret rfl ⟨jr0 (by omega), rfl⟩
      · refine jm_Ev.bl 2 (pc' := 23) (A' := [jR 20, jI i]) (st' := [jI 1]) (hp' := hp) rfl ?_
        exact jE_ret rfl ⟨jr1 (by omega), rfl⟩
theorem c_o_mustAt_20 (hp : jm_H) (i : Int) (h0 : 0 ≤ i) (h1 : i < 60) (hz : hp 28 i = 0 ∨ hp 28 i = 1) : jm_Ev 69 0 [jR 20, jI i] [] hp (jK (some (jI (hp 28 i))) hp) := by
  refine jm_Ev.bl 1 (pc' := 1) (A' := [jR 20, jI i]) (st' := [jI i]) (hp' := hp) rfl ?_
  refine jE_if_lt rfl (by omega) (fun c1 => ?_) (fun c1 => ?_)
  · omega
  · refine jm_Ev.bl 2 (pc' := 7) (A' := [jR 20, jI i]) (st' := [jI 60, jI i]) (hp' := hp) rfl ?_
    refine jE_icmp_ge rfl (by omega) (by omega) (fun c7 => ?_) (fun c7 => ?_)
    · omega
    · refine jm_Ev.bl 3 (pc' := 15) (A' := [jR 20, jI i]) (st' := [jI i, jR 28]) (hp' := hp) rfl ?_
      refine jE_zald (n := 60) (f := hp 28) rfl rfl (by omega) ?_
      refine jE_if_eq rfl (by omega) (fun c16 => ?_) (fun c16 => ?_)
      · refine jm_Ev.bl 1 (pc' := 24) (A' := [jR 20, jI i]) (st' := [jI 0]) (hp' := hp) rfl ?_
        exact jE_ret rfl ⟨jrI (by omega), rfl⟩
      · refine jm_Ev.bl 2 (pc' := 24) (A' := [jR 20, jI i]) (st' := [jI 1]) (hp' := hp) rfl ?_
        exact jE_ret rfl ⟨jrI (by omega), rfl⟩
theorem c_o_area_L_20 {Q : Option jm_V → jm_H → Prop} (hp : jm_H) (i : Int) (s N : Int) (hs0 : 0 ≤ s) (hN0 : 0 ≤ N) (hsN : s + N ≤ 60) (X Y : Int → Int) (hX : ∀ n, 0 ≤ n → n < N → hp 24 (s + n) = X n) (hY : ∀ n, 0 ≤ n → n < N → hp 25 (s + n) = Y n) (k : ∀ a b, jm_Ev 54 88 [jR 20, jI i, jI s, jI N, jI (jars X Y N N.toNat), jI N, a, b] [] hp Q) : ∀ (m : Nat) (n c : Int) (a b : jm_V), 0 ≤ n → n ≤ N → c = jars X Y N n.toNat → N - n < m → jm_Ev 54 18 [jR 20, jI i, jI s, jI N, jI c, jI n, a, b] [] hp Q := by
  intro n
  induction n with
  | zero => intro n c a b hn0 hn1 hs hm; omega
  | succ n ih =>
    intro n c a b hn0 hn1 hs hm
    refine jm_Ev.bl 2 (pc' := 21) (A' := [jR 20, jI i, jI s, jI N, jI c, jI n, a, b]) (st' := [jI N, jI n]) (hp' := hp) rfl ?_
    refine jE_icmp_ge rfl (by omega) (by omega) (fun c21 => ?_) (fun c21 => ?_)
    · have e : n = N := by omega
      subst e
      rw [hs]
      exact k a b
    · refine jm_Ev.bl 9 (pc' := 36) (A' := [jR 20, jI i, jI s, jI N, jI c, jI n, jI (s + n), b]) (st' := [jI N, jI (n + 1), jI s]) (hp' := hp) rfl ?_
      refine jE_icmp_ge rfl (by omega) (by omega) (fun c36 => ?_) (fun c36 => ?_)
      · refine jm_Ev.bl 6 (pc' := 55) (A' := [jR 20, jI i, jI s, jI N, jI c, jI n, jI (s + n), jI (s + 0)]) (st' := [jI (s + n), jR 20, jI c]) (hp' := hp) rfl ?_
        refine jE_callI (vs := [jR 20, jI (s + n)]) (r := [jI c]) (nx := 58) (v := jI (hp 24 (s + n))) (hp1 := hp) rfl (c_o_xAt_20 hp (s + n) (by omega) (by omega)) ?_
        refine jm_Ev.bl 2 (pc' := 61) (A' := [jR 20, jI i, jI s, jI N, jI c, jI n, jI (s + n), jI (s + 0)]) (st' := [jI (s + 0), jR 20, jI (hp 24 (s + n)), jI c]) (hp' := hp) rfl ?_
        refine jE_callI (vs := [jR 20, jI (s + 0)]) (r := [jI (hp 24 (s + n)), jI c]) (nx := 64) (v := jI (hp 25 (s + 0))) (hp1 := hp) rfl (c_o_yAt_20 hp (s + 0) (by omega) (by omega)) ?_
        refine jm_Ev.bl 3 (pc' := 68) (A' := [jR 20, jI i, jI s, jI N, jI c, jI n, jI (s + n), jI (s + 0)]) (st' := [jI (s + 0), jR 20, jI ((hp 24 (s + n)) * (hp 25 (s + 0))), jI c]) (hp' := hp) rfl ?_
        refine jE_callI (vs := [jR 20, jI (s + 0)]) (r := [jI ((hp 24 (s + n)) * (hp 25 (s + 0))), jI c]) (nx := 71) (v := jI (hp 24 (s + 0))) (hp1 := hp) rfl (c_o_xAt_20 hp (s + 0) (by omega) (by omega)) ?_
        refine jm_Ev.bl 2 (pc' := 74) (A' := [jR 20, jI i, jI s, jI N, jI c, jI n, jI (s + n), jI (s + 0)]) (st' := [jI (s + n), jR 20, jI (hp 24 (s + 0)), jI ((hp 24 (s + n)) * (hp 25 (s + 0))), jI c]) (hp' := hp) rfl ?_
        refine jE_callI (vs := [jR 20, jI (s + n)]) (r := [jI (hp 24 (s + 0)), jI ((hp 24 (s + n)) * (hp 25 (s + 0))), jI c]) (nx := 77) (v := jI (hp 25 (s + n))) (hp1 := hp) rfl (c_o_yAt_20 hp (s + n) (by omega) (by omega)) ?_
        refine jm_Ev.bl 6 (pc' := 18) (A' := [jR 20, jI i, jI s, jI N, jI (c + (((hp 24 (s + n)) * (hp 25 (s + 0))) - ((hp 24 (s + 0)) * (hp 25 (s + n))))), jI (n + 1), jI (s + n), jI (s + 0)]) (st' := []) (hp' := hp) rfl ?_
        exact ih (n + 1) _ _ _ (by omega) (by omega) (by rw [jars_s hn0, if_neg (by omega), hs, hX n hn0 (by omega), hY n hn0 (by omega), hX 0 (by omega) (by omega), hY 0 (by omega) (by omega)]) (by omega)
      · refine jm_Ev.bl 9 (pc' := 55) (A' := [jR 20, jI i, jI s, jI N, jI c, jI n, jI (s + n), jI (s + (n + 1))]) (st' := [jI (s + n), jR 20, jI c]) (hp' := hp) rfl ?_
        refine jE_callI (vs := [jR 20, jI (s + n)]) (r := [jI c]) (nx := 58) (v := jI (hp 24 (s + n))) (hp1 := hp) rfl (c_o_xAt_20 hp (s + n) (by omega) (by omega)) ?_
        refine jm_Ev.bl 2 (pc' := 61) (A' := [jR 20, jI i, jI s, jI N, jI c, jI n, jI (s + n), jI (s + (n + 1))]) (st' := [jI (s + (n + 1)), jR 20, jI (hp 24 (s + n)), jI c]) (hp' := hp) rfl ?_
        refine jE_callI (vs := [jR 20, jI (s + (n + 1))]) (r := [jI (hp 24 (s + n)), jI c]) (nx := 64) (v := jI (hp 25 (s + (n + 1)))) (hp1 := hp) rfl (c_o_yAt_20 hp (s + (n + 1)) (by omega) (by omega)) ?_
        refine jm_Ev.bl 3 (pc' := 68) (A' := [jR 20, jI i, jI s, jI N, jI c, jI n, jI (s + n), jI (s + (n + 1))]) (st' := [jI (s + (n + 1)), jR 20, jI ((hp 24 (s + n)) * (hp 25 (s + (n + 1)))), jI c]) (hp' := hp) rfl ?_
        refine jE_callI (vs := [jR 20, jI (s + (n + 1))]) (r := [jI ((hp 24 (s + n)) * (hp 25 (s + (n + 1)))), jI c]) (nx := 71) (v := jI (hp 24 (s + (n + 1)))) (hp1 := hp) rfl (c_o_xAt_20 hp (s + (n + 1)) (by omega) (by omega)) ?_
        refine jm_Ev.bl 2 (pc' := 74) (A' := [jR 20, jI i, jI s, jI N, jI c, jI n, jI (s + n), jI (s + (n + 1))]) (st' := [jI (s + n), jR 20, jI (hp 24 (s + (n + 1))), jI ((hp 24 (s + n)) * (hp 25 (s + (n + 1)))), jI c]) (hp' := hp) rfl ?_
        refine jE_callI (vs := [jR 20, jI (s + n)]) (r := [jI (hp 24 (s + (n + 1))), jI ((hp 24 (s + n)) * (hp 25 (s + (n + 1)))), jI c]) (nx := 77) (v := jI (hp 25 (s + n))) (hp1 := hp) rfl (c_o_yAt_20 hp (s + n) (by omega) (by omega)) ?_
        refine jm_Ev.bl 6 (pc' := 18) (A' := [jR 20, jI i, jI s, jI N, jI (c + (((hp 24 (s + n)) * (hp 25 (s + (n + 1)))) - ((hp 24 (s + (n + 1))) * (hp 25 (s + n))))), jI (n + 1), jI (s + n), jI (s + (n + 1))]) (st' := []) (hp' := hp) rfl ?_
        exact ih (n + 1) _ _ _ (by omega) (by omega) (by rw [jars_s hn0, if_pos c36, hs, hX n hn0 (by omega), hY n hn0 (by omega), hX (n + 1) (by omega) (by omega), hY (n + 1) (by omega) (by omega)]) (by omega)
theorem c_o_area_20 (hp : jm_H) (hc : 0 ≤ hp 20 0 ∧ hp 20 0 ≤ 15) (i : Int) (h0 : 0 ≤ i) (h1 : i < hp 20 0) (s N : Int) (hs0 : 0 ≤ s) (hN0 : 0 ≤ N) (hsN : s + N ≤ 60) (X Y : Int → Int) (hX : ∀ n, 0 ≤ n → n < N → hp 24 (s + n) = X n) (hY : ∀ n, 0 ≤ n → n < N → hp 25 (s + n) = Y n) (es : s = hp 21 i) (eN : N = hp 22 i) : jm_Ev 54 0 [jR 20, jI i, jU, jU, jU, jU, jU, jU] [] hp (jK (some (jI (jars X Y N N.toNat))) hp) := by
  refine jm_Ev.bl 2 (pc' := 2) (A' := [jR 20, jI i, jU, jU, jU, jU, jU, jU]) (st' := [jI i, jR 20]) (hp' := hp) rfl ?_
  refine jE_callI (vs := [jR 20, jI i]) (r := []) (nx := 5) (v := jI (hp 21 i)) (hp1 := hp) rfl (c_o_startOf_20 hp i (by omega) (by omega)) ?_
  refine jm_Ev.bl 3 (pc' := 8) (A' := [jR 20, jI i, jI (hp 21 i), jU, jU, jU, jU, jU]) (st' := [jI i, jR 20]) (hp' := hp) rfl ?_
  refine jE_callI (vs := [jR 20, jI i]) (r := []) (nx := 11) (v := jI (hp 22 i)) (hp1 := hp) rfl (c_o_len_20 hp hc i (by omega) (by omega)) ?_
  refine jm_Ev.bl 5 (pc' := 18) (A' := [jR 20, jI i, jI (hp 21 i), jI (hp 22 i), jI 0, jI 0, jU, jU]) (st' := []) (hp' := hp) rfl ?_
  subst es eN
  exact c_o_area_L_20 hp i _ _ hs0 hN0 hsN X Y hX hY (fun a b => jE_b1 rfl (jE_ret rfl ⟨rfl, rfl⟩)) 61 0 0 _ _ (by omega) (by omega) rfl (by omega)
theorem c_o_startOf_43 (hp : jm_H) (i : Int) (h0 : 0 ≤ i) (h1 : i < 15) : jm_Ev 61 0 [jR 43, jI i] [] hp (jK (some (jI (hp 44 i))) hp) := by
  refine jm_Ev.bl 1 (pc' := 1) (A' := [jR 43, jI i]) (st' := [jI i]) (hp' := hp) rfl ?_
  refine jE_if_lt rfl (by omega) (fun c1 => ?_) (fun c1 => ?_)
  · omega
  · refine jm_Ev.bl 2 (pc' := 7) (A' := [jR 43, jI i]) (st' := [jI 15, jI i]) (hp' := hp) rfl ?_
    refine jE_icmp_ge rfl (by omega) (by omega) (fun c7 => ?_) (fun c7 => ?_)
    · omega
    · refine jm_Ev.bl 3 (pc' := 15) (A' := [jR 43, jI i]) (st' := [jI i, jR 44]) (hp' := hp) rfl ?_
      refine jE_iald (n := 15) (f := hp 44) rfl rfl (by omega) ?_
      refine jm_Ev.bl 1 (pc' := 20) (A' := [jR 43, jI i]) (st' := [jI (hp 44 i)]) (hp' := hp) rfl ?_
      exact jE_ret rfl ⟨rfl, rfl⟩
theorem c_o_xAt_43 (hp : jm_H) (i : Int) (h0 : 0 ≤ i) (h1 : i < 60) : jm_Ev 65 0 [jR 43, jI i] [] hp (jK (some (jI (hp 47 i))) hp) := by
  refine jm_Ev.bl 1 (pc' := 1) (A' := [jR 43, jI i]) (st' := [jI i]) (hp' := hp) rfl ?_
  refine jE_if_lt rfl (by omega) (fun c1 => ?_) (fun c1 => ?_)
  · omega
  · refine jm_Ev.bl 2 (pc' := 7) (A' := [jR 43, jI i]) (st' := [jI 60, jI i]) (hp' := hp) rfl ?_
    refine jE_icmp_ge rfl (by omega) (by omega) (fun c7 => ?_) (fun c7 => ?_)
    · omega
    · refine jm_Ev.bl 3 (pc' := 15) (A' := [jR 43, jI i]) (st' := [jI i, jR 47]) (hp' := hp) rfl ?_
      refine jE_iald (n := 60) (f := hp 47) rfl rfl (by omega) ?_
      refine jm_Ev.bl 1 (pc' := 20) (A' := [jR 43, jI i]) (st' := [jI (hp 47 i)]) (hp' := hp) rfl ?_
      exact jE_ret rfl ⟨rfl, rfl⟩
theorem c_o_yAt_43 (hp : jm_H) (i : Int) (h0 : 0 ≤ i) (h1 : i < 60) : jm_Ev 66 0 [jR 43, jI i] [] hp (jK (some (jI (hp 48 i))) hp) := by
  refine jm_Ev.bl 1 (pc' := 1) (A' := [jR 43, jI i]) (st' := [jI i]) (hp' := hp) rfl ?_
  refine jE_if_lt rfl (by omega) (fun c1 => ?_) (fun c1 => ?_)
  · omega
  · refine jm_Ev.bl 2 (pc' := 7) (A' := [jR 43, jI i]) (st' := [jI 60, jI i]) (hp' := hp) rfl ?_
    refine jE_icmp_ge rfl (by omega) (by omega) (fun c7 => ?_) (fun c7 => ?_)
    · omega
    · refine jm_Ev.bl 3 (pc' := 15) (A' := [jR 43, jI i]) (st' := [jI i, jR 48]) (hp' := hp) rfl ?_
      refine jE_iald (n := 60) (f := hp 48) rfl rfl (by omega) ?_
      refine jm_Ev.bl 1 (pc' := 20) (A' := [jR 43, jI i]) (st' := [jI (hp 48 i)]) (hp' := hp) rfl ?_
      exact jE_ret rfl ⟨rfl, rfl⟩
theorem c_o_wayAt_43 (hp : jm_H) (i : Int) (h0 : 0 ≤ i) (h1 : i < 60) : jm_Ev 67 0 [jR 43, jI i] [] hp (jK (some (jI (hp 49 i))) hp) := by
  refine jm_Ev.bl 1 (pc' := 1) (A' := [jR 43, jI i]) (st' := [jI i]) (hp' := hp) rfl ?_
  refine jE_if_lt rfl (by omega) (fun c1 => ?_) (fun c1 => ?_)
  · omega
  · refine jm_Ev.bl 2 (pc' := 7) (A' := [jR 43, jI i]) (st' := [jI 60, jI i]) (hp' := hp) rfl ?_
    refine jE_icmp_ge rfl (by omega) (by omega) (fun c7 => ?_) (fun c7 => ?_)
    · omega
    · refine jm_Ev.bl 3 (pc' := 15) (A' := [jR 43, jI i]) (st' := [jI i, jR 49]) (hp' := hp) rfl ?_
      refine jE_iald (n := 60) (f := hp 49) rfl rfl (by omega) ?_
      refine jm_Ev.bl 1 (pc' := 20) (A' := [jR 43, jI i]) (st' := [jI (hp 49 i)]) (hp' := hp) rfl ?_
      exact jE_ret rfl ⟨rfl, rfl⟩
theorem c_o_leewayAt_43 (hp : jm_H) (i : Int) (h0 : 0 ≤ i) (h1 : i < 60) : jm_Ev 68 0 [jR 43, jI i] [] hp (jK (some (jI (hp 50 i))) hp) := by
  refine jm_Ev.bl 1 (pc' := 1) (A' := [jR 43, jI i]) (st' := [jI i]) (hp' := hp) rfl ?_
  refine jE_if_lt rfl (by omega) (fun c1 => ?_) (fun c1 => ?_)
  · omega
  · refine jm_Ev.bl 2 (pc' := 7) (A' := [jR 43, jI i]) (st' := [jI 60, jI i]) (hp' := hp) rfl ?_
    refine jE_icmp_ge rfl (by omega) (by omega) (fun c7 => ?_) (fun c7 => ?_)
    · omega
    · refine jm_Ev.bl 3 (pc' := 15) (A' := [jR 43, jI i]) (st' := [jI i, jR 50]) (hp' := hp) rfl ?_
      refine jE_iald (n := 60) (f := hp 50) rfl rfl (by omega) ?_
      refine jm_Ev.bl 1 (pc' := 20) (A' := [jR 43, jI i]) (st' := [jI (hp 50 i)]) (hp' := hp) rfl ?_
      exact jE_ret rfl ⟨rfl, rfl⟩
theorem c_o_lengthOf_43 (hp : jm_H) (hc : 0 ≤ hp 43 0 ∧ hp 43 0 ≤ 15) (i : Int) (hi : jR32 i) : jm_Ev 62 0 [jR 43, jI i] [] hp (jK (some (jI (if 0 ≤ i ∧ i < hp 43 0 then hp 45 i else 0))) hp) := by
  refine jm_Ev.bl 1 (pc' := 1) (A' := [jR 43, jI i]) (st' := [jI i]) (hp' := hp) rfl ?_
  refine jE_if_lt rfl (by omega) (fun c1 => ?_) (fun c1 => ?_)
  · refine jm_Ev.bl 1 (pc' := 28) (A' := [jR 43, jI i]) (st' := [jI 0]) (hp' := hp) rfl ?_
    exact jE_ret rfl ⟨jrI (by first | (exfalso; omega) | rw [if_pos (by omega)] | rw [if_neg (by omega)]), rfl⟩
  · refine jm_Ev.bl 3 (pc' := 9) (A' := [jR 43, jI i]) (st' := [jI (hp 43 0), jI i]) (hp' := hp) rfl ?_
    refine jE_icmp_ge rfl (by omega) (by omega) (fun c9 => ?_) (fun c9 => ?_)
    · refine jm_Ev.bl 1 (pc' := 28) (A' := [jR 43, jI i]) (st' := [jI 0]) (hp' := hp) rfl ?_
      exact jE_ret rfl ⟨jrI (by first | (exfalso; omega) | rw [if_pos (by omega)] | rw [if_neg (by omega)]), rfl⟩
    · refine jm_Ev.bl 2 (pc' := 15) (A' := [jR 43, jI i]) (st' := [jI 15, jI i]) (hp' := hp) rfl ?_
      refine jE_icmp_ge rfl (by omega) (by omega) (fun c15 => ?_) (fun c15 => ?_)
      · refine jm_Ev.bl 1 (pc' := 28) (A' := [jR 43, jI i]) (st' := [jI 0]) (hp' := hp) rfl ?_
        exact jE_ret rfl ⟨jrI (by first | (exfalso; omega) | rw [if_pos (by omega)] | rw [if_neg (by omega)]), rfl⟩
      · refine jm_Ev.bl 3 (pc' := 23) (A' := [jR 43, jI i]) (st' := [jI i, jR 45]) (hp' := hp) rfl ?_
        refine jE_iald (n := 15) (f := hp 45) rfl rfl (by omega) ?_
        refine jm_Ev.bl 1 (pc' := 28) (A' := [jR 43, jI i]) (st' := [jI (hp 45 i)]) (hp' := hp) rfl ?_
        exact jE_ret rfl ⟨jrI (by first | (exfalso; omega) | rw [if_pos (by omega)] | rw [if_neg (by omega)]), rfl⟩
theorem c_o_len_43 (hp : jm_H) (hc : 0 ≤ hp 43 0 ∧ hp 43 0 ≤ 15) (i : Int) (h0 : 0 ≤ i) (h1 : i < hp 43 0) : jm_Ev 62 0 [jR 43, jI i] [] hp (jK (some (jI (hp 45 i))) hp) := by
  refine jm_Ev.bl 1 (pc' := 1) (A' := [jR 43, jI i]) (st' := [jI i]) (hp' := hp) rfl ?_
  refine jE_if_lt rfl (by omega) (fun c1 => ?_) (fun c1 => ?_)
  · omega
  · refine jm_Ev.bl 3 (pc' := 9) (A' := [jR 43, jI i]) (st' := [jI (hp 43 0), jI i]) (hp' := hp) rfl ?_
    refine jE_icmp_ge rfl (by omega) (by omega) (fun c9 => ?_) (fun c9 => ?_)
    · omega
    · refine jm_Ev.bl 2 (pc' := 15) (A' := [jR 43, jI i]) (st' := [jI 15, jI i]) (hp' := hp) rfl ?_
      refine jE_icmp_ge rfl (by omega) (by omega) (fun c15 => ?_) (fun c15 => ?_)
      · omega
      · refine jm_Ev.bl 3 (pc' := 23) (A' := [jR 43, jI i]) (st' := [jI i, jR 45]) (hp' := hp) rfl ?_
        refine jE_iald (n := 15) (f := hp 45) rfl rfl (by omega) ?_
        refine jm_Ev.bl 1 (pc' := 28) (A' := [jR 43, jI i]) (st' := [jI (hp 45 i)]) (hp' := hp) rfl ?_
        exact jE_ret rfl ⟨rfl, rfl⟩
theorem c_o_has_43 (hp : jm_H) (hc : 0 ≤ hp 43 0 ∧ hp 43 0 ≤ 15) (i : Int) (hi : jR32 i) : jm_Ev 58 0 [jR 43, jI i] [] hp (jK (some (jI (jb (decide (0 ≤ i ∧ i < hp 43 0))))) hp) := by
  refine jm_Ev.bl 1 (pc' := 1) (A' := [jR 43, jI i]) (st' := [jI i]) (hp' := hp) rfl ?_
  refine jE_if_lt rfl (by omega) (fun c1 => ?_) (fun c1 => ?_)
  · refine jm_Ev.bl 1 (pc' := 23) (A' := [jR 43, jI i]) (st' := [jI 0]) (hp' := hp) rfl ?_
    exact jE_ret rfl ⟨jr0 (by omega), rfl⟩
  · refine jm_Ev.bl 3 (pc' := 9) (A' := [jR 43, jI i]) (st' := [jI (hp 43 0), jI i]) (hp' := hp) rfl ?_
    refine jE_icmp_ge rfl (by omega) (by omega) (fun c9 => ?_) (fun c9 => ?_)
    · refine jm_Ev.bl 1 (pc' := 23) (A' := [jR 43, jI i]) (st' := [jI 0]) (hp' := hp) rfl ?_
      exact jE_ret rfl ⟨jr0 (by omega), rfl⟩
    · refine jm_Ev.bl 2 (pc' := 15) (A' := [jR 43, jI i]) (st' := [jI 15, jI i]) (hp' := hp) rfl ?_
      refine jE_icmp_ge rfl (by omega) (by omega) (fun c15 => ?_) (fun c15 => ?_)
      · refine jm_Ev.bl 1 (pc' := 23) (A' := [jR 43, jI i]) (st' := [jI 0]) (hp' := hp) rfl ?_
        exact jE_ret rfl ⟨jr0 (by omega), rfl⟩
      · refine jm_Ev.bl 2 (pc' := 23) (A' := [jR 43, jI i]) (st' := [jI 1]) (hp' := hp) rfl ?_
        exact jE_ret rfl ⟨jr1 (by omega), rfl⟩
theorem c_o_mustAt_43 (hp : jm_H) (i : Int) (h0 : 0 ≤ i) (h1 : i < 60) (hz : hp 51 i = 0 ∨ hp 51 i = 1) : jm_Ev 69 0 [jR 43, jI i] [] hp (jK (some (jI (hp 51 i))) hp) := by
  refine jm_Ev.bl 1 (pc' := 1) (A' := [jR 43, jI i]) (st' := [jI i]) (hp' := hp) rfl ?_
  refine jE_if_lt rfl (by omega) (fun c1 => ?_) (fun c1 => ?_)
  · omega
  · refine jm_Ev.bl 2 (pc' := 7) (A' := [jR 43, jI i]) (st' := [jI 60, jI i]) (hp' := hp) rfl ?_
    refine jE_icmp_ge rfl (by omega) (by omega) (fun c7 => ?_) (fun c7 => ?_)
    · omega
    · refine jm_Ev.bl 3 (pc' := 15) (A' := [jR 43, jI i]) (st' := [jI i, jR 51]) (hp' := hp) rfl ?_
      refine jE_zald (n := 60) (f := hp 51) rfl rfl (by omega) ?_
      refine jE_if_eq rfl (by omega) (fun c16 => ?_) (fun c16 => ?_)
      · refine jm_Ev.bl 1 (pc' := 24) (A' := [jR 43, jI i]) (st' := [jI 0]) (hp' := hp) rfl ?_
        exact jE_ret rfl ⟨jrI (by omega), rfl⟩
      · refine jm_Ev.bl 2 (pc' := 24) (A' := [jR 43, jI i]) (st' := [jI 1]) (hp' := hp) rfl ?_
        exact jE_ret rfl ⟨jrI (by omega), rfl⟩
theorem c_o_area_L_43 {Q : Option jm_V → jm_H → Prop} (hp : jm_H) (i : Int) (s N : Int) (hs0 : 0 ≤ s) (hN0 : 0 ≤ N) (hsN : s + N ≤ 60) (X Y : Int → Int) (hX : ∀ n, 0 ≤ n → n < N → hp 47 (s + n) = X n) (hY : ∀ n, 0 ≤ n → n < N → hp 48 (s + n) = Y n) (k : ∀ a b, jm_Ev 54 88 [jR 43, jI i, jI s, jI N, jI (jars X Y N N.toNat), jI N, a, b] [] hp Q) : ∀ (m : Nat) (n c : Int) (a b : jm_V), 0 ≤ n → n ≤ N → c = jars X Y N n.toNat → N - n < m → jm_Ev 54 18 [jR 43, jI i, jI s, jI N, jI c, jI n, a, b] [] hp Q := by
  intro n
  induction n with
  | zero => intro n c a b hn0 hn1 hs hm; omega
  | succ n ih =>
    intro n c a b hn0 hn1 hs hm
    refine jm_Ev.bl 2 (pc' := 21) (A' := [jR 43, jI i, jI s, jI N, jI c, jI n, a, b]) (st' := [jI N, jI n]) (hp' := hp) rfl ?_
    refine jE_icmp_ge rfl (by omega) (by omega) (fun c21 => ?_) (fun c21 => ?_)
    · have e : n = N := by omega
      subst e
      rw [hs]
      exact k a b
    · refine jm_Ev.bl 9 (pc' := 36) (A' := [jR 43, jI i, jI s, jI N, jI c, jI n, jI (s + n), b]) (st' := [jI N, jI (n + 1), jI s]) (hp' := hp) rfl ?_
      refine jE_icmp_ge rfl (by omega) (by omega) (fun c36 => ?_) (fun c36 => ?_)
      · refine jm_Ev.bl 6 (pc' := 55) (A' := [jR 43, jI i, jI s, jI N, jI c, jI n, jI (s + n), jI (s + 0)]) (st' := [jI (s + n), jR 43, jI c]) (hp' := hp) rfl ?_
        refine jE_callI (vs := [jR 43, jI (s + n)]) (r := [jI c]) (nx := 58) (v := jI (hp 47 (s + n))) (hp1 := hp) rfl (c_o_xAt_43 hp (s + n) (by omega) (by omega)) ?_
        refine jm_Ev.bl 2 (pc' := 61) (A' := [jR 43, jI i, jI s, jI N, jI c, jI n, jI (s + n), jI (s + 0)]) (st' := [jI (s + 0), jR 43, jI (hp 47 (s + n)), jI c]) (hp' := hp) rfl ?_
        refine jE_callI (vs := [jR 43, jI (s + 0)]) (r := [jI (hp 47 (s + n)), jI c]) (nx := 64) (v := jI (hp 48 (s + 0))) (hp1 := hp) rfl (c_o_yAt_43 hp (s + 0) (by omega) (by omega)) ?_
        refine jm_Ev.bl 3 (pc' := 68) (A' := [jR 43, jI i, jI s, jI N, jI c, jI n, jI (s + n), jI (s + 0)]) (st' := [jI (s + 0), jR 43, jI ((hp 47 (s + n)) * (hp 48 (s + 0))), jI c]) (hp' := hp) rfl ?_
        refine jE_callI (vs := [jR 43, jI (s + 0)]) (r := [jI ((hp 47 (s + n)) * (hp 48 (s + 0))), jI c]) (nx := 71) (v := jI (hp 47 (s + 0))) (hp1 := hp) rfl (c_o_xAt_43 hp (s + 0) (by omega) (by omega)) ?_
        refine jm_Ev.bl 2 (pc' := 74) (A' := [jR 43, jI i, jI s, jI N, jI c, jI n, jI (s + n), jI (s + 0)]) (st' := [jI (s + n), jR 43, jI (hp 47 (s + 0)), jI ((hp 47 (s + n)) * (hp 48 (s + 0))), jI c]) (hp' := hp) rfl ?_
        refine jE_callI (vs := [jR 43, jI (s + n)]) (r := [jI (hp 47 (s + 0)), jI ((hp 47 (s + n)) * (hp 48 (s + 0))), jI c]) (nx := 77) (v := jI (hp 48 (s + n))) (hp1 := hp) rfl (c_o_yAt_43 hp (s + n) (by omega) (by omega)) ?_
        refine jm_Ev.bl 6 (pc' := 18) (A' := [jR 43, jI i, jI s, jI N, jI (c + (((hp 47 (s + n)) * (hp 48 (s + 0))) - ((hp 47 (s + 0)) * (hp 48 (s + n))))), jI (n + 1), jI (s + n), jI (s + 0)]) (st' := []) (hp' := hp) rfl ?_
        exact ih (n + 1) _ _ _ (by omega) (by omega) (by rw [jars_s hn0, if_neg (by omega), hs, hX n hn0 (by omega), hY n hn0 (by omega), hX 0 (by omega) (by omega), hY 0 (by omega) (by omega)]) (by omega)
      · refine jm_Ev.bl 9 (pc' := 55) (A' := [jR 43, jI i, jI s, jI N, jI c, jI n, jI (s + n), jI (s + (n + 1))]) (st' := [jI (s + n), jR 43, jI c]) (hp' := hp) rfl ?_
        refine jE_callI (vs := [jR 43, jI (s + n)]) (r := [jI c]) (nx := 58) (v := jI (hp 47 (s + n))) (hp1 := hp) rfl (c_o_xAt_43 hp (s + n) (by omega) (by omega)) ?_
        refine jm_Ev.bl 2 (pc' := 61) (A' := [jR 43, jI i, jI s, jI N, jI c, jI n, jI (s + n), jI (s + (n + 1))]) (st' := [jI (s + (n + 1)), jR 43, jI (hp 47 (s + n)), jI c]) (hp' := hp) rfl ?_
        refine jE_callI (vs := [jR 43, jI (s + (n + 1))]) (r := [jI (hp 47 (s + n)), jI c]) (nx := 64) (v := jI (hp 48 (s + (n + 1)))) (hp1 := hp) rfl (c_o_yAt_43 hp (s + (n + 1)) (by omega) (by omega)) ?_
        refine jm_Ev.bl 3 (pc' := 68) (A' := [jR 43, jI i, jI s, jI N, jI c, jI n, jI (s + n), jI (s + (n + 1))]) (st' := [jI (s + (n + 1)), jR 43, jI ((hp 47 (s + n)) * (hp 48 (s + (n + 1)))), jI c]) (hp' := hp) rfl ?_
        refine jE_callI (vs := [jR 43, jI (s + (n + 1))]) (r := [jI ((hp 47 (s + n)) * (hp 48 (s + (n + 1)))), jI c]) (nx := 71) (v := jI (hp 47 (s + (n + 1)))) (hp1 := hp) rfl (c_o_xAt_43 hp (s + (n + 1)) (by omega) (by omega)) ?_
        refine jm_Ev.bl 2 (pc' := 74) (A' := [jR 43, jI i, jI s, jI N, jI c, jI n, jI (s + n), jI (s + (n + 1))]) (st' := [jI (s + n), jR 43, jI (hp 47 (s + (n + 1))), jI ((hp 47 (s + n)) * (hp 48 (s + (n + 1)))), jI c]) (hp' := hp) rfl ?_
        refine jE_callI (vs := [jR 43, jI (s + n)]) (r := [jI (hp 47 (s + (n + 1))), jI ((hp 47 (s + n)) * (hp 48 (s + (n + 1)))), jI c]) (nx := 77) (v := jI (hp 48 (s + n))) (hp1 := hp) rfl (c_o_yAt_43 hp (s + n) (by omega) (by omega)) ?_
        refine jm_Ev.bl 6 (pc' := 18) (A' := [jR 43, jI i, jI s, jI N, jI (c + (((hp 47 (s + n)) * (hp 48 (s + (n + 1)))) - ((hp 47 (s + (n + 1))) * (hp 48 (s + n))))), jI (n + 1), jI (s + n), jI (s + (n + 1))]) (st' := []) (hp' := hp) rfl ?_
        exact ih (n + 1) _ _ _ (by omega) (by omega) (by rw [jars_s hn0, if_pos c36, hs, hX n hn0 (by omega), hY n hn0 (by omega), hX (n + 1) (by omega) (by omega), hY (n + 1) (by omega) (by omega)]) (by omega)
theorem c_o_area_43 (hp : jm_H) (hc : 0 ≤ hp 43 0 ∧ hp 43 0 ≤ 15) (i : Int) (h0 : 0 ≤ i) (h1 : i < hp 43 0) (s N : Int) (hs0 : 0 ≤ s) (hN0 : 0 ≤ N) (hsN : s + N ≤ 60) (X Y : Int → Int) (hX : ∀ n, 0 ≤ n → n < N → hp 47 (s + n) = X n) (hY : ∀ n, 0 ≤ n → n < N → hp 48 (s + n) = Y n) (es : s = hp 44 i) (eN : N = hp 45 i) : jm_Ev 54 0 [jR 43, jI i, jU, jU, jU, jU, jU, jU] [] hp (jK (some (jI (jars X Y N N.toNat))) hp) := by
  refine jm_Ev.bl 2 (pc' := 2) (A' := [jR 43, jI i, jU, jU, jU, jU, jU, jU]) (st' := [jI i, jR 43]) (hp' := hp) rfl ?_
  refine jE_callI (vs := [jR 43, jI i]) (r := []) (nx := 5) (v := jI (hp 44 i)) (hp1 := hp) rfl (c_o_startOf_43 hp i (by omega) (by omega)) ?_
  refine jm_Ev.bl 3 (pc' := 8) (A' := [jR 43, jI i, jI (hp 44 i), jU, jU, jU, jU, jU]) (st' := [jI i, jR 43]) (hp' := hp) rfl ?_
  refine jE_callI (vs := [jR 43, jI i]) (r := []) (nx := 11) (v := jI (hp 45 i)) (hp1 := hp) rfl (c_o_len_43 hp hc i (by omega) (by omega)) ?_
  refine jm_Ev.bl 5 (pc' := 18) (A' := [jR 43, jI i, jI (hp 44 i), jI (hp 45 i), jI 0, jI 0, jU, jU]) (st' := []) (hp' := hp) rfl ?_
  subst es eN
  exact c_o_area_L_43 hp i _ _ hs0 hN0 hsN X Y hX hY (fun a b => jE_b1 rfl (jE_ret rfl ⟨rfl, rfl⟩)) 61 0 0 _ _ (by omega) (by omega) rfl (by omega)
