/-! Grid -/
theorem jr1 {P : Prop} {i : Decidable P} (h : P) : some (jI 1) = some (jI (jb (@decide P i))) := by simp [jb, h]
theorem jr0 {P : Prop} {i : Decidable P} (h : ¬ P) : some (jI 0) = some (jI (jb (@decide P i))) := by simp [jb, h]
theorem jrI {a b : Int} (h : a = b) : some (jI a) = some (jI b) := by rw [h]
/-- a grid at the place o, its kinds behind it -/
def jG (hp : jm_H) (o k : Nat) : Prop := 0 ≤ hp o 1 ∧ hp o 1 ≤ 5 ∧ 0 ≤ hp o 2 ∧ hp o 2 ≤ 5 ∧ ∀ j, 0 ≤ j → j < 25 → -1 ≤ hp k j ∧ hp k j ≤ 4
theorem jm_mulb {a b m n : Int} (ha : 0 ≤ a) (ha5 : a ≤ m) (hb : 0 ≤ b) (hb5 : b ≤ n) : 0 ≤ a * b ∧ a * b ≤ m * n :=
  ⟨Int.mul_nonneg ha hb, Int.mul_le_mul ha5 hb5 hb (by omega)⟩
/-- a cell's place -/
theorem jm_ix {w h x y : Int} (hx : 0 ≤ x) (hxw : x < w) (hy : 0 ≤ y) (hyh : y < h) : 0 ≤ y * w + x ∧ y * w + x < w * h := by
  have h1 : 0 ≤ y * w := Int.mul_nonneg hy (by omega)
  have h2 : (y + 1) * w ≤ h * w := Int.mul_le_mul_of_nonneg_right (by omega) (by omega)
  have h3 : (y + 1) * w = y * w + w := by rw [Int.add_mul, Int.one_mul]
  rw [Int.mul_comm w h]
  omega
def jgk (w h : Int) (d : Int → Int) (x y : Int) : Int := if 0 ≤ x ∧ x < w ∧ 0 ≤ y ∧ y < h then d (y * w + x) else -1
def jgp (w h : Int) (d : Int → Int) (p : Int) : Int := if 0 ≤ p ∧ p < w * h then d p else -1
def jcnt (d : Int → Int) : Nat → Int
  | 0 => 0
  | n + 1 => jcnt d n + (if d n = -1 then 0 else 1)
theorem jcnt_r (d : Int → Int) (n : Nat) : 0 ≤ jcnt d n ∧ jcnt d n ≤ n := by
  induction n with
  | zero => simp [jcnt]
  | succ n ih => unfold jcnt; split <;> omega
theorem jcnt_s (d : Int → Int) {i : Int} (h : 0 ≤ i) : jcnt d (i + 1).toNat = jcnt d i.toNat + (if d i = -1 then 0 else 1) := by
  have e : (i + 1).toNat = i.toNat + 1 := by omega
  rw [e]
  have e2 : ((i.toNat : Nat) : Int) = i := by omega
  show jcnt d i.toNat + (if d ((i.toNat : Nat) : Int) = -1 then 0 else 1) = _
  rw [e2]
theorem jgk_rng {w h : Int} {d : Int → Int} (hw0 : 0 ≤ w) (hw5 : w ≤ 5) (hh0 : 0 ≤ h) (hh5 : h ≤ 5) (hk : ∀ j, 0 ≤ j → j < 25 → -1 ≤ d j ∧ d j ≤ 4) (x y : Int) : -1 ≤ jgk w h d x y ∧ jgk w h d x y ≤ 4 := by
  unfold jgk
  split
  · rename_i h1
    have h2 := jm_ix h1.1 h1.2.1 h1.2.2.1 h1.2.2.2
    have h3 := jm_mulb hw0 hw5 hh0 hh5
    exact hk _ h2.1 (by omega)
  · omega
theorem jgk_r {hp : jm_H} {o k : Nat} (hG : jG hp o k) (x y : Int) : -1 ≤ jgk (hp o 1) (hp o 2) (hp k) x y ∧ jgk (hp o 1) (hp o 2) (hp k) x y ≤ 4 := jgk_rng hG.1 hG.2.1 hG.2.2.1 hG.2.2.2.1 hG.2.2.2.2 x y
theorem jgp_r {hp : jm_H} {o k : Nat} (hG : jG hp o k) (p : Int) : -1 ≤ jgp (hp o 1) (hp o 2) (hp k) p ∧ jgp (hp o 1) (hp o 2) (hp k) p ≤ 4 := by
  obtain ⟨hw0, hw5, hh0, hh5, hk⟩ := hG
  have h3 := jm_mulb hw0 hw5 hh0 hh5
  unfold jgp
  split
  · rename_i h1; exact hk _ h1.1 (by omega)
  · omega
theorem c_g_places_3 (hp : jm_H) : jm_Ev 28 0 [jR 3] [] hp (jK (some (jI ((hp 3 1) * (hp 3 2)))) hp) := by
  refine jm_Ev.bl 5 (pc' := 9) (A' := [jR 3]) (st' := [jI ((hp 3 1) * (hp 3 2))]) (hp' := hp) rfl ?_
  exact jE_ret rfl ⟨rfl, rfl⟩
theorem c_g_has_3 (hp : jm_H) (hG : jG hp 3 4) (p : Int) (hp32 : jR32 p) : jm_Ev 29 0 [jR 3, jI p] [] hp (jK (some (jI (jb (decide (0 ≤ p ∧ p < (hp 3 1) * (hp 3 2)))))) hp) := by
  obtain ⟨hw0, hw5, hh0, hh5, hk⟩ := hG
  have hm := jm_mulb hw0 hw5 hh0 hh5
  refine jm_Ev.bl 1 (pc' := 1) (A' := [jR 3, jI p]) (st' := [jI p]) (hp' := hp) rfl ?_
  refine jE_if_lt rfl (by omega) (fun c1 => ?_) (fun c1 => ?_)
  · refine jm_Ev.bl 1 (pc' := 28) (A' := [jR 3, jI p]) (st' := [jI 0]) (hp' := hp) rfl ?_
    exact jE_ret rfl ⟨jr0 (by omega), rfl⟩
  · refine jm_Ev.bl 6 (pc' := 14) (A' := [jR 3, jI p]) (st' := [jI ((hp 3 1) * (hp 3 2)), jI p]) (hp' := hp) rfl ?_
    refine jE_icmp_ge rfl (by omega) (by omega) (fun c14 => ?_) (fun c14 => ?_)
    · refine jm_Ev.bl 1 (pc' := 28) (A' := [jR 3, jI p]) (st' := [jI 0]) (hp' := hp) rfl ?_
      exact jE_ret rfl ⟨jr0 (by omega), rfl⟩
    · refine jm_Ev.bl 2 (pc' := 20) (A' := [jR 3, jI p]) (st' := [jI 25, jI p]) (hp' := hp) rfl ?_
      refine jE_icmp_ge rfl (by omega) (by omega) (fun c20 => ?_) (fun c20 => ?_)
      · refine jm_Ev.bl 1 (pc' := 28) (A' := [jR 3, jI p]) (st' := [jI 0]) (hp' := hp) rfl ?_
        exact jE_ret rfl ⟨jr0 (by omega), rfl⟩
      · refine jm_Ev.bl 2 (pc' := 28) (A' := [jR 3, jI p]) (st' := [jI 1]) (hp' := hp) rfl ?_
        exact jE_ret rfl ⟨jr1 (by omega), rfl⟩
theorem c_g_kindAt_3 (hp : jm_H) (hG : jG hp 3 4) (p : Int) (hp32 : jR32 p) : jm_Ev 30 0 [jR 3, jI p] [] hp (jK (some (jI (jgp (hp 3 1) (hp 3 2) (hp 4) p))) hp) := by
  have hG0 := hG
  obtain ⟨hw0, hw5, hh0, hh5, hk⟩ := hG0
  have hm := jm_mulb hw0 hw5 hh0 hh5
  refine jm_Ev.bl 2 (pc' := 2) (A' := [jR 3, jI p]) (st' := [jI p, jR 3]) (hp' := hp) rfl ?_
  refine jE_callI (vs := [jR 3, jI p]) (r := []) (nx := 5) (v := jI (jb (decide (0 ≤ p ∧ p < (hp 3 1) * (hp 3 2))))) (hp1 := hp) rfl (c_g_has_3 hp hG p hp32) ?_
  refine jE_ifd_eq rfl (fun c5 => ?_) (fun c5 => ?_)
  · refine jm_Ev.bl 1 (pc' := 18) (A' := [jR 3, jI p]) (st' := [jI (-1)]) (hp' := hp) rfl ?_
    exact jE_ret rfl ⟨jrI (by unfold jgp; first | rw [if_pos c5] | rw [if_neg (by omega)]), rfl⟩
  · refine jm_Ev.bl 3 (pc' := 13) (A' := [jR 3, jI p]) (st' := [jI p, jR 4]) (hp' := hp) rfl ?_
    refine jE_iald (n := 25) (f := hp 4) rfl rfl (by omega) ?_
    refine jm_Ev.bl 1 (pc' := 18) (A' := [jR 3, jI p]) (st' := [jI (hp 4 p)]) (hp' := hp) rfl ?_
    exact jE_ret rfl ⟨jrI (by unfold jgp; first | rw [if_pos c5] | rw [if_neg (by omega)]), rfl⟩
theorem c_g_kindAtCell_3 (hp : jm_H) (hG : jG hp 3 4) (x y : Int) (hx : -100 ≤ x ∧ x ≤ 100) (hy : -100 ≤ y ∧ y ≤ 100) : jm_Ev 31 0 [jR 3, jI x, jI y, jU] [] hp (jK (some (jI (jgk (hp 3 1) (hp 3 2) (hp 4) x y))) hp) := by
  obtain ⟨hw0, hw5, hh0, hh5, hk⟩ := hG
  have hm := jm_mulb hw0 hw5 hh0 hh5
  refine jm_Ev.bl 8 (pc' := 10) (A' := [jR 3, jI x, jI y, jI ((y * (hp 3 1)) + x)]) (st' := [jI x]) (hp' := hp) rfl ?_
  refine jE_if_lt rfl (by omega) (fun c10 => ?_) (fun c10 => ?_)
  · refine jm_Ev.bl 1 (pc' := 49) (A' := [jR 3, jI x, jI y, jI ((y * (hp 3 1)) + x)]) (st' := [jI (-1)]) (hp' := hp) rfl ?_
    exact jE_ret rfl ⟨jrI (by unfold jgk; first | rw [if_pos (by omega)] | rw [if_neg (by omega)]), rfl⟩
  · refine jm_Ev.bl 3 (pc' := 18) (A' := [jR 3, jI x, jI y, jI ((y * (hp 3 1)) + x)]) (st' := [jI (hp 3 1), jI x]) (hp' := hp) rfl ?_
    refine jE_icmp_ge rfl (by omega) (by omega) (fun c18 => ?_) (fun c18 => ?_)
    · refine jm_Ev.bl 1 (pc' := 49) (A' := [jR 3, jI x, jI y, jI ((y * (hp 3 1)) + x)]) (st' := [jI (-1)]) (hp' := hp) rfl ?_
      exact jE_ret rfl ⟨jrI (by unfold jgk; first | rw [if_pos (by omega)] | rw [if_neg (by omega)]), rfl⟩
    · refine jm_Ev.bl 1 (pc' := 22) (A' := [jR 3, jI x, jI y, jI ((y * (hp 3 1)) + x)]) (st' := [jI y]) (hp' := hp) rfl ?_
      refine jE_if_lt rfl (by omega) (fun c22 => ?_) (fun c22 => ?_)
      · refine jm_Ev.bl 1 (pc' := 49) (A' := [jR 3, jI x, jI y, jI ((y * (hp 3 1)) + x)]) (st' := [jI (-1)]) (hp' := hp) rfl ?_
        exact jE_ret rfl ⟨jrI (by unfold jgk; first | rw [if_pos (by omega)] | rw [if_neg (by omega)]), rfl⟩
      · refine jm_Ev.bl 3 (pc' := 30) (A' := [jR 3, jI x, jI y, jI ((y * (hp 3 1)) + x)]) (st' := [jI (hp 3 2), jI y]) (hp' := hp) rfl ?_
        refine jE_icmp_ge rfl (by omega) (by omega) (fun c30 => ?_) (fun c30 => ?_)
        · refine jm_Ev.bl 1 (pc' := 49) (A' := [jR 3, jI x, jI y, jI ((y * (hp 3 1)) + x)]) (st' := [jI (-1)]) (hp' := hp) rfl ?_
          exact jE_ret rfl ⟨jrI (by unfold jgk; first | rw [if_pos (by omega)] | rw [if_neg (by omega)]), rfl⟩
        · have hix := jm_ix c10 c18 c22 c30
          refine jm_Ev.bl 2 (pc' := 36) (A' := [jR 3, jI x, jI y, jI ((y * (hp 3 1)) + x)]) (st' := [jI 25, jI ((y * (hp 3 1)) + x)]) (hp' := hp) rfl ?_
          refine jE_icmp_ge rfl (by omega) (by omega) (fun c36 => ?_) (fun c36 => ?_)
          · exfalso; omega
          · refine jm_Ev.bl 3 (pc' := 44) (A' := [jR 3, jI x, jI y, jI ((y * (hp 3 1)) + x)]) (st' := [jI ((y * (hp 3 1)) + x), jR 4]) (hp' := hp) rfl ?_
            refine jE_iald (n := 25) (f := hp 4) rfl rfl (by omega) ?_
            refine jm_Ev.bl 1 (pc' := 49) (A' := [jR 3, jI x, jI y, jI ((y * (hp 3 1)) + x)]) (st' := [jI (hp 4 ((y * (hp 3 1)) + x))]) (hp' := hp) rfl ?_
            exact jE_ret rfl ⟨jrI (by unfold jgk; first | rw [if_pos (by omega)] | rw [if_neg (by omega)]), rfl⟩
theorem c_g_hasDot_3 (hp : jm_H) (hG : jG hp 3 4) (x y : Int) (hx : -100 ≤ x ∧ x ≤ 100) (hy : -100 ≤ y ∧ y ≤ 100) : jm_Ev 32 0 [jR 3, jI x, jI y] [] hp (jK (some (jI (jb (decide (jgk (hp 3 1) (hp 3 2) (hp 4) x y ≠ -1))))) hp) := by
  have hr := jgk_r hG x y
  refine jm_Ev.bl 3 (pc' := 3) (A' := [jR 3, jI x, jI y]) (st' := [jI y, jI x, jR 3]) (hp' := hp) rfl ?_
  refine jE_callI (vs := [jR 3, jI x, jI y]) (r := []) (nx := 6) (v := jI (jgk (hp 3 1) (hp 3 2) (hp 4) x y)) (hp1 := hp) rfl (c_g_kindAtCell_3 hp hG x y hx hy) ?_
  refine jm_Ev.bl 1 (pc' := 7) (A' := [jR 3, jI x, jI y]) (st' := [jI (-1), jI (jgk (hp 3 1) (hp 3 2) (hp 4) x y)]) (hp' := hp) rfl ?_
  refine jE_icmp_eq rfl (by omega) (by omega) (fun c7 => ?_) (fun c7 => ?_)
  · refine jm_Ev.bl 1 (pc' := 15) (A' := [jR 3, jI x, jI y]) (st' := [jI 0]) (hp' := hp) rfl ?_
    exact jE_ret rfl ⟨jr0 (by omega), rfl⟩
  · refine jm_Ev.bl 2 (pc' := 15) (A' := [jR 3, jI x, jI y]) (st' := [jI 1]) (hp' := hp) rfl ?_
    exact jE_ret rfl ⟨jr1 (by omega), rfl⟩
theorem c_g_places_5 (hp : jm_H) : jm_Ev 28 0 [jR 5] [] hp (jK (some (jI ((hp 5 1) * (hp 5 2)))) hp) := by
  refine jm_Ev.bl 5 (pc' := 9) (A' := [jR 5]) (st' := [jI ((hp 5 1) * (hp 5 2))]) (hp' := hp) rfl ?_
  exact jE_ret rfl ⟨rfl, rfl⟩
theorem c_g_has_5 (hp : jm_H) (hG : jG hp 5 6) (p : Int) (hp32 : jR32 p) : jm_Ev 29 0 [jR 5, jI p] [] hp (jK (some (jI (jb (decide (0 ≤ p ∧ p < (hp 5 1) * (hp 5 2)))))) hp) := by
  obtain ⟨hw0, hw5, hh0, hh5, hk⟩ := hG
  have hm := jm_mulb hw0 hw5 hh0 hh5
  refine jm_Ev.bl 1 (pc' := 1) (A' := [jR 5, jI p]) (st' := [jI p]) (hp' := hp) rfl ?_
  refine jE_if_lt rfl (by omega) (fun c1 => ?_) (fun c1 => ?_)
  · refine jm_Ev.bl 1 (pc' := 28) (A' := [jR 5, jI p]) (st' := [jI 0]) (hp' := hp) rfl ?_
    exact jE_ret rfl ⟨jr0 (by omega), rfl⟩
  · refine jm_Ev.bl 6 (pc' := 14) (A' := [jR 5, jI p]) (st' := [jI ((hp 5 1) * (hp 5 2)), jI p]) (hp' := hp) rfl ?_
    refine jE_icmp_ge rfl (by omega) (by omega) (fun c14 => ?_) (fun c14 => ?_)
    · refine jm_Ev.bl 1 (pc' := 28) (A' := [jR 5, jI p]) (st' := [jI 0]) (hp' := hp) rfl ?_
      exact jE_ret rfl ⟨jr0 (by omega), rfl⟩
    · refine jm_Ev.bl 2 (pc' := 20) (A' := [jR 5, jI p]) (st' := [jI 25, jI p]) (hp' := hp) rfl ?_
      refine jE_icmp_ge rfl (by omega) (by omega) (fun c20 => ?_) (fun c20 => ?_)
      · refine jm_Ev.bl 1 (pc' := 28) (A' := [jR 5, jI p]) (st' := [jI 0]) (hp' := hp) rfl ?_
        exact jE_ret rfl ⟨jr0 (by omega), rfl⟩
      · refine jm_Ev.bl 2 (pc' := 28) (A' := [jR 5, jI p]) (st' := [jI 1]) (hp' := hp) rfl ?_
        exact jE_ret rfl ⟨jr1 (by omega), rfl⟩
theorem c_g_kindAt_5 (hp : jm_H) (hG : jG hp 5 6) (p : Int) (hp32 : jR32 p) : jm_Ev 30 0 [jR 5, jI p] [] hp (jK (some (jI (jgp (hp 5 1) (hp 5 2) (hp 6) p))) hp) := by
  have hG0 := hG
  obtain ⟨hw0, hw5, hh0, hh5, hk⟩ := hG0
  have hm := jm_mulb hw0 hw5 hh0 hh5
  refine jm_Ev.bl 2 (pc' := 2) (A' := [jR 5, jI p]) (st' := [jI p, jR 5]) (hp' := hp) rfl ?_
  refine jE_callI (vs := [jR 5, jI p]) (r := []) (nx := 5) (v := jI (jb (decide (0 ≤ p ∧ p < (hp 5 1) * (hp 5 2))))) (hp1 := hp) rfl (c_g_has_5 hp hG p hp32) ?_
  refine jE_ifd_eq rfl (fun c5 => ?_) (fun c5 => ?_)
  · refine jm_Ev.bl 1 (pc' := 18) (A' := [jR 5, jI p]) (st' := [jI (-1)]) (hp' := hp) rfl ?_
    exact jE_ret rfl ⟨jrI (by unfold jgp; first | rw [if_pos c5] | rw [if_neg (by omega)]), rfl⟩
  · refine jm_Ev.bl 3 (pc' := 13) (A' := [jR 5, jI p]) (st' := [jI p, jR 6]) (hp' := hp) rfl ?_
    refine jE_iald (n := 25) (f := hp 6) rfl rfl (by omega) ?_
    refine jm_Ev.bl 1 (pc' := 18) (A' := [jR 5, jI p]) (st' := [jI (hp 6 p)]) (hp' := hp) rfl ?_
    exact jE_ret rfl ⟨jrI (by unfold jgp; first | rw [if_pos c5] | rw [if_neg (by omega)]), rfl⟩
theorem c_g_kindAtCell_5 (hp : jm_H) (hG : jG hp 5 6) (x y : Int) (hx : -100 ≤ x ∧ x ≤ 100) (hy : -100 ≤ y ∧ y ≤ 100) : jm_Ev 31 0 [jR 5, jI x, jI y, jU] [] hp (jK (some (jI (jgk (hp 5 1) (hp 5 2) (hp 6) x y))) hp) := by
  obtain ⟨hw0, hw5, hh0, hh5, hk⟩ := hG
  have hm := jm_mulb hw0 hw5 hh0 hh5
  refine jm_Ev.bl 8 (pc' := 10) (A' := [jR 5, jI x, jI y, jI ((y * (hp 5 1)) + x)]) (st' := [jI x]) (hp' := hp) rfl ?_
  refine jE_if_lt rfl (by omega) (fun c10 => ?_) (fun c10 => ?_)
  · refine jm_Ev.bl 1 (pc' := 49) (A' := [jR 5, jI x, jI y, jI ((y * (hp 5 1)) + x)]) (st' := [jI (-1)]) (hp' := hp) rfl ?_
    exact jE_ret rfl ⟨jrI (by unfold jgk; first | rw [if_pos (by omega)] | rw [if_neg (by omega)]), rfl⟩
  · refine jm_Ev.bl 3 (pc' := 18) (A' := [jR 5, jI x, jI y, jI ((y * (hp 5 1)) + x)]) (st' := [jI (hp 5 1), jI x]) (hp' := hp) rfl ?_
    refine jE_icmp_ge rfl (by omega) (by omega) (fun c18 => ?_) (fun c18 => ?_)
    · refine jm_Ev.bl 1 (pc' := 49) (A' := [jR 5, jI x, jI y, jI ((y * (hp 5 1)) + x)]) (st' := [jI (-1)]) (hp' := hp) rfl ?_
      exact jE_ret rfl ⟨jrI (by unfold jgk; first | rw [if_pos (by omega)] | rw [if_neg (by omega)]), rfl⟩
    · refine jm_Ev.bl 1 (pc' := 22) (A' := [jR 5, jI x, jI y, jI ((y * (hp 5 1)) + x)]) (st' := [jI y]) (hp' := hp) rfl ?_
      refine jE_if_lt rfl (by omega) (fun c22 => ?_) (fun c22 => ?_)
      · refine jm_Ev.bl 1 (pc' := 49) (A' := [jR 5, jI x, jI y, jI ((y * (hp 5 1)) + x)]) (st' := [jI (-1)]) (hp' := hp) rfl ?_
        exact jE_ret rfl ⟨jrI (by unfold jgk; first | rw [if_pos (by omega)] | rw [if_neg (by omega)]), rfl⟩
      · refine jm_Ev.bl 3 (pc' := 30) (A' := [jR 5, jI x, jI y, jI ((y * (hp 5 1)) + x)]) (st' := [jI (hp 5 2), jI y]) (hp' := hp) rfl ?_
        refine jE_icmp_ge rfl (by omega) (by omega) (fun c30 => ?_) (fun c30 => ?_)
        · refine jm_Ev.bl 1 (pc' := 49) (A' := [jR 5, jI x, jI y, jI ((y * (hp 5 1)) + x)]) (st' := [jI (-1)]) (hp' := hp) rfl ?_
          exact jE_ret rfl ⟨jrI (by unfold jgk; first | rw [if_pos (by omega)] | rw [if_neg (by omega)]), rfl⟩
        · have hix := jm_ix c10 c18 c22 c30
          refine jm_Ev.bl 2 (pc' := 36) (A' := [jR 5, jI x, jI y, jI ((y * (hp 5 1)) + x)]) (st' := [jI 25, jI ((y * (hp 5 1)) + x)]) (hp' := hp) rfl ?_
          refine jE_icmp_ge rfl (by omega) (by omega) (fun c36 => ?_) (fun c36 => ?_)
          · exfalso; omega
          · refine jm_Ev.bl 3 (pc' := 44) (A' := [jR 5, jI x, jI y, jI ((y * (hp 5 1)) + x)]) (st' := [jI ((y * (hp 5 1)) + x), jR 6]) (hp' := hp) rfl ?_
            refine jE_iald (n := 25) (f := hp 6) rfl rfl (by omega) ?_
            refine jm_Ev.bl 1 (pc' := 49) (A' := [jR 5, jI x, jI y, jI ((y * (hp 5 1)) + x)]) (st' := [jI (hp 6 ((y * (hp 5 1)) + x))]) (hp' := hp) rfl ?_
            exact jE_ret rfl ⟨jrI (by unfold jgk; first | rw [if_pos (by omega)] | rw [if_neg (by omega)]), rfl⟩
theorem c_g_hasDot_5 (hp : jm_H) (hG : jG hp 5 6) (x y : Int) (hx : -100 ≤ x ∧ x ≤ 100) (hy : -100 ≤ y ∧ y ≤ 100) : jm_Ev 32 0 [jR 5, jI x, jI y] [] hp (jK (some (jI (jb (decide (jgk (hp 5 1) (hp 5 2) (hp 6) x y ≠ -1))))) hp) := by
  have hr := jgk_r hG x y
  refine jm_Ev.bl 3 (pc' := 3) (A' := [jR 5, jI x, jI y]) (st' := [jI y, jI x, jR 5]) (hp' := hp) rfl ?_
  refine jE_callI (vs := [jR 5, jI x, jI y]) (r := []) (nx := 6) (v := jI (jgk (hp 5 1) (hp 5 2) (hp 6) x y)) (hp1 := hp) rfl (c_g_kindAtCell_5 hp hG x y hx hy) ?_
  refine jm_Ev.bl 1 (pc' := 7) (A' := [jR 5, jI x, jI y]) (st' := [jI (-1), jI (jgk (hp 5 1) (hp 5 2) (hp 6) x y)]) (hp' := hp) rfl ?_
  refine jE_icmp_eq rfl (by omega) (by omega) (fun c7 => ?_) (fun c7 => ?_)
  · refine jm_Ev.bl 1 (pc' := 15) (A' := [jR 5, jI x, jI y]) (st' := [jI 0]) (hp' := hp) rfl ?_
    exact jE_ret rfl ⟨jr0 (by omega), rfl⟩
  · refine jm_Ev.bl 2 (pc' := 15) (A' := [jR 5, jI x, jI y]) (st' := [jI 1]) (hp' := hp) rfl ?_
    exact jE_ret rfl ⟨jr1 (by omega), rfl⟩
theorem c_g_places_7 (hp : jm_H) : jm_Ev 28 0 [jR 7] [] hp (jK (some (jI ((hp 7 1) * (hp 7 2)))) hp) := by
  refine jm_Ev.bl 5 (pc' := 9) (A' := [jR 7]) (st' := [jI ((hp 7 1) * (hp 7 2))]) (hp' := hp) rfl ?_
  exact jE_ret rfl ⟨rfl, rfl⟩
theorem c_g_has_7 (hp : jm_H) (hG : jG hp 7 8) (p : Int) (hp32 : jR32 p) : jm_Ev 29 0 [jR 7, jI p] [] hp (jK (some (jI (jb (decide (0 ≤ p ∧ p < (hp 7 1) * (hp 7 2)))))) hp) := by
  obtain ⟨hw0, hw5, hh0, hh5, hk⟩ := hG
  have hm := jm_mulb hw0 hw5 hh0 hh5
  refine jm_Ev.bl 1 (pc' := 1) (A' := [jR 7, jI p]) (st' := [jI p]) (hp' := hp) rfl ?_
  refine jE_if_lt rfl (by omega) (fun c1 => ?_) (fun c1 => ?_)
  · refine jm_Ev.bl 1 (pc' := 28) (A' := [jR 7, jI p]) (st' := [jI 0]) (hp' := hp) rfl ?_
    exact jE_ret rfl ⟨jr0 (by omega), rfl⟩
  · refine jm_Ev.bl 6 (pc' := 14) (A' := [jR 7, jI p]) (st' := [jI ((hp 7 1) * (hp 7 2)), jI p]) (hp' := hp) rfl ?_
    refine jE_icmp_ge rfl (by omega) (by omega) (fun c14 => ?_) (fun c14 => ?_)
    · refine jm_Ev.bl 1 (pc' := 28) (A' := [jR 7, jI p]) (st' := [jI 0]) (hp' := hp) rfl ?_
      exact jE_ret rfl ⟨jr0 (by omega), rfl⟩
    · refine jm_Ev.bl 2 (pc' := 20) (A' := [jR 7, jI p]) (st' := [jI 25, jI p]) (hp' := hp) rfl ?_
      refine jE_icmp_ge rfl (by omega) (by omega) (fun c20 => ?_) (fun c20 => ?_)
      · refine jm_Ev.bl 1 (pc' := 28) (A' := [jR 7, jI p]) (st' := [jI 0]) (hp' := hp) rfl ?_
        exact jE_ret rfl ⟨jr0 (by omega), rfl⟩
      · refine jm_Ev.bl 2 (pc' := 28) (A' := [jR 7, jI p]) (st' := [jI 1]) (hp' := hp) rfl ?_
        exact jE_ret rfl ⟨jr1 (by omega), rfl⟩
theorem c_g_kindAt_7 (hp : jm_H) (hG : jG hp 7 8) (p : Int) (hp32 : jR32 p) : jm_Ev 30 0 [jR 7, jI p] [] hp (jK (some (jI (jgp (hp 7 1) (hp 7 2) (hp 8) p))) hp) := by
  have hG0 := hG
  obtain ⟨hw0, hw5, hh0, hh5, hk⟩ := hG0
  have hm := jm_mulb hw0 hw5 hh0 hh5
  refine jm_Ev.bl 2 (pc' := 2) (A' := [jR 7, jI p]) (st' := [jI p, jR 7]) (hp' := hp) rfl ?_
  refine jE_callI (vs := [jR 7, jI p]) (r := []) (nx := 5) (v := jI (jb (decide (0 ≤ p ∧ p < (hp 7 1) * (hp 7 2))))) (hp1 := hp) rfl (c_g_has_7 hp hG p hp32) ?_
  refine jE_ifd_eq rfl (fun c5 => ?_) (fun c5 => ?_)
  · refine jm_Ev.bl 1 (pc' := 18) (A' := [jR 7, jI p]) (st' := [jI (-1)]) (hp' := hp) rfl ?_
    exact jE_ret rfl ⟨jrI (by unfold jgp; first | rw [if_pos c5] | rw [if_neg (by omega)]), rfl⟩
  · refine jm_Ev.bl 3 (pc' := 13) (A' := [jR 7, jI p]) (st' := [jI p, jR 8]) (hp' := hp) rfl ?_
    refine jE_iald (n := 25) (f := hp 8) rfl rfl (by omega) ?_
    refine jm_Ev.bl 1 (pc' := 18) (A' := [jR 7, jI p]) (st' := [jI (hp 8 p)]) (hp' := hp) rfl ?_
    exact jE_ret rfl ⟨jrI (by unfold jgp; first | rw [if_pos c5] | rw [if_neg (by omega)]), rfl⟩
theorem c_g_kindAtCell_7 (hp : jm_H) (hG : jG hp 7 8) (x y : Int) (hx : -100 ≤ x ∧ x ≤ 100) (hy : -100 ≤ y ∧ y ≤ 100) : jm_Ev 31 0 [jR 7, jI x, jI y, jU] [] hp (jK (some (jI (jgk (hp 7 1) (hp 7 2) (hp 8) x y))) hp) := by
  obtain ⟨hw0, hw5, hh0, hh5, hk⟩ := hG
  have hm := jm_mulb hw0 hw5 hh0 hh5
  refine jm_Ev.bl 8 (pc' := 10) (A' := [jR 7, jI x, jI y, jI ((y * (hp 7 1)) + x)]) (st' := [jI x]) (hp' := hp) rfl ?_
  refine jE_if_lt rfl (by omega) (fun c10 => ?_) (fun c10 => ?_)
  · refine jm_Ev.bl 1 (pc' := 49) (A' := [jR 7, jI x, jI y, jI ((y * (hp 7 1)) + x)]) (st' := [jI (-1)]) (hp' := hp) rfl ?_
    exact jE_ret rfl ⟨jrI (by unfold jgk; first | rw [if_pos (by omega)] | rw [if_neg (by omega)]), rfl⟩
  · refine jm_Ev.bl 3 (pc' := 18) (A' := [jR 7, jI x, jI y, jI ((y * (hp 7 1)) + x)]) (st' := [jI (hp 7 1), jI x]) (hp' := hp) rfl ?_
    refine jE_icmp_ge rfl (by omega) (by omega) (fun c18 => ?_) (fun c18 => ?_)
    · refine jm_Ev.bl 1 (pc' := 49) (A' := [jR 7, jI x, jI y, jI ((y * (hp 7 1)) + x)]) (st' := [jI (-1)]) (hp' := hp) rfl ?_
      exact jE_ret rfl ⟨jrI (by unfold jgk; first | rw [if_pos (by omega)] | rw [if_neg (by omega)]), rfl⟩
    · refine jm_Ev.bl 1 (pc' := 22) (A' := [jR 7, jI x, jI y, jI ((y * (hp 7 1)) + x)]) (st' := [jI y]) (hp' := hp) rfl ?_
      refine jE_if_lt rfl (by omega) (fun c22 => ?_) (fun c22 => ?_)
      · refine jm_Ev.bl 1 (pc' := 49) (A' := [jR 7, jI x, jI y, jI ((y * (hp 7 1)) + x)]) (st' := [jI (-1)]) (hp' := hp) rfl ?_
        exact jE_ret rfl ⟨jrI (by unfold jgk; first | rw [if_pos (by omega)] | rw [if_neg (by omega)]), rfl⟩
      · refine jm_Ev.bl 3 (pc' := 30) (A' := [jR 7, jI x, jI y, jI ((y * (hp 7 1)) + x)]) (st' := [jI (hp 7 2), jI y]) (hp' := hp) rfl ?_
        refine jE_icmp_ge rfl (by omega) (by omega) (fun c30 => ?_) (fun c30 => ?_)
        · refine jm_Ev.bl 1 (pc' := 49) (A' := [jR 7, jI x, jI y, jI ((y * (hp 7 1)) + x)]) (st' := [jI (-1)]) (hp' := hp) rfl ?_
          exact jE_ret rfl ⟨jrI (by unfold jgk; first | rw [if_pos (by omega)] | rw [if_neg (by omega)]), rfl⟩
        · have hix := jm_ix c10 c18 c22 c30
          refine jm_Ev.bl 2 (pc' := 36) (A' := [jR 7, jI x, jI y, jI ((y * (hp 7 1)) + x)]) (st' := [jI 25, jI ((y * (hp 7 1)) + x)]) (hp' := hp) rfl ?_
          refine jE_icmp_ge rfl (by omega) (by omega) (fun c36 => ?_) (fun c36 => ?_)
          · exfalso; omega
          · refine jm_Ev.bl 3 (pc' := 44) (A' := [jR 7, jI x, jI y, jI ((y * (hp 7 1)) + x)]) (st' := [jI ((y * (hp 7 1)) + x), jR 8]) (hp' := hp) rfl ?_
            refine jE_iald (n := 25) (f := hp 8) rfl rfl (by omega) ?_
            refine jm_Ev.bl 1 (pc' := 49) (A' := [jR 7, jI x, jI y, jI ((y * (hp 7 1)) + x)]) (st' := [jI (hp 8 ((y * (hp 7 1)) + x))]) (hp' := hp) rfl ?_
            exact jE_ret rfl ⟨jrI (by unfold jgk; first | rw [if_pos (by omega)] | rw [if_neg (by omega)]), rfl⟩
theorem c_g_hasDot_7 (hp : jm_H) (hG : jG hp 7 8) (x y : Int) (hx : -100 ≤ x ∧ x ≤ 100) (hy : -100 ≤ y ∧ y ≤ 100) : jm_Ev 32 0 [jR 7, jI x, jI y] [] hp (jK (some (jI (jb (decide (jgk (hp 7 1) (hp 7 2) (hp 8) x y ≠ -1))))) hp) := by
  have hr := jgk_r hG x y
  refine jm_Ev.bl 3 (pc' := 3) (A' := [jR 7, jI x, jI y]) (st' := [jI y, jI x, jR 7]) (hp' := hp) rfl ?_
  refine jE_callI (vs := [jR 7, jI x, jI y]) (r := []) (nx := 6) (v := jI (jgk (hp 7 1) (hp 7 2) (hp 8) x y)) (hp1 := hp) rfl (c_g_kindAtCell_7 hp hG x y hx hy) ?_
  refine jm_Ev.bl 1 (pc' := 7) (A' := [jR 7, jI x, jI y]) (st' := [jI (-1), jI (jgk (hp 7 1) (hp 7 2) (hp 8) x y)]) (hp' := hp) rfl ?_
  refine jE_icmp_eq rfl (by omega) (by omega) (fun c7 => ?_) (fun c7 => ?_)
  · refine jm_Ev.bl 1 (pc' := 15) (A' := [jR 7, jI x, jI y]) (st' := [jI 0]) (hp' := hp) rfl ?_
    exact jE_ret rfl ⟨jr0 (by omega), rfl⟩
  · refine jm_Ev.bl 2 (pc' := 15) (A' := [jR 7, jI x, jI y]) (st' := [jI 1]) (hp' := hp) rfl ?_
    exact jE_ret rfl ⟨jr1 (by omega), rfl⟩
