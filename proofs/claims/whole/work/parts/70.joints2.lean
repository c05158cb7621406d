/-! the class's Joints: fewest -/
theorem jb_le (b : Bool) : 0 ≤ jb b ∧ jb b ≤ 1 := by cases b <;> decide
theorem jb_n1 {b : Bool} (h : jb b ≠ 1) : jb b = 0 := by cases b; rfl; exact absurd rfl h
theorem jb_1 {b : Bool} (h : jb b = 1) : b = true := by cases b; exact absurd h (by decide); rfl
theorem jb_nt {b : Bool} (h : jb b ≠ 1) : b = false := by cases b; rfl; exact absurd rfl h
theorem jJr_of {g : Int → Int} {K : Int → Int → Int} {q : List jT} (hW : jWy q.length (jpx q) (jpy q) (jpl_ K q) (jpm K q)) (h : ∀ a : Int, 0 ≤ a → a < q.length → g a = jjf q.length (jpx q) (jpy q) (jpl_ K q) (jpm K q) a ((q.length : Int) - 1).toNat) : jJr g q.length (jPP K q) := by
  intro u u0 u1
  have h4 := hW.1
  have h60 := hW.2.1
  rw [h u u0 u1]
  refine ⟨jjf_r _, fun j hj => ?_⟩
  rw [jjf_b (by omega) u0 u1 _ (by omega) j hj]
  by_cases c : (j : Int) < q.length ∧ (j : Int) ≠ u
  · have st := (jwr_stp u0 u1 (show (0 : Int) ≤ j by omega) c.1 (by omega)).2.2
    have e := jPP_ne hW u0 u1 (show (0 : Int) ≤ j by omega) c.1 (Ne.symm c.2)
    rw [decide_eq_true (⟨c.1, c.2, by omega⟩ : (j : Int) < q.length ∧ (j : Int) ≠ u ∧ _), Bool.true_and]
    rw [Bool.eq_iff_iff, decide_eq_true_eq, ← e]
    exact ⟨fun z => ⟨c.1, z⟩, fun z => z.2⟩
  · rw [decide_eq_false (fun z => c ⟨z.1, z.2.1⟩), Bool.false_and, decide_eq_false]
    intro z
    by_cases e : (j : Int) = u
    · exact z.2 (by unfold jPP; rw [if_pos e.symm])
    · exact c ⟨z.1, e⟩
def jlo (P : Int → Int → Int) (f : Int) : Nat → Int
  | 0 => 0
  | k + 1 => if P (f + 1 + (k : Int)) f ≠ -1 then (Int64.ofInt (jlo P f k) ||| Int64.ofInt ((Int64.ofInt 1 <<< ((Int32.ofInt (f + 1 + (k : Int))).toInt64 &&& 63)).toInt)).toInt else jlo P f k
theorem jlo_s {P : Int → Int → Int} {f u : Int} (h : f + 1 ≤ u) : jlo P f (u + 1 - (f + 1)).toNat = if P u f ≠ -1 then (Int64.ofInt (jlo P f (u - (f + 1)).toNat) ||| Int64.ofInt ((Int64.ofInt 1 <<< ((Int32.ofInt u).toInt64 &&& 63)).toInt)).toInt else jlo P f (u - (f + 1)).toNat := by
  have e : (u + 1 - (f + 1)).toNat = (u - (f + 1)).toNat + 1 := by omega
  have e2 : f + 1 + (((u - (f + 1)).toNat : Nat) : Int) = u := by omega
  rw [e]
  conv => lhs; unfold jlo
  rw [e2]
theorem jlo_r {P : Int → Int → Int} {f : Int} (n : Nat) : jR64 (jlo P f n) := by
  induction n with
  | zero => unfold jlo; exact ⟨by omega, by omega⟩
  | succ n ih =>
    unfold jlo
    split
    · exact jI64_r _
    · exact ih
theorem jlo_b {P : Int → Int → Int} {f : Int} (f0 : 0 ≤ f) (k : Nat) (hk : f + 1 + (k : Int) ≤ 60) (j : Nat) (hj : j < 64) : jlb (jlo P f k) j = decide (f < (j : Int) ∧ (j : Int) < f + 1 + (k : Int) ∧ P j f ≠ -1) := by
  induction k with
  | zero =>
    unfold jlo
    rw [jlb_z, decide_eq_false (fun z => by omega)]
  | succ k ih =>
    have ih := ih (by omega)
    unfold jlo
    by_cases e : (j : Int) = f + 1 + (k : Int)
    · rw [decide_eq_false (fun z => by omega)] at ih
      split
      · rename_i h
        rw [jlb_or, ih, jlb_one (by omega) (by omega) j hj, decide_eq_true e, Bool.false_or, decide_eq_true ⟨by omega, by omega, by rw [e]; exact h⟩]
      · rename_i h
        rw [ih, decide_eq_false (fun z => h (by rw [← e]; exact z.2.2))]
    · have e3 : decide (f < (j : Int) ∧ (j : Int) < f + 1 + ((k + 1 : Nat) : Int) ∧ P j f ≠ -1) = decide (f < (j : Int) ∧ (j : Int) < f + 1 + (k : Int) ∧ P j f ≠ -1) := decide_eq_decide.mpr ⟨fun z => ⟨z.1, by omega, z.2.2⟩, fun z => ⟨z.1, by omega, z.2.2⟩⟩
      rw [e3, ← ih]
      split
      · rw [jlb_or, jlb_one (by omega) (by omega) j hj, decide_eq_false e, Bool.or_false]
      · rfl
/-- one step of all that are reached -/
def jnt (g : Int → Int) (r f : Int) : Nat → Int
  | 0 => 0
  | k + 1 => if jlb r (f + (k : Int)).toNat = true then (Int64.ofInt (jnt g r f k) ||| Int64.ofInt ((Int64.ofInt (g (f + (k : Int))) &&& Int64.ofInt ((Int64.ofInt (-2) <<< ((Int32.ofInt (f + (k : Int))).toInt64 &&& 63)).toInt)).toInt)).toInt else jnt g r f k
theorem jnt_s {g : Int → Int} {r f u : Int} (h : f ≤ u) : jnt g r f (u + 1 - f).toNat = if jlb r u.toNat = true then (Int64.ofInt (jnt g r f (u - f).toNat) ||| Int64.ofInt ((Int64.ofInt (g u) &&& Int64.ofInt ((Int64.ofInt (-2) <<< ((Int32.ofInt u).toInt64 &&& 63)).toInt)).toInt)).toInt else jnt g r f (u - f).toNat := by
  have e : (u + 1 - f).toNat = (u - f).toNat + 1 := by omega
  have e2 : f + (((u - f).toNat : Nat) : Int) = u := by omega
  rw [e]
  conv => lhs; unfold jnt
  rw [e2]
theorem jnt_r {g : Int → Int} {r f : Int} (n : Nat) : jR64 (jnt g r f n) := by
  induction n with
  | zero => unfold jnt; exact ⟨by omega, by omega⟩
  | succ n ih =>
    unfold jnt
    split
    · exact jI64_r _
    · exact ih
theorem jnt_b {g : Int → Int} {N : Int} {P : Int → Int → Int} (hJ : jJr g N P) (hN : N ≤ 60) {r f : Int} (f0 : 0 ≤ f) (k : Nat) (hk : f + (k : Int) ≤ N) (j : Nat) (hj : j < 64) : jlb (jnt g r f k) j = true ↔ ∃ u, f ≤ u ∧ u < f + (k : Int) ∧ jlb r u.toNat = true ∧ u < (j : Int) ∧ (j : Int) < N ∧ P u j ≠ -1 := by
  induction k with
  | zero =>
    unfold jnt
    rw [jlb_z]
    exact ⟨fun z => (by cases z), fun ⟨u, a, b, _⟩ => (by omega)⟩
  | succ k ih =>
    have ih := ih (by omega)
    unfold jnt
    have hg := (hJ (f + (k : Int)) (by omega) (by omega)).2 j hj
    split
    · rename_i h
      rw [jlb_or, Bool.or_eq_true, ih, jlb_and, hg, jlb_gt (by omega) (by omega) j hj, Bool.and_eq_true, decide_eq_true_eq, decide_eq_true_eq]
      constructor
      · intro z
        rcases z with ⟨u, a, b, c, d⟩ | ⟨⟨a, b⟩, c⟩
        · exact ⟨u, a, by omega, c, d⟩
        · exact ⟨f + (k : Int), by omega, by omega, h, c, a, b⟩
      · intro ⟨u, a, b, c, d, e, e2⟩
        by_cases q : u = f + (k : Int)
        · subst q; exact Or.inr ⟨⟨e, e2⟩, d⟩
        · exact Or.inl ⟨u, a, by omega, c, d, e, e2⟩
    · rename_i h
      rw [ih]
      constructor
      · intro ⟨u, a, b, c⟩; exact ⟨u, a, by omega, c⟩
      · intro ⟨u, a, b, c, d⟩
        by_cases q : u = f + (k : Int)
        · subst q; exact absurd c h
        · exact ⟨u, a, by omega, c, d⟩
def jrc (g : Int → Int) (N f : Int) : Nat → Int
  | 0 => (Int64.ofInt 1 <<< ((Int32.ofInt f).toInt64 &&& 63)).toInt
  | n + 1 => jnt g (jrc g N f n) f (N - f).toNat
theorem jrc_r {g : Int → Int} {N f : Int} (n : Nat) : jR64 (jrc g N f n) := by
  cases n with
  | zero => unfold jrc; exact jI64_r _
  | succ n => unfold jrc; exact jnt_r _
theorem jrc_b {g : Int → Int} {N : Int} {P : Int → Int → Int} (hJ : jJr g N P) (hP : jPw N P) {f : Int} (f0 : 0 ≤ f) (f1 : f < N) : ∀ (n : Nat), n ≤ 100 → ∀ (j : Nat), j < 64 → jlb (jrc g N f n) j = decide ((j : Int) < N ∧ jdp P f n j ≠ -1) := by
  intro n
  have hN := hP.2.1
  induction n with
  | zero =>
    intro _ j hj
    unfold jrc jdp
    rw [jlb_one f0 (by omega) j hj]
    by_cases e : (j : Int) = f
    · rw [decide_eq_true e, if_pos e, decide_eq_true ⟨by omega, by decide⟩]
    · rw [decide_eq_false e, if_neg e, decide_eq_false (fun z => z.2 rfl)]
  | succ n ih =>
    intro hn j hj
    have ih := ih (by omega)
    rw [Bool.eq_iff_iff, decide_eq_true_eq]
    show jlb (jnt g (jrc g N f n) f (N - f).toNat) j = true ↔ _
    rw [jnt_b hJ hN f0 _ (by omega) j hj]
    constructor
    · intro ⟨u, a, b, c, d, e, e2⟩
      refine ⟨e, (jdp_ne hP f0 f1 (by omega) (by omega) e).mpr ⟨u, a, d, ?_, e2⟩⟩
      rw [ih u.toNat (by omega), decide_eq_true_eq, show ((u.toNat : Nat) : Int) = u by omega] at c
      exact c.2
    · intro ⟨e, z⟩
      obtain ⟨u, a, b, c, d⟩ := (jdp_ne hP f0 f1 (by omega) (by omega) e).mp z
      refine ⟨u, a, by omega, ?_, b, e, d⟩
      rw [ih u.toNat (by omega), show ((u.toNat : Nat) : Int) = u by omega]
      exact decide_eq_true ⟨by omega, c⟩
theorem jclosed {g : Int → Int} {N : Int} {P : Int → Int → Int} (hJ : jJr g N P) (hP : jPw N P) {f : Int} (f0 : 0 ≤ f) (f1 : f < N) {n : Nat} (n1 : 1 ≤ n) (hn : n ≤ 100) : (Int64.ofInt (jrc g N f (n - 1)) &&& Int64.ofInt (jlo P f (N - (f + 1)).toNat)).toInt = 0 ↔ (jdc N P f n).1 = -1 := by
  have hN := hP.2.1
  rw [jlb_0 (jI64_r _)]
  have key := jdc_ne hP f0 f1 hn
  constructor
  · intro h
    by_cases q : (jdc N P f n).1 = -1
    · exact q
    · obtain ⟨u, a, b, c, d⟩ := key.mp q
      have z := h u.toNat (by omega)
      rw [jlb_and, jrc_b hJ hP f0 f1 (n - 1) (by omega) u.toNat (by omega), jlo_b f0 _ (by omega) u.toNat (by omega), show ((u.toNat : Nat) : Int) = u by omega, decide_eq_true ⟨b, c⟩, decide_eq_true ⟨a, by omega, d⟩] at z
      cases z
  · intro h j hj
    rw [jlb_and, jrc_b hJ hP f0 f1 (n - 1) (by omega) j hj, jlo_b f0 _ (by omega) j hj]
    by_cases q : ((j : Int) < N ∧ jdp P f (n - 1) j ≠ -1) ∧ (f < (j : Int) ∧ P j f ≠ -1)
    · exact absurd h (key.mpr ⟨j, q.2.1, q.1.1, q.1.2, q.2.2⟩)
    · by_cases q1 : (j : Int) < N ∧ jdp P f (n - 1) j ≠ -1
      · rw [decide_eq_false (p := f < (j : Int) ∧ _) (fun z => q ⟨q1, z.1, z.2.2⟩), Bool.and_false]
      · rw [decide_eq_false q1, Bool.false_and]
theorem jlast0 {N : Int} {P : Int → Int → Int} (hP : jPw N P) {f : Int} (f0 : 0 ≤ f) (f1 : f < N) (h : jlo P f (N - (f + 1)).toNat = 0) (n : Nat) (hn : n ≤ 100) : (jdc N P f n).1 = -1 := by
  have hN := hP.2.1
  by_cases q : (jdc N P f n).1 = -1
  · exact q
  · obtain ⟨u, a, b, c, d⟩ := (jdc_ne hP f0 f1 hn).mp q
    have z := (jlb_0 (jlo_r _)).mp h u.toNat (by omega)
    rw [jlo_b f0 _ (by omega) u.toNat (by omega), show ((u.toNat : Nat) : Int) = u by omega, decide_eq_true ⟨a, by omega, d⟩] at z
    cases z
theorem jfind_none {p : Nat → Bool} : ∀ (k s : Nat), (∀ m, s ≤ m → m < s + k → p m = false) → jfind p k s = s + k := by
  intro k
  induction k with
  | zero => intro s _; rfl
  | succ k ih =>
    intro s h
    unfold jfind
    rw [if_neg (by rw [h s (by omega) (by omega)]; decide), ih (s + 1) (fun m a b => h m (by omega) (by omega))]
    omega
/-- the fewest from one first, if fewer than so far -/
def jff (N : Int) (P : Int → Int → Int) (f : Int) (l : Int) : Int := (jfind (fun n => decide ((jdc N P f n).1 ≠ -1)) (l - 3).toNat 3 : Nat)
theorem c_j_are_31 (hp : jm_H) (N : Int) (P : Int → Int → Int) (hJ : jJr (hp 32) N P) (hN : N ≤ 60) (u v : Int) (hu : 0 ≤ u ∧ u < N) (hv : 0 ≤ v ∧ v < N) : jm_Ev 43 0 [jR 31, jI u, jI v] [] hp (jK (some (jI (jb (decide (P u v ≠ -1))))) hp) := by
  have hb := (hJ u hu.1 hu.2).2 v.toNat (by omega)
  rw [show ((v.toNat : Nat) : Int) = v by omega, show decide (v < N ∧ P u v ≠ -1) = decide (P u v ≠ -1) from decide_eq_decide.mpr ⟨fun z => z.2, fun z => ⟨hv.2, z⟩⟩] at hb
  refine jm_Ev.bl 1 (pc' := 1) (A' := [jR 31, jI u, jI v]) (st' := [jI u]) (hp' := hp) rfl ?_
  refine jE_if_lt rfl (by omega) (fun c1 => ?_) (fun c1 => ?_)
  · omega
  · refine jm_Ev.bl 2 (pc' := 7) (A' := [jR 31, jI u, jI v]) (st' := [jI 60, jI u]) (hp' := hp) rfl ?_
    refine jE_icmp_ge rfl (by omega) (by omega) (fun c7 => ?_) (fun c7 => ?_)
    · omega
    · refine jm_Ev.bl 3 (pc' := 15) (A' := [jR 31, jI u, jI v]) (st' := [jI u, jR 32]) (hp' := hp) rfl ?_
      refine jE_lald (n := 60) (f := hp 32) rfl rfl (by omega) ?_
      refine jm_Ev.bl 4 (pc' := 20) (A' := [jR 31, jI u, jI v]) (st' := [jL ((Int64.ofInt (((Int64.ofInt (hp 32 u)).toUInt64 >>> ((Int32.ofInt v).toInt64.toUInt64 &&& Int64.toUInt64 63)).toInt64.toInt) &&& Int64.ofInt 1).toInt)]) (hp' := hp) rfl ?_
      rw [jlb_tst (hp 32 u) (by omega) (by omega)]
      have hjb := jb_le (jlb (hp 32 u) v.toNat)
      refine jm_Ev.bl 1 (pc' := 21) (A' := [jR 31, jI u, jI v]) (st' := [jL 1, jL (jb (jlb (hp 32 u) v.toNat))]) (hp' := hp) rfl ?_
      refine jE_lcmp rfl (by omega) (by omega) ?_
      refine jE_lc_ne rfl (fun c22 => ?_) (fun c22 => ?_)
      · refine jm_Ev.bl 1 (pc' := 30) (A' := [jR 31, jI u, jI v]) (st' := [jI 0]) (hp' := hp) rfl ?_
        exact jE_ret rfl ⟨jrI (by rw [← hb]; exact (jb_n1 c22).symm), rfl⟩
      · refine jm_Ev.bl 2 (pc' := 30) (A' := [jR 31, jI u, jI v]) (st' := [jI 1]) (hp' := hp) rfl ?_
        exact jE_ret rfl ⟨jrI (by rw [← hb]; exact c22.symm), rfl⟩
theorem c_j_frm_31 (hp : jm_H) (u : Int) (hu : 0 ≤ u ∧ u < 60) : jm_Ev 42 0 [jR 31, jI u] [] hp (jK (some (jL (hp 32 u))) hp) := by
  refine jm_Ev.bl 1 (pc' := 1) (A' := [jR 31, jI u]) (st' := [jI u]) (hp' := hp) rfl ?_
  refine jE_if_lt rfl (by omega) (fun c1 => ?_) (fun c1 => ?_)
  · omega
  · refine jm_Ev.bl 2 (pc' := 7) (A' := [jR 31, jI u]) (st' := [jI 60, jI u]) (hp' := hp) rfl ?_
    refine jE_icmp_ge rfl (by omega) (by omega) (fun c7 => ?_) (fun c7 => ?_)
    · omega
    · refine jm_Ev.bl 3 (pc' := 15) (A' := [jR 31, jI u]) (st' := [jI u, jR 32]) (hp' := hp) rfl ?_
      refine jE_lald (n := 60) (f := hp 32) rfl rfl (by omega) ?_
      refine jm_Ev.bl 1 (pc' := 20) (A' := [jR 31, jI u]) (st' := [jL (hp 32 u)]) (hp' := hp) rfl ?_
      exact jE_ret rfl ⟨rfl, rfl⟩
theorem c_j_last_L_31 (hp : jm_H) (N : Int) (P : Int → Int → Int) (hJ : jJr (hp 32) N P) (hN : N ≤ 60) (eL : hp 31 3 = N) (f : Int) (hf : 0 ≤ f ∧ f < N) : ∀ (m : Nat) (u : Int), f + 1 ≤ u → u ≤ N → N - u < m → jm_Ev 44 7 [jR 31, jI f, jL (jlo P f (u - (f + 1)).toNat), jU, jI u] [] hp (jK (some (jL (jlo P f (N - (f + 1)).toNat))) hp) := by
  intro n
  induction n with
  | zero => intro u h0 h1 hm; omega
  | succ n ih =>
    intro u h0 h1 hm
    refine jm_Ev.bl 3 (pc' := 13) (A' := [jR 31, jI f, jL (jlo P f (u - (f + 1)).toNat), jU, jI u]) (st' := [jI (hp 31 3), jI u]) (hp' := hp) rfl ?_
    rw [eL]
    refine jE_icmp_ge rfl (by omega) (by omega) (fun c13 => ?_) (fun c13 => ?_)
    · refine jm_Ev.bl 1 (pc' := 40) (A' := [jR 31, jI f, jL (jlo P f (u - (f + 1)).toNat), jU, jI u]) (st' := [jL (jlo P f (u - (f + 1)).toNat)]) (hp' := hp) rfl ?_
      exact jE_ret rfl ⟨jrL (by rw [show u = N by omega]), rfl⟩
    · refine jm_Ev.bl 3 (pc' := 20) (A' := [jR 31, jI f, jL (jlo P f (u - (f + 1)).toNat), jU, jI u]) (st' := [jI f, jI u, jR 31]) (hp' := hp) rfl ?_
      refine jE_callI (vs := [jR 31, jI u, jI f]) (r := []) (nx := 23) (v := jI (jb (decide (P u f ≠ -1)))) (hp1 := hp) rfl (c_j_are_31 hp N P hJ hN u f (by omega) (by omega)) ?_
      refine jE_ifd_eq rfl (fun c23 => ?_) (fun c23 => ?_)
      · rw [show (jlo P f (u - (f + 1)).toNat) = jlo P f (u + 1 - (f + 1)).toNat by rw [jlo_s (by omega), if_neg c23]]
        refine jm_Ev.bl 2 (pc' := 7) (A' := [jR 31, jI f, jL (jlo P f (u + 1 - (f + 1)).toNat), jU, jI (u + 1)]) (st' := []) (hp' := hp) rfl ?_
        exact ih (u + 1) (by omega) (by omega) (by omega)
      · refine jm_Ev.bl 6 (pc' := 33) (A' := [jR 31, jI f, jL ((Int64.ofInt (jlo P f (u - (f + 1)).toNat) ||| Int64.ofInt ((Int64.ofInt 1 <<< ((Int32.ofInt u).toInt64 &&& 63)).toInt)).toInt), jU, jI u]) (st' := []) (hp' := hp) rfl ?_
        rw [show (Int64.ofInt (jlo P f (u - (f + 1)).toNat) ||| Int64.ofInt ((Int64.ofInt 1 <<< ((Int32.ofInt u).toInt64 &&& 63)).toInt)).toInt = jlo P f (u + 1 - (f + 1)).toNat by rw [jlo_s (by omega), if_pos c23]]
        refine jm_Ev.bl 2 (pc' := 7) (A' := [jR 31, jI f, jL (jlo P f (u + 1 - (f + 1)).toNat), jU, jI (u + 1)]) (st' := []) (hp' := hp) rfl ?_
        exact ih (u + 1) (by omega) (by omega) (by omega)
theorem c_j_lastOnes_31 (hp : jm_H) (N : Int) (P : Int → Int → Int) (hJ : jJr (hp 32) N P) (hN : N ≤ 60) (eL : hp 31 3 = N) (f : Int) (hf : 0 ≤ f ∧ f < N) : jm_Ev 44 0 [jR 31, jI f, jU, jU, jU] [] hp (jK (some (jL (jlo P f (N - (f + 1)).toNat))) hp) := by
  refine jm_Ev.bl 6 (pc' := 7) (A' := [jR 31, jI f, jL 0, jU, jI (f + 1)]) (st' := []) (hp' := hp) rfl ?_
  have z := c_j_last_L_31 hp N P hJ hN eL f hf 61 (f + 1) (by omega) (by omega) (by omega)
  rw [show (f + 1 - (f + 1)).toNat = 0 by omega] at z
  exact z
theorem c_j_next_L_31 (hp : jm_H) (N : Int) (hN : N ≤ 60) (eL : hp 31 3 = N) (r f : Int) (hf : 0 ≤ f ∧ f < N) : ∀ (m : Nat) (u : Int), f ≤ u → u ≤ N → N - u < m → jm_Ev 47 6 [jR 31, jL r, jU, jI f, jL (jnt (hp 32) r f (u - f).toNat), jU, jI u] [] hp (jK (some (jL (jnt (hp 32) r f (N - f).toNat))) hp) := by
  intro n
  induction n with
  | zero => intro u h0 h1 hm; omega
  | succ n ih =>
    intro u h0 h1 hm
    refine jm_Ev.bl 3 (pc' := 12) (A' := [jR 31, jL r, jU, jI f, jL (jnt (hp 32) r f (u - f).toNat), jU, jI u]) (st' := [jI (hp 31 3), jI u]) (hp' := hp) rfl ?_
    rw [eL]
    refine jE_icmp_ge rfl (by omega) (by omega) (fun c12 => ?_) (fun c12 => ?_)
    · refine jm_Ev.bl 1 (pc' := 52) (A' := [jR 31, jL r, jU, jI f, jL (jnt (hp 32) r f (u - f).toNat), jU, jI u]) (st' := [jL (jnt (hp 32) r f (u - f).toNat)]) (hp' := hp) rfl ?_
      exact jE_ret rfl ⟨jrL (by rw [show u = N by omega]), rfl⟩
    · refine jm_Ev.bl 5 (pc' := 21) (A' := [jR 31, jL r, jU, jI f, jL (jnt (hp 32) r f (u - f).toNat), jU, jI u]) (st' := [jL ((Int64.ofInt (((Int64.ofInt r).toUInt64 >>> ((Int32.ofInt u).toInt64.toUInt64 &&& Int64.toUInt64 63)).toInt64.toInt) &&& Int64.ofInt 1).toInt)]) (hp' := hp) rfl ?_
      rw [jlb_tst r (by omega) (by omega)]
      have hjb := jb_le (jlb r u.toNat)
      refine jm_Ev.bl 1 (pc' := 22) (A' := [jR 31, jL r, jU, jI f, jL (jnt (hp 32) r f (u - f).toNat), jU, jI u]) (st' := [jL 1, jL (jb (jlb r u.toNat))]) (hp' := hp) rfl ?_
      refine jE_lcmp rfl (by omega) (by omega) ?_
      refine jE_lc_ne rfl (fun c23 => ?_) (fun c23 => ?_)
      · rw [show (jnt (hp 32) r f (u - f).toNat) = jnt (hp 32) r f (u + 1 - f).toNat by rw [jnt_s (by omega), if_neg (by rw [jb_nt c23]; decide)]]
        refine jm_Ev.bl 2 (pc' := 6) (A' := [jR 31, jL r, jU, jI f, jL (jnt (hp 32) r f (u + 1 - f).toNat), jU, jI (u + 1)]) (st' := []) (hp' := hp) rfl ?_
        exact ih (u + 1) (by omega) (by omega) (by omega)
      · refine jm_Ev.bl 3 (pc' := 31) (A' := [jR 31, jL r, jU, jI f, jL (jnt (hp 32) r f (u - f).toNat), jU, jI u]) (st' := [jI u, jR 31, jL (jnt (hp 32) r f (u - f).toNat)]) (hp' := hp) rfl ?_
        refine jE_callI (vs := [jR 31, jI u]) (r := [jL (jnt (hp 32) r f (u - f).toNat)]) (nx := 34) (v := jL (hp 32 u)) (hp1 := hp) rfl (c_j_frm_31 hp u (by omega)) ?_
        refine jm_Ev.bl 6 (pc' := 44) (A' := [jR 31, jL r, jU, jI f, jL ((Int64.ofInt (jnt (hp 32) r f (u - f).toNat) ||| Int64.ofInt ((Int64.ofInt (hp 32 u) &&& Int64.ofInt ((Int64.ofInt (-2) <<< ((Int32.ofInt u).toInt64 &&& 63)).toInt)).toInt)).toInt), jU, jI u]) (st' := []) (hp' := hp) rfl ?_
        rw [show (Int64.ofInt (jnt (hp 32) r f (u - f).toNat) ||| Int64.ofInt ((Int64.ofInt (hp 32 u) &&& Int64.ofInt ((Int64.ofInt (-2) <<< ((Int32.ofInt u).toInt64 &&& 63)).toInt)).toInt)).toInt = jnt (hp 32) r f (u + 1 - f).toNat by rw [jnt_s (by omega), if_pos (jb_1 c23)]]
        refine jm_Ev.bl 2 (pc' := 6) (A' := [jR 31, jL r, jU, jI f, jL (jnt (hp 32) r f (u + 1 - f).toNat), jU, jI (u + 1)]) (st' := []) (hp' := hp) rfl ?_
        exact ih (u + 1) (by omega) (by omega) (by omega)
theorem c_j_next_31 (hp : jm_H) (N : Int) (hN : N ≤ 60) (eL : hp 31 3 = N) (r f : Int) (hf : 0 ≤ f ∧ f < N) : jm_Ev 47 0 [jR 31, jL r, jU, jI f, jU, jU, jU] [] hp (jK (some (jL (jnt (hp 32) r f (N - f).toNat))) hp) := by
  refine jm_Ev.bl 4 (pc' := 6) (A' := [jR 31, jL r, jU, jI f, jL 0, jU, jI f]) (st' := []) (hp' := hp) rfl ?_
  have z := c_j_next_L_31 hp N hN eL r f hf 61 f (by omega) (by omega) (by omega)
  rw [show (f - f).toNat = 0 by omega] at z
  exact z
theorem c_j_few_L_31 (hp : jm_H) (N : Int) (P : Int → Int → Int) (hJ : jJr (hp 32) N P) (hN : N ≤ 60) (hP : jPw N P) (eL : hp 31 3 = N) (f : Int) (hf : 0 ≤ f ∧ f < N) (l : Int) (hl : 3 ≤ l ∧ l ≤ N) : ∀ (k : Nat) (n : Int), 1 ≤ n → n ≤ l → (∀ m, 3 ≤ m → m < n.toNat → (jdc N P f m).1 = -1) → l - n < k → jm_Ev 46 8 [jR 31, jI f, jL (jlo P f (N - (f + 1)).toNat), jU, jI l, jL (jrc (hp 32) N f (n - 1).toNat), jU, jI n] [] hp (jK (some (jI (jff N P f l))) hp) := by
  intro n
  induction n with
  | zero => intro n h0 h1 hno hm; omega
  | succ n ih =>
    intro n h0 h1 hno hm
    refine jm_Ev.bl 2 (pc' := 12) (A' := [jR 31, jI f, jL (jlo P f (N - (f + 1)).toNat), jU, jI l, jL (jrc (hp 32) N f (n - 1).toNat), jU, jI n]) (st' := [jI l, jI n]) (hp' := hp) rfl ?_
    refine jE_icmp_ge rfl (by omega) (by omega) (fun c12 => ?_) (fun c12 => ?_)
    · refine jm_Ev.bl 1 (pc' := 50) (A' := [jR 31, jI f, jL (jlo P f (N - (f + 1)).toNat), jU, jI l, jL (jrc (hp 32) N f (n - 1).toNat), jU, jI n]) (st' := [jI l]) (hp' := hp) rfl ?_
      have z := jfind_none (p := fun n => decide ((jdc N P f n).1 ≠ -1)) (l - 3).toNat 3 (fun m a b => decide_eq_false (fun q => q (hno m a (by omega))))
      exact jE_ret rfl ⟨jrI (by unfold jff; rw [z]; omega), rfl⟩
    · refine jm_Ev.bl 2 (pc' := 18) (A' := [jR 31, jI f, jL (jlo P f (N - (f + 1)).toNat), jU, jI l, jL (jrc (hp 32) N f (n - 1).toNat), jU, jI n]) (st' := [jI 3, jI n]) (hp' := hp) rfl ?_
      refine jE_icmp_lt rfl (by omega) (by omega) (fun c18 => ?_) (fun c18 => ?_)
      · refine jm_Ev.bl 3 (pc' := 37) (A' := [jR 31, jI f, jL (jlo P f (N - (f + 1)).toNat), jU, jI l, jL (jrc (hp 32) N f (n - 1).toNat), jU, jI n]) (st' := [jI f, jL (jrc (hp 32) N f (n - 1).toNat), jR 31]) (hp' := hp) rfl ?_
        have ern : jnt (hp 32) (jrc (hp 32) N f (n - 1).toNat) f (N - f).toNat = jrc (hp 32) N f (n + 1 - 1).toNat := by
          rw [show (n + 1 - 1).toNat = (n - 1).toNat + 1 by omega]; rfl
        refine jE_callI (vs := [jR 31, jL (jrc (hp 32) N f (n - 1).toNat), jI f]) (r := []) (nx := 40) (v := jL (jrc (hp 32) N f (n + 1 - 1).toNat)) (hp1 := hp) rfl (ern ▸ c_j_next_31 hp N hN eL (jrc (hp 32) N f (n - 1).toNat) f hf) ?_
        refine jm_Ev.bl 3 (pc' := 8) (A' := [jR 31, jI f, jL (jlo P f (N - (f + 1)).toNat), jU, jI l, jL (jrc (hp 32) N f (n + 1 - 1).toNat), jU, jI (n + 1)]) (st' := []) (hp' := hp) rfl ?_
        exact ih (n + 1) (by omega) (by omega) (fun m a b => by omega) (by omega)
      · refine jm_Ev.bl 4 (pc' := 26) (A' := [jR 31, jI f, jL (jlo P f (N - (f + 1)).toNat), jU, jI l, jL (jrc (hp 32) N f (n - 1).toNat), jU, jI n]) (st' := [jL 0, jL ((Int64.ofInt (jrc (hp 32) N f (n - 1).toNat) &&& Int64.ofInt (jlo P f (N - (f + 1)).toNat)).toInt)]) (hp' := hp) rfl ?_
        have hcl := jclosed hJ hP hf.1 hf.2 (n := n.toNat) (by omega) (by omega)
        rw [show n.toNat - 1 = (n - 1).toNat by omega] at hcl
        have r64 := jI64_r (Int64.ofInt (jrc (hp 32) N f (n - 1).toNat) &&& Int64.ofInt (jlo P f (N - (f + 1)).toNat))
        refine jE_lcmp rfl (by omega) (by omega) ?_
        refine jE_lc_eq rfl (fun c27 => ?_) (fun c27 => ?_)
        · refine jm_Ev.bl 3 (pc' := 37) (A' := [jR 31, jI f, jL (jlo P f (N - (f + 1)).toNat), jU, jI l, jL (jrc (hp 32) N f (n - 1).toNat), jU, jI n]) (st' := [jI f, jL (jrc (hp 32) N f (n - 1).toNat), jR 31]) (hp' := hp) rfl ?_
          have ern : jnt (hp 32) (jrc (hp 32) N f (n - 1).toNat) f (N - f).toNat = jrc (hp 32) N f (n + 1 - 1).toNat := by
            rw [show (n + 1 - 1).toNat = (n - 1).toNat + 1 by omega]; rfl
          refine jE_callI (vs := [jR 31, jL (jrc (hp 32) N f (n - 1).toNat), jI f]) (r := []) (nx := 40) (v := jL (jrc (hp 32) N f (n + 1 - 1).toNat)) (hp1 := hp) rfl (ern ▸ c_j_next_31 hp N hN eL (jrc (hp 32) N f (n - 1).toNat) f hf) ?_
          refine jm_Ev.bl 3 (pc' := 8) (A' := [jR 31, jI f, jL (jlo P f (N - (f + 1)).toNat), jU, jI l, jL (jrc (hp 32) N f (n + 1 - 1).toNat), jU, jI (n + 1)]) (st' := []) (hp' := hp) rfl ?_
          exact ih (n + 1) (by omega) (by omega) (fun m a b => by by_cases q : m = n.toNat; exact (by rw [q]; exact hcl.mp c27); exact hno m a (by omega)) (by omega)
        · refine jm_Ev.bl 1 (pc' := 32) (A' := [jR 31, jI f, jL (jlo P f (N - (f + 1)).toNat), jU, jI l, jL (jrc (hp 32) N f (n - 1).toNat), jU, jI n]) (st' := [jI n]) (hp' := hp) rfl ?_
          have z := jfind_eq (p := fun n => decide ((jdc N P f n).1 ≠ -1)) (n := n.toNat) (decide_eq_true (fun q => c27 (hcl.mpr q))) (l - 3).toNat 3 (by omega) (by omega) (fun m a b => decide_eq_false (fun q => q (hno m a b)))
          exact jE_ret rfl ⟨jrI (by unfold jff; rw [z]; omega), rfl⟩
theorem c_j_fewestFrom_31 (hp : jm_H) (N : Int) (P : Int → Int → Int) (hJ : jJr (hp 32) N P) (hN : N ≤ 60) (hP : jPw N P) (eL : hp 31 3 = N) (f : Int) (hf : 0 ≤ f ∧ f < N) (l : Int) (hl : 3 ≤ l ∧ l ≤ N) : jm_Ev 46 0 [jR 31, jI f, jL (jlo P f (N - (f + 1)).toNat), jU, jI l, jU, jU, jU] [] hp (jK (some (jI (jff N P f l))) hp) := by
  refine jm_Ev.bl 6 (pc' := 8) (A' := [jR 31, jI f, jL (jlo P f (N - (f + 1)).toNat), jU, jI l, jL ((Int64.ofInt 1 <<< ((Int32.ofInt f).toInt64 &&& 63)).toInt), jU, jI 1]) (st' := []) (hp' := hp) rfl ?_
  exact c_j_few_L_31 hp N P hJ hN hP eL f hf l hl 61 1 (by omega) (by omega) (fun m a b => by omega) (by omega)
theorem c_j_are_54 (hp : jm_H) (N : Int) (P : Int → Int → Int) (hJ : jJr (hp 55) N P) (hN : N ≤ 60) (u v : Int) (hu : 0 ≤ u ∧ u < N) (hv : 0 ≤ v ∧ v < N) : jm_Ev 43 0 [jR 54, jI u, jI v] [] hp (jK (some (jI (jb (decide (P u v ≠ -1))))) hp) := by
  have hb := (hJ u hu.1 hu.2).2 v.toNat (by omega)
  rw [show ((v.toNat : Nat) : Int) = v by omega, show decide (v < N ∧ P u v ≠ -1) = decide (P u v ≠ -1) from decide_eq_decide.mpr ⟨fun z => z.2, fun z => ⟨hv.2, z⟩⟩] at hb
  refine jm_Ev.bl 1 (pc' := 1) (A' := [jR 54, jI u, jI v]) (st' := [jI u]) (hp' := hp) rfl ?_
  refine jE_if_lt rfl (by omega) (fun c1 => ?_) (fun c1 => ?_)
  · omega
  · refine jm_Ev.bl 2 (pc' := 7) (A' := [jR 54, jI u, jI v]) (st' := [jI 60, jI u]) (hp' := hp) rfl ?_
    refine jE_icmp_ge rfl (by omega) (by omega) (fun c7 => ?_) (fun c7 => ?_)
    · omega
    · refine jm_Ev.bl 3 (pc' := 15) (A' := [jR 54, jI u, jI v]) (st' := [jI u, jR 55]) (hp' := hp) rfl ?_
      refine jE_lald (n := 60) (f := hp 55) rfl rfl (by omega) ?_
      refine jm_Ev.bl 4 (pc' := 20) (A' := [jR 54, jI u, jI v]) (st' := [jL ((Int64.ofInt (((Int64.ofInt (hp 55 u)).toUInt64 >>> ((Int32.ofInt v).toInt64.toUInt64 &&& Int64.toUInt64 63)).toInt64.toInt) &&& Int64.ofInt 1).toInt)]) (hp' := hp) rfl ?_
      rw [jlb_tst (hp 55 u) (by omega) (by omega)]
      have hjb := jb_le (jlb (hp 55 u) v.toNat)
      refine jm_Ev.bl 1 (pc' := 21) (A' := [jR 54, jI u, jI v]) (st' := [jL 1, jL (jb (jlb (hp 55 u) v.toNat))]) (hp' := hp) rfl ?_
      refine jE_lcmp rfl (by omega) (by omega) ?_
      refine jE_lc_ne rfl (fun c22 => ?_) (fun c22 => ?_)
      · refine jm_Ev.bl 1 (pc' := 30) (A' := [jR 54, jI u, jI v]) (st' := [jI 0]) (hp' := hp) rfl ?_
        exact jE_ret rfl ⟨jrI (by rw [← hb]; exact (jb_n1 c22).symm), rfl⟩
      · refine jm_Ev.bl 2 (pc' := 30) (A' := [jR 54, jI u, jI v]) (st' := [jI 1]) (hp' := hp) rfl ?_
        exact jE_ret rfl ⟨jrI (by rw [← hb]; exact c22.symm), rfl⟩
theorem c_j_frm_54 (hp : jm_H) (u : Int) (hu : 0 ≤ u ∧ u < 60) : jm_Ev 42 0 [jR 54, jI u] [] hp (jK (some (jL (hp 55 u))) hp) := by
  refine jm_Ev.bl 1 (pc' := 1) (A' := [jR 54, jI u]) (st' := [jI u]) (hp' := hp) rfl ?_
  refine jE_if_lt rfl (by omega) (fun c1 => ?_) (fun c1 => ?_)
  · omega
  · refine jm_Ev.bl 2 (pc' := 7) (A' := [jR 54, jI u]) (st' := [jI 60, jI u]) (hp' := hp) rfl ?_
    refine jE_icmp_ge rfl (by omega) (by omega) (fun c7 => ?_) (fun c7 => ?_)
    · omega
    · refine jm_Ev.bl 3 (pc' := 15) (A' := [jR 54, jI u]) (st' := [jI u, jR 55]) (hp' := hp) rfl ?_
      refine jE_lald (n := 60) (f := hp 55) rfl rfl (by omega) ?_
      refine jm_Ev.bl 1 (pc' := 20) (A' := [jR 54, jI u]) (st' := [jL (hp 55 u)]) (hp' := hp) rfl ?_
      exact jE_ret rfl ⟨rfl, rfl⟩
theorem c_j_last_L_54 (hp : jm_H) (N : Int) (P : Int → Int → Int) (hJ : jJr (hp 55) N P) (hN : N ≤ 60) (eL : hp 54 3 = N) (f : Int) (hf : 0 ≤ f ∧ f < N) : ∀ (m : Nat) (u : Int), f + 1 ≤ u → u ≤ N → N - u < m → jm_Ev 44 7 [jR 54, jI f, jL (jlo P f (u - (f + 1)).toNat), jU, jI u] [] hp (jK (some (jL (jlo P f (N - (f + 1)).toNat))) hp) := by
  intro n
  induction n with
  | zero => intro u h0 h1 hm; omega
  | succ n ih =>
    intro u h0 h1 hm
    refine jm_Ev.bl 3 (pc' := 13) (A' := [jR 54, jI f, jL (jlo P f (u - (f + 1)).toNat), jU, jI u]) (st' := [jI (hp 54 3), jI u]) (hp' := hp) rfl ?_
    rw [eL]
    refine jE_icmp_ge rfl (by omega) (by omega) (fun c13 => ?_) (fun c13 => ?_)
    · refine jm_Ev.bl 1 (pc' := 40) (A' := [jR 54, jI f, jL (jlo P f (u - (f + 1)).toNat), jU, jI u]) (st' := [jL (jlo P f (u - (f + 1)).toNat)]) (hp' := hp) rfl ?_
      exact jE_ret rfl ⟨jrL (by rw [show u = N by omega]), rfl⟩
    · refine jm_Ev.bl 3 (pc' := 20) (A' := [jR 54, jI f, jL (jlo P f (u - (f + 1)).toNat), jU, jI u]) (st' := [jI f, jI u, jR 54]) (hp' := hp) rfl ?_
      refine jE_callI (vs := [jR 54, jI u, jI f]) (r := []) (nx := 23) (v := jI (jb (decide (P u f ≠ -1)))) (hp1 := hp) rfl (c_j_are_54 hp N P hJ hN u f (by omega) (by omega)) ?_
      refine jE_ifd_eq rfl (fun c23 => ?_) (fun c23 => ?_)
      · rw [show (jlo P f (u - (f + 1)).toNat) = jlo P f (u + 1 - (f + 1)).toNat by rw [jlo_s (by omega), if_neg c23]]
        refine jm_Ev.bl 2 (pc' := 7) (A' := [jR 54, jI f, jL (jlo P f (u + 1 - (f + 1)).toNat), jU, jI (u + 1)]) (st' := []) (hp' := hp) rfl ?_
        exact ih (u + 1) (by omega) (by omega) (by omega)
      · refine jm_Ev.bl 6 (pc' := 33) (A' := [jR 54, jI f, jL ((Int64.ofInt (jlo P f (u - (f + 1)).toNat) ||| Int64.ofInt ((Int64.ofInt 1 <<< ((Int32.ofInt u).toInt64 &&& 63)).toInt)).toInt), jU, jI u]) (st' := []) (hp' := hp) rfl ?_
        rw [show (Int64.ofInt (jlo P f (u - (f + 1)).toNat) ||| Int64.ofInt ((Int64.ofInt 1 <<< ((Int32.ofInt u).toInt64 &&& 63)).toInt)).toInt = jlo P f (u + 1 - (f + 1)).toNat by rw [jlo_s (by omega), if_pos c23]]
        refine jm_Ev.bl 2 (pc' := 7) (A' := [jR 54, jI f, jL (jlo P f (u + 1 - (f + 1)).toNat), jU, jI (u + 1)]) (st' := []) (hp' := hp) rfl ?_
        exact ih (u + 1) (by omega) (by omega) (by omega)
theorem c_j_lastOnes_54 (hp : jm_H) (N : Int) (P : Int → Int → Int) (hJ : jJr (hp 55) N P) (hN : N ≤ 60) (eL : hp 54 3 = N) (f : Int) (hf : 0 ≤ f ∧ f < N) : jm_Ev 44 0 [jR 54, jI f, jU, jU, jU] [] hp (jK (some (jL (jlo P f (N - (f + 1)).toNat))) hp) := by
  refine jm_Ev.bl 6 (pc' := 7) (A' := [jR 54, jI f, jL 0, jU, jI (f + 1)]) (st' := []) (hp' := hp) rfl ?_
  have z := c_j_last_L_54 hp N P hJ hN eL f hf 61 (f + 1) (by omega) (by omega) (by omega)
  rw [show (f + 1 - (f + 1)).toNat = 0 by omega] at z
  exact z
theorem c_j_next_L_54 (hp : jm_H) (N : Int) (hN : N ≤ 60) (eL : hp 54 3 = N) (r f : Int) (hf : 0 ≤ f ∧ f < N) : ∀ (m : Nat) (u : Int), f ≤ u → u ≤ N → N - u < m → jm_Ev 47 6 [jR 54, jL r, jU, jI f, jL (jnt (hp 55) r f (u - f).toNat), jU, jI u] [] hp (jK (some (jL (jnt (hp 55) r f (N - f).toNat))) hp) := by
  intro n
  induction n with
  | zero => intro u h0 h1 hm; omega
  | succ n ih =>
    intro u h0 h1 hm
    refine jm_Ev.bl 3 (pc' := 12) (A' := [jR 54, jL r, jU, jI f, jL (jnt (hp 55) r f (u - f).toNat), jU, jI u]) (st' := [jI (hp 54 3), jI u]) (hp' := hp) rfl ?_
    rw [eL]
    refine jE_icmp_ge rfl (by omega) (by omega) (fun c12 => ?_) (fun c12 => ?_)
    · refine jm_Ev.bl 1 (pc' := 52) (A' := [jR 54, jL r, jU, jI f, jL (jnt (hp 55) r f (u - f).toNat), jU, jI u]) (st' := [jL (jnt (hp 55) r f (u - f).toNat)]) (hp' := hp) rfl ?_
      exact jE_ret rfl ⟨jrL (by rw [show u = N by omega]), rfl⟩
    · refine jm_Ev.bl 5 (pc' := 21) (A' := [jR 54, jL r, jU, jI f, jL (jnt (hp 55) r f (u - f).toNat), jU, jI u]) (st' := [jL ((Int64.ofInt (((Int64.ofInt r).toUInt64 >>> ((Int32.ofInt u).toInt64.toUInt64 &&& Int64.toUInt64 63)).toInt64.toInt) &&& Int64.ofInt 1).toInt)]) (hp' := hp) rfl ?_
      rw [jlb_tst r (by omega) (by omega)]
      have hjb := jb_le (jlb r u.toNat)
      refine jm_Ev.bl 1 (pc' := 22) (A' := [jR 54, jL r, jU, jI f, jL (jnt (hp 55) r f (u - f).toNat), jU, jI u]) (st' := [jL 1, jL (jb (jlb r u.toNat))]) (hp' := hp) rfl ?_
      refine jE_lcmp rfl (by omega) (by omega) ?_
      refine jE_lc_ne rfl (fun c23 => ?_) (fun c23 => ?_)
      · rw [show (jnt (hp 55) r f (u - f).toNat) = jnt (hp 55) r f (u + 1 - f).toNat by rw [jnt_s (by omega), if_neg (by rw [jb_nt c23]; decide)]]
        refine jm_Ev.bl 2 (pc' := 6) (A' := [jR 54, jL r, jU, jI f, jL (jnt (hp 55) r f (u + 1 - f).toNat), jU, jI (u + 1)]) (st' := []) (hp' := hp) rfl ?_
        exact ih (u + 1) (by omega) (by omega) (by omega)
      · refine jm_Ev.bl 3 (pc' := 31) (A' := [jR 54, jL r, jU, jI f, jL (jnt (hp 55) r f (u - f).toNat), jU, jI u]) (st' := [jI u, jR 54, jL (jnt (hp 55) r f (u - f).toNat)]) (hp' := hp) rfl ?_
        refine jE_callI (vs := [jR 54, jI u]) (r := [jL (jnt (hp 55) r f (u - f).toNat)]) (nx := 34) (v := jL (hp 55 u)) (hp1 := hp) rfl (c_j_frm_54 hp u (by omega)) ?_
        refine jm_Ev.bl 6 (pc' := 44) (A' := [jR 54, jL r, jU, jI f, jL ((Int64.ofInt (jnt (hp 55) r f (u - f).toNat) ||| Int64.ofInt ((Int64.ofInt (hp 55 u) &&& Int64.ofInt ((Int64.ofInt (-2) <<< ((Int32.ofInt u).toInt64 &&& 63)).toInt)).toInt)).toInt), jU, jI u]) (st' := []) (hp' := hp) rfl ?_
        rw [show (Int64.ofInt (jnt (hp 55) r f (u - f).toNat) ||| Int64.ofInt ((Int64.ofInt (hp 55 u) &&& Int64.ofInt ((Int64.ofInt (-2) <<< ((Int32.ofInt u).toInt64 &&& 63)).toInt)).toInt)).toInt = jnt (hp 55) r f (u + 1 - f).toNat by rw [jnt_s (by omega), if_pos (jb_1 c23)]]
        refine jm_Ev.bl 2 (pc' := 6) (A' := [jR 54, jL r, jU, jI f, jL (jnt (hp 55) r f (u + 1 - f).toNat), jU, jI (u + 1)]) (st' := []) (hp' := hp) rfl ?_
        exact ih (u + 1) (by omega) (by omega) (by omega)
theorem c_j_next_54 (hp : jm_H) (N : Int) (hN : N ≤ 60) (eL : hp 54 3 = N) (r f : Int) (hf : 0 ≤ f ∧ f < N) : jm_Ev 47 0 [jR 54, jL r, jU, jI f, jU, jU, jU] [] hp (jK (some (jL (jnt (hp 55) r f (N - f).toNat))) hp) := by
  refine jm_Ev.bl 4 (pc' := 6) (A' := [jR 54, jL r, jU, jI f, jL 0, jU, jI f]) (st' := []) (hp' := hp) rfl ?_
  have z := c_j_next_L_54 hp N hN eL r f hf 61 f (by omega) (by omega) (by omega)
  rw [show (f - f).toNat = 0 by omega] at z
  exact z
theorem c_j_few_L_54 (hp : jm_H) (N : Int) (P : Int → Int → Int) (hJ : jJr (hp 55) N P) (hN : N ≤ 60) (hP : jPw N P) (eL : hp 54 3 = N) (f : Int) (hf : 0 ≤ f ∧ f < N) (l : Int) (hl : 3 ≤ l ∧ l ≤ N) : ∀ (k : Nat) (n : Int), 1 ≤ n → n ≤ l → (∀ m, 3 ≤ m → m < n.toNat → (jdc N P f m).1 = -1) → l - n < k → jm_Ev 46 8 [jR 54, jI f, jL (jlo P f (N - (f + 1)).toNat), jU, jI l, jL (jrc (hp 55) N f (n - 1).toNat), jU, jI n] [] hp (jK (some (jI (jff N P f l))) hp) := by
  intro n
  induction n with
  | zero => intro n h0 h1 hno hm; omega
  | succ n ih =>
    intro n h0 h1 hno hm
    refine jm_Ev.bl 2 (pc' := 12) (A' := [jR 54, jI f, jL (jlo P f (N - (f + 1)).toNat), jU, jI l, jL (jrc (hp 55) N f (n - 1).toNat), jU, jI n]) (st' := [jI l, jI n]) (hp' := hp) rfl ?_
    refine jE_icmp_ge rfl (by omega) (by omega) (fun c12 => ?_) (fun c12 => ?_)
    · refine jm_Ev.bl 1 (pc' := 50) (A' := [jR 54, jI f, jL (jlo P f (N - (f + 1)).toNat), jU, jI l, jL (jrc (hp 55) N f (n - 1).toNat), jU, jI n]) (st' := [jI l]) (hp' := hp) rfl ?_
      have z := jfind_none (p := fun n => decide ((jdc N P f n).1 ≠ -1)) (l - 3).toNat 3 (fun m a b => decide_eq_false (fun q => q (hno m a (by omega))))
      exact jE_ret rfl ⟨jrI (by unfold jff; rw [z]; omega), rfl⟩
    · refine jm_Ev.bl 2 (pc' := 18) (A' := [jR 54, jI f, jL (jlo P f (N - (f + 1)).toNat), jU, jI l, jL (jrc (hp 55) N f (n - 1).toNat), jU, jI n]) (st' := [jI 3, jI n]) (hp' := hp) rfl ?_
      refine jE_icmp_lt rfl (by omega) (by omega) (fun c18 => ?_) (fun c18 => ?_)
      · refine jm_Ev.bl 3 (pc' := 37) (A' := [jR 54, jI f, jL (jlo P f (N - (f + 1)).toNat), jU, jI l, jL (jrc (hp 55) N f (n - 1).toNat), jU, jI n]) (st' := [jI f, jL (jrc (hp 55) N f (n - 1).toNat), jR 54]) (hp' := hp) rfl ?_
        have ern : jnt (hp 55) (jrc (hp 55) N f (n - 1).toNat) f (N - f).toNat = jrc (hp 55) N f (n + 1 - 1).toNat := by
          rw [show (n + 1 - 1).toNat = (n - 1).toNat + 1 by omega]; rfl
        refine jE_callI (vs := [jR 54, jL (jrc (hp 55) N f (n - 1).toNat), jI f]) (r := []) (nx := 40) (v := jL (jrc (hp 55) N f (n + 1 - 1).toNat)) (hp1 := hp) rfl (ern ▸ c_j_next_54 hp N hN eL (jrc (hp 55) N f (n - 1).toNat) f hf) ?_
        refine jm_Ev.bl 3 (pc' := 8) (A' := [jR 54, jI f, jL (jlo P f (N - (f + 1)).toNat), jU, jI l, jL (jrc (hp 55) N f (n + 1 - 1).toNat), jU, jI (n + 1)]) (st' := []) (hp' := hp) rfl ?_
        exact ih (n + 1) (by omega) (by omega) (fun m a b => by omega) (by omega)
      · refine jm_Ev.bl 4 (pc' := 26) (A' := [jR 54, jI f, jL (jlo P f (N - (f + 1)).toNat), jU, jI l, jL (jrc (hp 55) N f (n - 1).toNat), jU, jI n]) (st' := [jL 0, jL ((Int64.ofInt (jrc (hp 55) N f (n - 1).toNat) &&& Int64.ofInt (jlo P f (N - (f + 1)).toNat)).toInt)]) (hp' := hp) rfl ?_
        have hcl := jclosed hJ hP hf.1 hf.2 (n := n.toNat) (by omega) (by omega)
        rw [show n.toNat - 1 = (n - 1).toNat by omega] at hcl
        have r64 := jI64_r (Int64.ofInt (jrc (hp 55) N f (n - 1).toNat) &&& Int64.ofInt (jlo P f (N - (f + 1)).toNat))
        refine jE_lcmp rfl (by omega) (by omega) ?_
        refine jE_lc_eq rfl (fun c27 => ?_) (fun c27 => ?_)
        · refine jm_Ev.bl 3 (pc' := 37) (A' := [jR 54, jI f, jL (jlo P f (N - (f + 1)).toNat), jU, jI l, jL (jrc (hp 55) N f (n - 1).toNat), jU, jI n]) (st' := [jI f, jL (jrc (hp 55) N f (n - 1).toNat), jR 54]) (hp' := hp) rfl ?_
          have ern : jnt (hp 55) (jrc (hp 55) N f (n - 1).toNat) f (N - f).toNat = jrc (hp 55) N f (n + 1 - 1).toNat := by
            rw [show (n + 1 - 1).toNat = (n - 1).toNat + 1 by omega]; rfl
          refine jE_callI (vs := [jR 54, jL (jrc (hp 55) N f (n - 1).toNat), jI f]) (r := []) (nx := 40) (v := jL (jrc (hp 55) N f (n + 1 - 1).toNat)) (hp1 := hp) rfl (ern ▸ c_j_next_54 hp N hN eL (jrc (hp 55) N f (n - 1).toNat) f hf) ?_
          refine jm_Ev.bl 3 (pc' := 8) (A' := [jR 54, jI f, jL (jlo P f (N - (f + 1)).toNat), jU, jI l, jL (jrc (hp 55) N f (n + 1 - 1).toNat), jU, jI (n + 1)]) (st' := []) (hp' := hp) rfl ?_
          exact ih (n + 1) (by omega) (by omega) (fun m a b => by by_cases q : m = n.toNat; exact (by rw [q]; exact hcl.mp c27); exact hno m a (by omega)) (by omega)
        · refine jm_Ev.bl 1 (pc' := 32) (A' := [jR 54, jI f, jL (jlo P f (N - (f + 1)).toNat), jU, jI l, jL (jrc (hp 55) N f (n - 1).toNat), jU, jI n]) (st' := [jI n]) (hp' := hp) rfl ?_
          have z := jfind_eq (p := fun n => decide ((jdc N P f n).1 ≠ -1)) (n := n.toNat) (decide_eq_true (fun q => c27 (hcl.mpr q))) (l - 3).toNat 3 (by omega) (by omega) (fun m a b => decide_eq_false (fun q => q (hno m a b)))
          exact jE_ret rfl ⟨jrI (by unfold jff; rw [z]; omega), rfl⟩
theorem c_j_fewestFrom_54 (hp : jm_H) (N : Int) (P : Int → Int → Int) (hJ : jJr (hp 55) N P) (hN : N ≤ 60) (hP : jPw N P) (eL : hp 54 3 = N) (f : Int) (hf : 0 ≤ f ∧ f < N) (l : Int) (hl : 3 ≤ l ∧ l ≤ N) : jm_Ev 46 0 [jR 54, jI f, jL (jlo P f (N - (f + 1)).toNat), jU, jI l, jU, jU, jU] [] hp (jK (some (jI (jff N P f l))) hp) := by
  refine jm_Ev.bl 6 (pc' := 8) (A' := [jR 54, jI f, jL (jlo P f (N - (f + 1)).toNat), jU, jI l, jL ((Int64.ofInt 1 <<< ((Int32.ofInt f).toInt64 &&& 63)).toInt), jU, jI 1]) (st' := []) (hp' := hp) rfl ?_
  exact c_j_few_L_54 hp N P hJ hN hP eL f hf l hl 61 1 (by omega) (by omega) (fun m a b => by omega) (by omega)
