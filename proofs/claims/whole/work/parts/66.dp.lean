/-! closed ways round with fewest corners -/
/-- the least of g over b, b + 1, .., and where it is found first; -1 is none -/
def jml (g : Int → Int) (b : Int) : Nat → Int × Int
  | 0 => (-1, -1)
  | k + 1 => if g (b + (k : Int)) ≠ -1 ∧ ((jml g b k).1 = -1 ∨ g (b + (k : Int)) < (jml g b k).1) then (g (b + (k : Int)), b + (k : Int)) else jml g b k
theorem jml_s {g : Int → Int} {b u : Int} (h : b ≤ u) : jml g b (u + 1 - b).toNat = if g u ≠ -1 ∧ ((jml g b (u - b).toNat).1 = -1 ∨ g u < (jml g b (u - b).toNat).1) then (g u, u) else jml g b (u - b).toNat := by
  have e : (u + 1 - b).toNat = (u - b).toNat + 1 := by omega
  have e2 : b + (((u - b).toNat : Nat) : Int) = u := by omega
  rw [e]
  conv => lhs; unfold jml
  rw [e2]
theorem jml_get (g : Int → Int) (b : Int) (k : Nat) : jml g b k = (-1, -1) ∨ (b ≤ (jml g b k).2 ∧ (jml g b k).2 < b + (k : Int) ∧ (jml g b k).1 = g (jml g b k).2 ∧ (jml g b k).1 ≠ -1) := by
  induction k with
  | zero => exact Or.inl rfl
  | succ k ih =>
    unfold jml
    split
    · rename_i h
      exact Or.inr ⟨by show b ≤ b + (k : Int); omega, by show b + (k : Int) < b + ((k + 1 : Nat) : Int); omega, rfl, h.1⟩
    · rcases ih with ih | ih
      · exact Or.inl ih
      · exact Or.inr ⟨ih.1, by have := ih.2.1; omega, ih.2.2⟩
theorem jml_ne (g : Int → Int) (b : Int) (k : Nat) : (jml g b k).1 ≠ -1 ↔ ∃ u, b ≤ u ∧ u < b + (k : Int) ∧ g u ≠ -1 := by
  constructor
  · intro h
    rcases jml_get g b k with e | e
    · rw [e] at h; exact absurd rfl h
    · exact ⟨_, e.1, e.2.1, e.2.2.1 ▸ e.2.2.2⟩
  · induction k with
    | zero => intro ⟨u, h1, h2, _⟩; omega
    | succ k ih =>
      intro ⟨u, h1, h2, h3⟩
      unfold jml
      split
      · rename_i h; exact h.1
      · rename_i h
        by_cases q : u = b + (k : Int)
        · subst q
          intro z
          exact h ⟨h3, Or.inl z⟩
        · exact ih ⟨u, h1, by omega, h3⟩
theorem jml_congr {g g' : Int → Int} {b : Int} {k : Nat} (h : ∀ u, b ≤ u → u < b + (k : Int) → g u = g' u) : jml g b k = jml g' b k := by
  induction k with
  | zero => rfl
  | succ k ih =>
    have e := ih (fun u a c => h u a (by omega))
    have e2 := h (b + (k : Int)) (by omega) (by omega)
    unfold jml
    rw [e, e2]
theorem jml_none {g : Int → Int} {b : Int} {k : Nat} (h : ∀ u, b ≤ u → u < b + (k : Int) → g u = -1) : jml g b k = (-1, -1) := by
  induction k with
  | zero => rfl
  | succ k ih =>
    unfold jml
    rw [if_neg (fun z => z.1 (h _ (by omega) (by omega))), ih (fun u a c => h u a (by omega))]
/-- a matrix of penalties -/
def jPw (N : Int) (P : Int → Int → Int) : Prop := 4 ≤ N ∧ N ≤ 60 ∧ (∀ i j, 0 ≤ i → i < N → 0 ≤ j → j < N → (P i j = -1 ∨ (0 ≤ P i j ∧ jfn 145 (P i j)))) ∧ (∀ i, P i i = -1) ∧ (∀ i, 0 ≤ i → i + 1 < N → P i (i + 1) ≠ -1) ∧ P (N - 1) 0 ≠ -1
def jad (x y : Int) : Int := if x = -1 ∨ y = -1 then -1 else jfa x y
/-- the sum of a way of n steps from f to v, over greater and greater ones -/
def jdp (P : Int → Int → Int) (f : Int) : Nat → Int → Int
  | 0, v => if v = f then 0 else -1
  | n + 1, v => (jml (fun u => jad (jdp P f n u) (P u v)) f (v - f).toNat).1
/-- the one ahead of v behind n steps -/
def jda (P : Int → Int → Int) (f : Int) (n : Nat) (v : Int) : Int := (jml (fun u => jad (jdp P f (n - 1) u) (P u v)) f (v - f).toNat).2
/-- closed by n steps: the sum, and the last one -/
def jdc (N : Int) (P : Int → Int → Int) (f : Int) (n : Nat) : Int × Int := jml (fun u => jad (jdp P f (n - 1) u) (P u f)) (f + 1) (N - (f + 1)).toNat
theorem jad_n {E x y : Int} (hx : x = -1 ∨ (0 ≤ x ∧ jfn E x)) (hy : y = -1 ∨ (0 ≤ y ∧ jfn E y)) (h0 : 0 ≤ E) (hE : E ≤ 249) : (jad x y = -1 ∨ (0 ≤ jad x y ∧ jfn (E + 1) (jad x y))) ∧ (jad x y = -1 ↔ (x = -1 ∨ y = -1)) := by
  unfold jad
  split
  · rename_i h; exact ⟨Or.inl rfl, fun _ => h, fun _ => rfl⟩
  · rename_i h
    have hx2 : 0 ≤ x ∧ jfn E x := by rcases hx with z | z; exact absurd (Or.inl z) h; exact z
    have hy2 : 0 ≤ y ∧ jfn E y := by rcases hy with z | z; exact absurd (Or.inr z) h; exact z
    have u := jfa_n hx2.2 hy2.2 h0 (by omega)
    exact ⟨Or.inr ⟨u.2, u.1⟩, fun z => by omega, fun z => absurd z h⟩
theorem jfn_mono {E F x : Int} (h : jfn E x) (hE : E ≤ F) : jfn F x := by
  unfold jfn at *
  omega
theorem jdp_n {N : Int} {P : Int → Int → Int} (h : jPw N P) {f : Int} (f0 : 0 ≤ f) (f1 : f < N) : ∀ (n : Nat), n ≤ 100 → ∀ v, 0 ≤ v → v < N → (jdp P f n v = -1 ∨ (0 ≤ jdp P f n v ∧ jfn (145 + (n : Int)) (jdp P f n v))) := by
  intro n
  induction n with
  | zero =>
    intro _ v _ _
    unfold jdp
    split
    · exact Or.inr ⟨by omega, Or.inl rfl⟩
    · exact Or.inl rfl
  | succ n ih =>
    intro hn v v0 v1
    unfold jdp
    rcases jml_get (fun u => jad (jdp P f n u) (P u v)) f (v - f).toNat with e | e
    · rw [e]; exact Or.inl rfl
    · obtain ⟨e1, e2, e3, e4⟩ := e
      rw [e3]
      generalize (jml (fun u => jad (jdp P f n u) (P u v)) f (v - f).toNat).2 = u at *
      have a := ih (by omega) u (by omega) (by omega)
      have b := h.2.2.1 u v (by omega) (by omega) v0 v1
      have c := (jad_n (E := 145 + (n : Int)) a (by rcases b with b | b; exact Or.inl b; exact Or.inr ⟨b.1, jfn_mono b.2 (by omega)⟩) (by omega) (by omega)).1
      rcases c with c | c
      · exact Or.inl c
      · exact Or.inr ⟨c.1, jfn_mono c.2 (by omega)⟩
/-- one step: how a sum comes about -/
theorem jg_n {N : Int} {P : Int → Int → Int} (h : jPw N P) {f : Int} (f0 : 0 ≤ f) (f1 : f < N) {n : Nat} (hn : n ≤ 100) {u v : Int} (u0 : 0 ≤ u) (u1 : u < N) (v0 : 0 ≤ v) (v1 : v < N) : (jad (jdp P f n u) (P u v) = -1 ∨ (0 ≤ jad (jdp P f n u) (P u v) ∧ jfn (146 + (n : Int)) (jad (jdp P f n u) (P u v)))) ∧ (jad (jdp P f n u) (P u v) = -1 ↔ (jdp P f n u = -1 ∨ P u v = -1)) := by
  have a := jdp_n h f0 f1 n hn u u0 u1
  have b := h.2.2.1 u v u0 u1 v0 v1
  have c := jad_n (E := 145 + (n : Int)) a (by rcases b with b | b; exact Or.inl b; exact Or.inr ⟨b.1, jfn_mono b.2 (by omega)⟩) (by omega) (by omega)
  refine ⟨?_, c.2⟩
  rcases c.1 with d | d
  · exact Or.inl d
  · exact Or.inr ⟨d.1, jfn_mono d.2 (by omega)⟩
theorem jml_n {g : Int → Int} {b E : Int} {k : Nat} (h : ∀ u, b ≤ u → u < b + (k : Int) → (g u = -1 ∨ (0 ≤ g u ∧ jfn E (g u)))) : (jml g b k).1 = -1 ∨ (0 ≤ (jml g b k).1 ∧ jfn E (jml g b k).1) := by
  rcases jml_get g b k with e | e
  · rw [e]; exact Or.inl rfl
  · rw [e.2.2.1]
    exact h _ e.1 e.2.1
theorem jdc_n {N : Int} {P : Int → Int → Int} (h : jPw N P) {f : Int} (f0 : 0 ≤ f) (f1 : f < N) {n : Nat} (hn : n ≤ 100) : (jdc N P f n).1 = -1 ∨ (0 ≤ (jdc N P f n).1 ∧ jfn (246) (jdc N P f n).1) := by
  unfold jdc
  refine jml_n (fun u a c => ?_)
  rcases (jg_n h f0 f1 (n := n - 1) (by omega) (u := u) (v := f) (by omega) (by omega) f0 f1).1 with d | d
  · exact Or.inl d
  · exact Or.inr ⟨d.1, jfn_mono d.2 (by omega)⟩
/-- reached by n + 1 steps -/
theorem jdp_ne {N : Int} {P : Int → Int → Int} (h : jPw N P) {f : Int} (f0 : 0 ≤ f) (f1 : f < N) {n : Nat} (hn : n ≤ 100) {v : Int} (v0 : 0 ≤ v) (v1 : v < N) : jdp P f (n + 1) v ≠ -1 ↔ ∃ u, f ≤ u ∧ u < v ∧ jdp P f n u ≠ -1 ∧ P u v ≠ -1 := by
  show (jml (fun u => jad (jdp P f n u) (P u v)) f (v - f).toNat).1 ≠ -1 ↔ _
  rw [jml_ne]
  constructor
  · intro ⟨u, a, b, c⟩
    have q := (jg_n h f0 f1 hn (u := u) (v := v) (by omega) (by omega) v0 v1).2
    exact ⟨u, a, by omega, fun z => c (q.mpr (Or.inl z)), fun z => c (q.mpr (Or.inr z))⟩
  · intro ⟨u, a, b, c, d⟩
    have q := (jg_n h f0 f1 hn (u := u) (v := v) (by omega) (by omega) v0 v1).2
    exact ⟨u, a, by omega, fun z => by rcases q.mp z with z | z; exact c z; exact d z⟩
theorem jdc_ne {N : Int} {P : Int → Int → Int} (h : jPw N P) {f : Int} (f0 : 0 ≤ f) (f1 : f < N) {n : Nat} (hn : n ≤ 100) : (jdc N P f n).1 ≠ -1 ↔ ∃ u, f < u ∧ u < N ∧ jdp P f (n - 1) u ≠ -1 ∧ P u f ≠ -1 := by
  unfold jdc
  rw [jml_ne]
  constructor
  · intro ⟨u, a, b, c⟩
    have q := (jg_n h f0 f1 (n := n - 1) (by omega) (u := u) (v := f) (by omega) (by omega) f0 f1).2
    exact ⟨u, by omega, by omega, fun z => c (q.mpr (Or.inl z)), fun z => c (q.mpr (Or.inr z))⟩
  · intro ⟨u, a, b, c, d⟩
    have q := (jg_n h f0 f1 (n := n - 1) (by omega) (u := u) (v := f) (by omega) (by omega) f0 f1).2
    exact ⟨u, by omega, by omega, fun z => by rcases q.mp z with z | z; exact c z; exact d z⟩
/-- all points are a way round -/
theorem jdp_all {N : Int} {P : Int → Int → Int} (h : jPw N P) : ∀ n : Nat, (n : Int) < N → jdp P 0 n (n : Int) ≠ -1 := by
  intro n
  induction n with
  | zero => intro _; unfold jdp; rw [if_pos (by omega)]; decide
  | succ n ih =>
    intro hn
    have hN := h.2.1
    rw [jdp_ne h (by omega) (by omega) (by omega) (by omega) hn]
    refine ⟨(n : Int), by omega, by omega, ih (by omega), ?_⟩
    have := h.2.2.2.2.1 (n : Int) (by omega) (by omega)
    rw [show ((n + 1 : Nat) : Int) = (n : Int) + 1 by omega]
    exact this
theorem jdc_all {N : Int} {P : Int → Int → Int} (h : jPw N P) : (jdc N P 0 N.toNat).1 ≠ -1 := by
  have h4 := h.1
  have h60 := h.2.1
  rw [jdc_ne h (by omega) (by omega) (by omega)]
  have a := jdp_all h (N.toNat - 1) (by omega)
  rw [show ((N.toNat - 1 : Nat) : Int) = N - 1 by omega] at a
  exact ⟨N - 1, by omega, by omega, a, h.2.2.2.2.2⟩
/-- the fewest steps -/
def jisL (N : Int) (P : Int → Int → Int) (n : Nat) : Prop := 3 ≤ n ∧ (n : Int) ≤ N ∧ (∃ f, 0 ≤ f ∧ f < N ∧ (jdc N P f n).1 ≠ -1) ∧ ∀ m, 3 ≤ m → m < n → ∀ f, 0 ≤ f → f < N → (jdc N P f m).1 = -1
theorem jisL_u {N : Int} {P : Int → Int → Int} {n m : Nat} (h : jisL N P n) (g : jisL N P m) : n = m := by
  obtain ⟨a1, a2, ⟨f, b1, b2, b3⟩, a4⟩ := h
  obtain ⟨c1, c2, ⟨e, d1, d2, d3⟩, c4⟩ := g
  rcases (show n < m ∨ n = m ∨ m < n by omega) with q | q | q
  · exact absurd (c4 n a1 q f b1 b2) b3
  · exact q
  · exact absurd (a4 m c1 q e d1 d2) d3
/-- over all firsts: the best sum of n steps, and its first -/
def jdb (N : Int) (P : Int → Int → Int) (n : Nat) : Int × Int := jml (fun f => (jdc N P f n).1) 0 N.toNat
def jfind (p : Nat → Bool) : Nat → Nat → Nat
  | 0, s => s
  | k + 1, s => if p s = true then s else jfind p k (s + 1)
theorem jfind_eq {p : Nat → Bool} {n : Nat} (hn : p n = true) : ∀ (k s : Nat), s ≤ n → n ≤ s + k → (∀ m, s ≤ m → m < n → p m = false) → jfind p k s = n := by
  intro k
  induction k with
  | zero => intro s h1 h2 _; unfold jfind; omega
  | succ k ih =>
    intro s h1 h2 h3
    unfold jfind
    by_cases q : s = n
    · subst q; rw [if_pos hn]
    · rw [if_neg (by rw [h3 s (by omega) (by omega)]; decide)]
      exact ih (s + 1) (by omega) (by omega) (fun m a b => h3 m (by omega) b)
def jlst (N : Int) (P : Int → Int → Int) : Nat := jfind (fun n => decide ((jdb N P n).1 ≠ -1)) N.toNat 3
theorem jdb_ne {N : Int} {P : Int → Int → Int} (h : jPw N P) (n : Nat) : (jdb N P n).1 ≠ -1 ↔ ∃ f, 0 ≤ f ∧ f < N ∧ (jdc N P f n).1 ≠ -1 := by
  unfold jdb
  rw [jml_ne]
  have := h.1
  constructor
  · intro ⟨f, a, b, c⟩; exact ⟨f, a, by omega, c⟩
  · intro ⟨f, a, b, c⟩; exact ⟨f, a, by omega, c⟩
theorem jlst_eq {N : Int} {P : Int → Int → Int} (h : jPw N P) {n : Nat} (hn : jisL N P n) : jlst N P = n := by
  obtain ⟨a1, a2, a3, a4⟩ := hn
  have h4 := h.1
  unfold jlst
  refine jfind_eq (decide_eq_true ((jdb_ne h n).mpr a3)) _ _ a1 (by omega) (fun m b c => decide_eq_false (fun z => ?_))
  obtain ⟨f, d1, d2, d3⟩ := (jdb_ne h m).mp z
  exact d3 (a4 m b c f d1 d2)
/-- the way back -/
def jdw (N : Int) (P : Int → Int → Int) (f : Int) (s : Nat) : Nat → Int
  | 0 => (jdc N P f s).2
  | i + 1 => jda P f (s - 1 - i) (jdw N P f s i)
theorem jdw_n {N : Int} {P : Int → Int → Int} (h : jPw N P) {f : Int} (f0 : 0 ≤ f) (f1 : f < N) {s : Nat} (s1 : 1 ≤ s) (s2 : s ≤ 100) (hc : (jdc N P f s).1 ≠ -1) : ∀ i : Nat, i < s → f ≤ jdw N P f s i ∧ jdw N P f s i < N ∧ jdp P f (s - 1 - i) (jdw N P f s i) ≠ -1 ∧ (i + 1 < s → jdw N P f s (i + 1) < jdw N P f s i) := by
  have step : ∀ i : Nat, i + 1 < s → f ≤ jdw N P f s i → jdw N P f s i < N → jdp P f (s - 1 - i) (jdw N P f s i) ≠ -1 → f ≤ jdw N P f s (i + 1) ∧ jdw N P f s (i + 1) < jdw N P f s i ∧ jdp P f (s - 1 - (i + 1)) (jdw N P f s (i + 1)) ≠ -1 := by
    intro i hi a b c
    generalize hw : jdw N P f s i = w at *
    have ew : jdw N P f s (i + 1) = jda P f (s - 1 - i) w := by rw [← hw]; rfl
    rw [ew]
    obtain ⟨n, hn⟩ : ∃ n, s - 1 - i = n + 1 := ⟨s - 1 - i - 1, by omega⟩
    rw [hn] at c ⊢
    unfold jdp at c
    unfold jda
    rw [show n + 1 - 1 = n by omega, show s - 1 - (i + 1) = n by omega]
    rcases jml_get (fun u => jad (jdp P f n u) (P u w)) f (w - f).toNat with e | e
    · rw [e] at c; exact absurd rfl c
    · obtain ⟨e1, e2, e3, e4⟩ := e
      rw [e3] at e4
      generalize (jml (fun u => jad (jdp P f n u) (P u w)) f (w - f).toNat).2 = u at *
      have q := (jg_n h f0 f1 (n := n) (by omega) (u := u) (v := w) (by omega) (by omega) (by omega) b).2
      exact ⟨e1, by omega, fun z => e4 (q.mpr (Or.inl z))⟩
  intro i
  induction i with
  | zero =>
    intro hi
    have base : f ≤ jdw N P f s 0 ∧ jdw N P f s 0 < N ∧ jdp P f (s - 1 - 0) (jdw N P f s 0) ≠ -1 := by
      unfold jdw
      unfold jdc at hc ⊢
      rcases jml_get (fun u => jad (jdp P f (s - 1) u) (P u f)) (f + 1) (N - (f + 1)).toNat with e | e
      · rw [e] at hc; exact absurd rfl hc
      · obtain ⟨e1, e2, e3, e4⟩ := e
        rw [e3] at e4
        generalize (jml (fun u => jad (jdp P f (s - 1) u) (P u f)) (f + 1) (N - (f + 1)).toNat).2 = u at *
        have q := (jg_n h f0 f1 (n := s - 1) (by omega) (u := u) (v := f) (by omega) (by omega) f0 f1).2
        exact ⟨by omega, by omega, fun z => e4 (q.mpr (Or.inl z))⟩
    exact ⟨base.1, base.2.1, base.2.2, fun q => (step 0 q base.1 base.2.1 base.2.2).2.1⟩
  | succ i ih =>
    intro hi
    have a := ih (by omega)
    have b := step i hi a.1 a.2.1 a.2.2.1
    have b2 : jdw N P f s (i + 1) < N := by omega
    exact ⟨b.1, b2, b.2.2, fun q => (step (i + 1) q b.1 b2 b.2.2).2.1⟩
theorem jdw_0 {N : Int} {P : Int → Int → Int} (h : jPw N P) {f : Int} (f0 : 0 ≤ f) (f1 : f < N) {s : Nat} (s1 : 1 ≤ s) (s2 : s ≤ 100) (hc : (jdc N P f s).1 ≠ -1) : jdw N P f s (s - 1) = f := by
  have a := (jdw_n h f0 f1 s1 s2 hc (s - 1) (by omega)).2.2.1
  rw [show s - 1 - (s - 1) = 0 by omega] at a
  unfold jdp at a
  by_cases q : jdw N P f s (s - 1) = f
  · exact q
  · rw [if_neg q] at a; exact absurd rfl a
/-- corner n of the best way -/
def jdk (N : Int) (P : Int → Int → Int) (n : Int) : Int := jdw N P (jdb N P (jlst N P)).2 (jlst N P) (((jlst N P : Nat) : Int) - 1 - n).toNat
theorem jlst_r {N : Int} {P : Int → Int → Int} (h : jPw N P) : jisL N P (jlst N P) := by
  have h4 := h.1
  have key : ∀ k : Nat, (∃ n, jisL N P n) ∨ ∀ m, 3 ≤ m → m < k → ∀ f, 0 ≤ f → f < N → (jdc N P f m).1 = -1 := by
    intro k
    induction k with
    | zero => exact Or.inr (fun m _ z => by omega)
    | succ k ih =>
      rcases ih with ih | ih
      · exact Or.inl ih
      · by_cases q : 3 ≤ k ∧ (k : Int) ≤ N ∧ ∃ f, 0 ≤ f ∧ f < N ∧ (jdc N P f k).1 ≠ -1
        · exact Or.inl ⟨k, q.1, q.2.1, q.2.2, ih⟩
        · by_cases q2 : (k : Int) ≤ N
          · refine Or.inr (fun m m1 m2 f a b => ?_)
            by_cases e : m = k
            · subst e
              by_cases z : (jdc N P f m).1 = -1
              · exact z
              · exact absurd ⟨m1, q2, f, a, b, z⟩ q
            · exact ih m m1 (by omega) f a b
          · exact absurd (ih N.toNat (by omega) (by omega) 0 (by omega) (by omega)) (jdc_all h)
  rcases key (N.toNat + 1) with ⟨n, hn⟩ | z
  · rw [jlst_eq h hn]; exact hn
  · exact absurd (z N.toNat (by omega) (by omega) 0 (by omega) (by omega)) (jdc_all h)
theorem jdb_r {N : Int} {P : Int → Int → Int} (h : jPw N P) : 0 ≤ (jdb N P (jlst N P)).2 ∧ (jdb N P (jlst N P)).2 < N ∧ (jdb N P (jlst N P)).1 = (jdc N P (jdb N P (jlst N P)).2 (jlst N P)).1 ∧ (jdc N P (jdb N P (jlst N P)).2 (jlst N P)).1 ≠ -1 := by
  have a := (jdb_ne h _).mpr (jlst_r h).2.2.1
  have h4 := h.1
  unfold jdb at a ⊢
  rcases jml_get (fun f => (jdc N P f (jlst N P)).1) 0 N.toNat with e | e
  · rw [e] at a; exact absurd rfl a
  · obtain ⟨e1, e2, e3, e4⟩ := e
    exact ⟨e1, by omega, e3, e3 ▸ e4⟩
theorem jdk_r {N : Int} {P : Int → Int → Int} (h : jPw N P) {n : Int} (n0 : 0 ≤ n) (n1 : n < (jlst N P : Int)) : 0 ≤ jdk N P n ∧ jdk N P n < N ∧ (n + 1 < (jlst N P : Int) → jdk N P n < jdk N P (n + 1)) := by
  have b := jdb_r h
  have l := jlst_r h
  have h60 := h.2.1
  have l1 := l.1
  have l2 := l.2.1
  have a := jdw_n h b.1 b.2.1 (s := jlst N P) (by omega) (by omega) b.2.2.2 (((jlst N P : Nat) : Int) - 1 - n).toNat (by omega)
  refine ⟨?_, ?_, fun q => ?_⟩
  · unfold jdk; omega
  · unfold jdk; omega
  · have c := jdw_n h b.1 b.2.1 (s := jlst N P) (by omega) (by omega) b.2.2.2 (((jlst N P : Nat) : Int) - 1 - (n + 1)).toNat (by omega)
    have d := c.2.2.2 (by omega)
    unfold jdk
    rw [show (((jlst N P : Nat) : Int) - 1 - n).toNat = (((jlst N P : Nat) : Int) - 1 - (n + 1)).toNat + 1 by omega]
    exact d
