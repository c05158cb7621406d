/-! outlines: edges, the next edge, orbits -/
abbrev jT := Int × Int × Int
def jed (K : Int → Int → Int) (x y w : Int) : Bool :=
  if w = 0 then decide (K x y ≠ -1) && decide (K x (y - 1) = -1)
  else if w = 1 then decide (K (x - 1) y ≠ -1) && decide (K x y = -1)
  else if w = 2 then decide (K (x - 1) (y - 1) ≠ -1) && decide (K (x - 1) y = -1)
  else decide (K x (y - 1) ≠ -1) && decide (K (x - 1) (y - 1) = -1)
def jsx (w : Int) : Int := if w = 0 then 1 else if w = 2 then -1 else 0
def jsy (w : Int) : Int := if w = 1 then 1 else if w = 3 then -1 else 0
def jnw (K : Int → Int → Int) (x y w : Int) : Int := if jed K x y ((w + 1) % 4) = true then (w + 1) % 4 else if jed K x y w = true then w else (w + 3) % 4
def jnx (K : Int → Int → Int) (t : jT) : jT := (t.1 + jsx t.2.2, t.2.1 + jsy t.2.2, jnw K (t.1 + jsx t.2.2) (t.2.1 + jsy t.2.2) t.2.2)
def jE (K : Int → Int → Int) (t : jT) : Prop := 0 ≤ t.2.2 ∧ t.2.2 ≤ 3 ∧ jed K t.1 t.2.1 t.2.2 = true
/-- of four dots around a point: goes an edge out, comes one in, which way on -/
def jbo (w : Fin 4) (a b c d : Bool) : Bool := match w with
  | 0 => d && !b
  | 1 => c && !d
  | 2 => a && !c
  | 3 => b && !a
def jbi (w : Fin 4) (a b c d : Bool) : Bool := match w with
  | 0 => c && !a
  | 1 => a && !b
  | 2 => b && !d
  | 3 => d && !c
def jbn (w : Fin 4) (a b c d : Bool) : Fin 4 := if jbo (w + 1) a b c d = true then w + 1 else if jbo w a b c d = true then w else w + 3
theorem jb_f1 : ∀ (w : Fin 4) (a b c d : Bool), jbi w a b c d = true → jbo (jbn w a b c d) a b c d = true := by decide
theorem jb_f2 : ∀ (w u : Fin 4) (a b c d : Bool), jbi w a b c d = true → jbi u a b c d = true → jbn w a b c d = jbn u a b c d → w = u := by decide
def jD (K : Int → Int → Int) (x y : Int) : Bool := decide (K x y ≠ -1)
theorem jD_n (K : Int → Int → Int) (x y : Int) : decide (K x y = -1) = !jD K x y := by unfold jD; simp
theorem jw4 {w : Int} (h0 : 0 ≤ w) (h1 : w ≤ 3) : ∃ f : Fin 4, w = (f.val : Int) := ⟨⟨w.toNat, by omega⟩, by dsimp only; omega⟩
theorem jed_out (K : Int → Int → Int) (x y : Int) (f : Fin 4) : jed K x y (f.val : Int) = jbo f (jD K (x - 1) (y - 1)) (jD K x (y - 1)) (jD K (x - 1) y) (jD K x y) := by
  match f with
  | 0 => unfold jed jbo; rw [if_pos (by decide), jD_n]; rfl
  | 1 => unfold jed jbo; rw [if_neg (by decide), if_pos (by decide), jD_n]; rfl
  | 2 => unfold jed jbo; rw [if_neg (by decide), if_neg (by decide), if_pos (by decide), jD_n]; rfl
  | 3 => unfold jed jbo; rw [if_neg (by decide), if_neg (by decide), if_neg (by decide), jD_n]; rfl
theorem jed_in (K : Int → Int → Int) (x y : Int) (f : Fin 4) : jed K x y (f.val : Int) = jbi f (jD K (x + jsx f.val - 1) (y + jsy f.val - 1)) (jD K (x + jsx f.val) (y + jsy f.val - 1)) (jD K (x + jsx f.val - 1) (y + jsy f.val)) (jD K (x + jsx f.val) (y + jsy f.val)) := by
  rw [jed_out]
  match f with
  | 0 =>
    have e1 : jsx ((0 : Fin 4).val : Int) = 1 := by decide
    have e2 : jsy ((0 : Fin 4).val : Int) = 0 := by decide
    rw [e1, e2, show x + 1 - 1 = x by omega, show y + 0 = y by omega]; rfl
  | 1 =>
    have e1 : jsx ((1 : Fin 4).val : Int) = 0 := by decide
    have e2 : jsy ((1 : Fin 4).val : Int) = 1 := by decide
    rw [e1, e2, show y + 1 - 1 = y by omega, show x + 0 = x by omega]; rfl
  | 2 =>
    have e1 : jsx ((2 : Fin 4).val : Int) = -1 := by decide
    have e2 : jsy ((2 : Fin 4).val : Int) = 0 := by decide
    rw [e1, e2, show x + -1 = x - 1 by omega, show y + 0 = y by omega]; rfl
  | 3 =>
    have e1 : jsx ((3 : Fin 4).val : Int) = 0 := by decide
    have e2 : jsy ((3 : Fin 4).val : Int) = -1 := by decide
    rw [e1, e2, show y + -1 = y - 1 by omega, show x + 0 = x by omega]; rfl
theorem jf_r (f : Fin 4) : ((f.val : Int) + 1) % 4 = ((f + 1 : Fin 4).val : Int) := by
  match f with
  | 0 => rfl
  | 1 => rfl
  | 2 => rfl
  | 3 => rfl
theorem jf_l (f : Fin 4) : ((f.val : Int) + 3) % 4 = ((f + 3 : Fin 4).val : Int) := by
  match f with
  | 0 => rfl
  | 1 => rfl
  | 2 => rfl
  | 3 => rfl
theorem jnw_b (K : Int → Int → Int) (x y : Int) (f : Fin 4) : jnw K x y (f.val : Int) = ((jbn f (jD K (x - 1) (y - 1)) (jD K x (y - 1)) (jD K (x - 1) y) (jD K x y)).val : Int) := by
  unfold jnw jbn
  rw [jf_r, jf_l, jed_out, jed_out]
  split
  · rfl
  · split <;> rfl
theorem jE_nx {K : Int → Int → Int} {t : jT} (h : jE K t) : jE K (jnx K t) := by
  obtain ⟨x, y, w⟩ := t
  obtain ⟨h0, h1, h2⟩ := h
  obtain ⟨f, rfl⟩ := jw4 h0 h1
  dsimp only at h2
  rw [jed_in] at h2
  unfold jE jnx
  dsimp only
  rw [jnw_b]
  refine ⟨by omega, by omega, ?_⟩
  rw [jed_out]
  exact jb_f1 _ _ _ _ _ h2
theorem jE_inj {K : Int → Int → Int} {t u : jT} (h : jE K t) (g : jE K u) (e : jnx K t = jnx K u) : t = u := by
  obtain ⟨x, y, w⟩ := t
  obtain ⟨x', y', w'⟩ := u
  obtain ⟨h0, h1, h2⟩ := h
  obtain ⟨g0, g1, g2⟩ := g
  obtain ⟨f, rfl⟩ := jw4 h0 h1
  obtain ⟨f', rfl⟩ := jw4 g0 g1
  unfold jnx at e
  dsimp only at e h2 g2
  rw [jed_in] at h2 g2
  rw [jnw_b, jnw_b] at e
  simp only [Prod.mk.injEq] at e
  obtain ⟨e1, e2, e3⟩ := e
  rw [← e1, ← e2] at g2 e3
  have : f = f' := jb_f2 _ _ _ _ _ _ h2 g2 (Fin.ext (by omega))
  subst this
  simp only [Prod.mk.injEq]
  exact ⟨by omega, by omega, trivial⟩
/-- dots lie in five by five -/
def jK5 (K : Int → Int → Int) : Prop := ∀ x y, K x y ≠ -1 → 0 ≤ x ∧ x ≤ 4 ∧ 0 ≤ y ∧ y ≤ 4
theorem jK5_of {w h : Int} {d : Int → Int} (hw : w ≤ 5) (hh : h ≤ 5) : jK5 (jgk w h d) := fun x y z => by
  unfold jgk at z
  split at z
  · omega
  · exact absurd rfl z
theorem jE_cases {K : Int → Int → Int} {x y w : Int} (h : jE K (x, y, w)) : (w = 0 ∧ K x y ≠ -1 ∧ K x (y - 1) = -1) ∨ (w = 1 ∧ K (x - 1) y ≠ -1 ∧ K x y = -1) ∨ (w = 2 ∧ K (x - 1) (y - 1) ≠ -1 ∧ K (x - 1) y = -1) ∨ (w = 3 ∧ K x (y - 1) ≠ -1 ∧ K (x - 1) (y - 1) = -1) := by
  obtain ⟨h0, h1, h2⟩ := h
  dsimp only at h0 h1 h2
  unfold jed at h2
  by_cases w0 : w = 0
  · rw [if_pos w0] at h2; simp only [Bool.and_eq_true, decide_eq_true_eq] at h2; exact Or.inl ⟨w0, h2⟩
  · rw [if_neg w0] at h2
    by_cases w1 : w = 1
    · rw [if_pos w1] at h2; simp only [Bool.and_eq_true, decide_eq_true_eq] at h2; exact Or.inr (Or.inl ⟨w1, h2⟩)
    · rw [if_neg w1] at h2
      by_cases w2 : w = 2
      · rw [if_pos w2] at h2; simp only [Bool.and_eq_true, decide_eq_true_eq] at h2; exact Or.inr (Or.inr (Or.inl ⟨w2, h2⟩))
      · rw [if_neg w2] at h2; simp only [Bool.and_eq_true, decide_eq_true_eq] at h2; exact Or.inr (Or.inr (Or.inr ⟨by omega, h2⟩))
def jside (t : jT) : Int := if t.2.2 = 0 then t.1 + 5 * t.2.1 else if t.2.2 = 1 then 30 + 5 * t.1 + t.2.1 else if t.2.2 = 2 then t.1 - 1 + 5 * t.2.1 else 30 + 5 * t.1 + t.2.1 - 1
theorem jE_pt {K : Int → Int → Int} (hK : jK5 K) {t : jT} (h : jE K t) : 0 ≤ t.1 ∧ t.1 ≤ 5 ∧ 0 ≤ t.2.1 ∧ t.2.1 ≤ 5 ∧ 0 ≤ t.2.2 ∧ t.2.2 ≤ 3 := by
  obtain ⟨x, y, w⟩ := t
  rcases jE_cases h with ⟨rfl, a, b⟩ | ⟨rfl, a, b⟩ | ⟨rfl, a, b⟩ | ⟨rfl, a, b⟩ <;> have := hK _ _ a <;> dsimp only <;> omega
theorem jside_r {K : Int → Int → Int} (hK : jK5 K) {t : jT} (h : jE K t) : 0 ≤ jside t ∧ jside t < 60 := by
  obtain ⟨x, y, w⟩ := t
  rcases jE_cases h with ⟨rfl, a, b⟩ | ⟨rfl, a, b⟩ | ⟨rfl, a, b⟩ | ⟨rfl, a, b⟩ <;> have := hK _ _ a <;> simp [jside] <;> omega
theorem jside_i {K : Int → Int → Int} (hK : jK5 K) {t u : jT} (h : jE K t) (g : jE K u) (e : jside t = jside u) : t = u := by
  obtain ⟨x, y, w⟩ := t
  obtain ⟨x', y', w'⟩ := u
  rcases jE_cases h with ⟨rfl, a, b⟩ | ⟨rfl, a, b⟩ | ⟨rfl, a, b⟩ | ⟨rfl, a, b⟩ <;>
    rcases jE_cases g with ⟨rfl, a', b'⟩ | ⟨rfl, a', b'⟩ | ⟨rfl, a', b'⟩ | ⟨rfl, a', b'⟩ <;>
    have q := hK _ _ a <;> have q' := hK _ _ a' <;> simp [jside] at e
  · have : x = x' := by omega
    have : y = y' := by omega
    subst_vars; rfl
  · omega
  · have e1 : x' - 1 = x := by omega
    have e2 : y = y' := by omega
    subst e2; rw [e1] at b'; exact absurd b' a
  · omega
  · omega
  · have : x = x' := by omega
    have : y = y' := by omega
    subst_vars; rfl
  · omega
  · have e1 : x = x' := by omega
    have e2 : y' - 1 = y := by omega
    subst e1; rw [e2] at a'; exact absurd b a'
  · have e1 : x - 1 = x' := by omega
    have e2 : y = y' := by omega
    subst e2; rw [e1] at b; exact absurd b a'
  · omega
  · have : x = x' := by omega
    have : y = y' := by omega
    subst_vars; rfl
  · omega
  · omega
  · have e1 : x = x' := by omega
    have e2 : y - 1 = y' := by omega
    subst e1; rw [e2] at a; exact absurd b' a
  · omega
  · have : x = x' := by omega
    have : y = y' := by omega
    subst_vars; rfl
/-- n pigeons more than holes -/
theorem jphp (n : Nat) : ∀ f : Nat → Nat, (∀ i, i ≤ n → f i < n) → ∃ i j, i < j ∧ j ≤ n ∧ f i = f j := by
  induction n with
  | zero => intro f h; exact absurd (h 0 (by omega)) (by omega)
  | succ n ih =>
    intro f h
    by_cases hx : ∃ i, i ≤ n ∧ f i = f (n + 1)
    · obtain ⟨i, a, b⟩ := hx
      exact ⟨i, n + 1, by omega, by omega, b⟩
    · have hx : ∀ i, i ≤ n → f i ≠ f (n + 1) := fun i a b => hx ⟨i, a, b⟩
      obtain ⟨i, j, a, b, c⟩ := ih (fun i => if f i = n then f (n + 1) else f i) (fun i hi => by
        have h1 := h i (by omega)
        have h2 := h (n + 1) (by omega)
        have h3 := hx i hi
        split <;> omega)
      refine ⟨i, j, a, by omega, ?_⟩
      have h3 := hx i (by omega)
      have h4 := hx j b
      skip
      by_cases e1 : f i = n
      · by_cases e2 : f j = n
        · omega
        · rw [if_pos e1, if_neg e2] at c; exact absurd c.symm h4
      · by_cases e2 : f j = n
        · rw [if_neg e1, if_pos e2] at c; exact absurd c h3
        · rw [if_neg e1, if_neg e2] at c; exact c
def jit (K : Int → Int → Int) (t : jT) : Nat → jT
  | 0 => t
  | n + 1 => jnx K (jit K t n)
theorem jit_E {K : Int → Int → Int} {t : jT} (h : jE K t) (n : Nat) : jE K (jit K t n) := by
  induction n with
  | zero => exact h
  | succ n ih => exact jE_nx ih
theorem jit_back {K : Int → Int → Int} {t : jT} (h : jE K t) (i d : Nat) (e : jit K t i = jit K t (i + d)) : t = jit K t d := by
  induction i with
  | zero => rw [Nat.zero_add] at e; exact e
  | succ i ih =>
    rw [show i + 1 + d = i + d + 1 by omega] at e
    exact ih (jE_inj (jit_E h _) (jit_E h _) e)
theorem jit_per {K : Int → Int → Int} (hK : jK5 K) {t : jT} (h : jE K t) : ∃ n, n < 60 ∧ jit K t (n + 1) = t := by
  obtain ⟨i, j, a, b, c⟩ := jphp 60 (fun n => (jside (jit K t n)).toNat) (fun i _ => by have := jside_r hK (jit_E h i); omega)
  have r1 := jside_r hK (jit_E h i)
  have r2 := jside_r hK (jit_E h j)
  skip
  have := jside_i hK (jit_E h i) (jit_E h j) (by omega)
  have := jit_back h i (j - i) (by rw [show i + (j - i) = j by omega]; exact this)
  exact ⟨j - i - 1, by omega, by rw [show j - i - 1 + 1 = j - i by omega]; exact this.symm⟩
def jper (K : Int → Int → Int) (t : jT) : Nat := ((List.range 60).find? (fun n => decide (jit K t (n + 1) = t))).getD 0 + 1
theorem jper_p {K : Int → Int → Int} (hK : jK5 K) {t : jT} (h : jE K t) : jit K t (jper K t) = t ∧ jper K t ≤ 60 ∧ 1 ≤ jper K t ∧ ∀ m, 0 < m → m < jper K t → jit K t m ≠ t := by
  obtain ⟨n, hn, e⟩ := jit_per hK h
  unfold jper
  cases hf : (List.range 60).find? (fun n => decide (jit K t (n + 1) = t)) with
  | none =>
    rw [List.find?_eq_none] at hf
    exact absurd e (by have := hf n (List.mem_range.mpr hn); simpa using this)
  | some m =>
    rw [List.find?_range_eq_some] at hf
    obtain ⟨a, b, c⟩ := hf
    refine ⟨by simpa using a, by have := List.mem_range.mp b; simp; omega, by omega, fun q h0 h1 => ?_⟩
    have := c (q - 1) (by simp at h1; omega)
    rw [show q - 1 + 1 = q by omega] at this
    simpa using this
