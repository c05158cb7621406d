/-! orbits, and the outlines in their order -/
def jorb (K : Int → Int → Int) (t : jT) : List jT := (List.range (jper K t)).map (jit K t)
theorem jorb_len (K : Int → Int → Int) (t : jT) : (jorb K t).length = jper K t := by unfold jorb; simp
theorem jorb_mem {K : Int → Int → Int} {t u : jT} : u ∈ jorb K t ↔ ∃ n, n < jper K t ∧ jit K t n = u := by unfold jorb; simp
theorem jorb_get {K : Int → Int → Int} {t : jT} {n : Nat} (h : n < jper K t) : (jorb K t)[n]? = some (jit K t n) := by unfold jorb; simp [h]
theorem jorb_E {K : Int → Int → Int} {t u : jT} (h : jE K t) (hu : u ∈ jorb K t) : jE K u := by
  obtain ⟨n, _, rfl⟩ := jorb_mem.mp hu
  exact jit_E h n
theorem jorb_back {K : Int → Int → Int} (hK : jK5 K) {t v : jT} (h : jE K t) (hv : jE K v) (hu : jnx K v ∈ jorb K t) : v ∈ jorb K t := by
  obtain ⟨n, hn, e⟩ := jorb_mem.mp hu
  obtain ⟨p1, p2, p3, p4⟩ := jper_p hK h
  refine jorb_mem.mpr ?_
  cases n with
  | zero =>
    refine ⟨jper K t - 1, by omega, ?_⟩
    refine jE_inj (jit_E h _) hv ?_
    have : jnx K (jit K t (jper K t - 1)) = jit K t (jper K t) := by
      conv => rhs; rw [show jper K t = jper K t - 1 + 1 by omega]
      rfl
    rw [this, p1]; exact e
  | succ n => exact ⟨n, by omega, jE_inj (jit_E h _) hv e⟩
theorem jorb_nodup {K : Int → Int → Int} (hK : jK5 K) {t : jT} (h : jE K t) : ∀ i j, i < j → j < jper K t → jit K t i ≠ jit K t j := fun i j a b e => by
  have := jit_back h i (j - i) (by rw [show i + (j - i) = j by omega]; exact e)
  exact (jper_p hK h).2.2.2 (j - i) (by omega) (by omega) this.symm
theorem jorb_nd {K : Int → Int → Int} (hK : jK5 K) {t : jT} (h : jE K t) : (jorb K t).Nodup := by
  unfold jorb List.Nodup
  rw [List.pairwise_map]
  refine List.Pairwise.imp_of_mem ?_ List.pairwise_lt_range
  intro a b _ hb hlt
  exact jorb_nodup hK h a b hlt (List.mem_range.mp hb)
/-- no orbit of fewer than four -/
theorem jpar {K : Int → Int → Int} {t : jT} (h : jE K t) : ((jnx K t).1 + (jnx K t).2.1 - t.1 - t.2.1) % 2 = 1 := by
  obtain ⟨x, y, w⟩ := t
  obtain ⟨h0, h1, _⟩ := h
  dsimp only at h0 h1
  have : w = 0 ∨ w = 1 ∨ w = 2 ∨ w = 3 := by omega
  unfold jnx
  rcases this with rfl | rfl | rfl | rfl <;> simp [jsx, jsy] <;> omega
theorem jpar_n {K : Int → Int → Int} {t : jT} (h : jE K t) (n : Nat) : ((jit K t n).1 + (jit K t n).2.1 - t.1 - t.2.1 - n) % 2 = 0 := by
  induction n with
  | zero => simp only [jit]; omega
  | succ n ih =>
    have := jpar (jit_E h n)
    show ((jnx K (jit K t n)).1 + (jnx K (jit K t n)).2.1 - t.1 - t.2.1 - ((n + 1 : Nat) : Int)) % 2 = 0
    push_cast
    omega
theorem jb_two : ∀ (w : Fin 4) (a b c d : Bool), ¬ (jsx w.val + jsx (jbn w a b c d).val = 0 ∧ jsy w.val + jsy (jbn w a b c d).val = 0) := by decide
theorem jper_4 {K : Int → Int → Int} (hK : jK5 K) {t : jT} (h : jE K t) : 4 ≤ jper K t := by
  obtain ⟨p1, p2, p3, p4⟩ := jper_p hK h
  have q := jpar_n h (jper K t)
  rw [p1] at q
  have h2 : jper K t ≠ 2 := fun e => by
    rw [e] at p1
    obtain ⟨x, y, w⟩ := t
    obtain ⟨h0, h1, _⟩ := h
    obtain ⟨f, rfl⟩ := jw4 h0 h1
    have e1 : jnx K (jnx K (x, y, (f.val : Int))) = (x, y, (f.val : Int)) := p1
    unfold jnx at e1
    dsimp only at e1
    rw [jnw_b] at e1
    simp only [Prod.mk.injEq] at e1
    obtain ⟨e1, e2, _⟩ := e1
    refine jb_two f (jD K (x + jsx f.val - 1) (y + jsy f.val - 1)) (jD K (x + jsx f.val) (y + jsy f.val - 1)) (jD K (x + jsx f.val - 1) (y + jsy f.val)) (jD K (x + jsx f.val) (y + jsy f.val)) ⟨?_, ?_⟩
    · omega
    · omega
  omega
/-- the order in which edges are looked at -/
def jcand (c : Nat) : jT := (((c / 4 / 6 : Nat) : Int), ((c / 4 % 6 : Nat) : Int), if c % 4 = 0 then 2 else if c % 4 = 1 then 3 else if c % 4 = 2 then 1 else 0)
def jSc (K : Int → Int → Int) : Nat → List (List jT)
  | 0 => []
  | c + 1 => if jed K (jcand c).1 (jcand c).2.1 (jcand c).2.2 = true ∧ jcand c ∉ (jSc K c).flatten then jSc K c ++ [jorb K (jcand c)] else jSc K c
theorem jcand_w (c : Nat) : 0 ≤ (jcand c).2.2 ∧ (jcand c).2.2 ≤ 3 := by unfold jcand; dsimp only; (repeat' split) <;> omega
def jInv (K : Int → Int → Int) (O : List (List jT)) : Prop := (∀ o ∈ O, ∃ s, jE K s ∧ o = jorb K s) ∧ O.flatten.Nodup ∧ ∀ v, jE K v → jnx K v ∈ O.flatten → v ∈ O.flatten
theorem jInv_E {K : Int → Int → Int} {O : List (List jT)} (h : jInv K O) {u : jT} (hu : u ∈ O.flatten) : jE K u := by
  obtain ⟨o, ho, hu⟩ := List.mem_flatten.mp hu
  obtain ⟨s, hs, rfl⟩ := h.1 o ho
  exact jorb_E hs hu
/-- an orbit that begins outside stays outside -/
theorem jorb_out {K : Int → Int → Int} {F : List jT} (hb : ∀ v, jE K v → jnx K v ∈ F → v ∈ F) {t : jT} (h : jE K t) (ht : t ∉ F) (n : Nat) : jit K t n ∉ F := by
  induction n with
  | zero => exact ht
  | succ n ih => exact fun z => ih (hb _ (jit_E h n) z)
theorem jInv_add {K : Int → Int → Int} (hK : jK5 K) {O : List (List jT)} (h : jInv K O) {t : jT} (ht : jE K t) (hn : t ∉ O.flatten) : jInv K (O ++ [jorb K t]) := by
  obtain ⟨h1, h2, h3⟩ := h
  have ef : (O ++ [jorb K t]).flatten = O.flatten ++ jorb K t := by simp
  refine ⟨fun o ho => ?_, ?_, fun v hv hm => ?_⟩
  · rcases List.mem_append.mp ho with ho | ho
    · exact h1 o ho
    · rw [List.mem_singleton] at ho; exact ⟨t, ht, ho⟩
  · rw [ef, List.nodup_append]
    refine ⟨h2, jorb_nd hK ht, fun a ha b hb e => ?_⟩
    obtain ⟨n, _, rfl⟩ := jorb_mem.mp hb
    exact jorb_out h3 ht hn n (e ▸ ha)
  · rw [ef] at hm ⊢
    rcases List.mem_append.mp hm with hm | hm
    · exact List.mem_append.mpr (Or.inl (h3 v hv hm))
    · exact List.mem_append.mpr (Or.inr (jorb_back hK ht hv hm))
theorem jSc_inv {K : Int → Int → Int} (hK : jK5 K) (c : Nat) : jInv K (jSc K c) := by
  induction c with
  | zero => exact ⟨fun o ho => by simp [jSc] at ho, by simp [jSc], fun v _ hm => by simp [jSc] at hm⟩
  | succ c ih =>
    unfold jSc
    split
    · rename_i h
      exact jInv_add hK ih ⟨(jcand_w c).1, (jcand_w c).2, h.1⟩ h.2
    · exact ih
theorem jnd_len {K : Int → Int → Int} (hK : jK5 K) {F : List jT} (hE : ∀ u ∈ F, jE K u) (hn : F.Nodup) : F.length ≤ 60 := by
  by_cases h : F.length ≤ 60
  · exact h
  · exfalso
    obtain ⟨i, j, a, b, c⟩ := jphp 60 (fun n => if hlt : n < F.length then (jside F[n]).toNat else 0) (fun i hi => by
      have hlt : i < F.length := by omega
      rw [dif_pos hlt]
      have := jside_r hK (hE F[i] (List.getElem_mem hlt))
      omega)
    have hi : i < F.length := by omega
    have hj : j < F.length := by omega
    rw [dif_pos hi, dif_pos hj] at c
    have r1 := jside_r hK (hE F[i] (List.getElem_mem hi))
    have r2 := jside_r hK (hE F[j] (List.getElem_mem hj))
    have e := jside_i hK (hE F[i] (List.getElem_mem hi)) (hE F[j] (List.getElem_mem hj)) (by omega)
    exact (List.pairwise_iff_getElem.mp hn) i j hi hj a e
theorem jInv_60 {K : Int → Int → Int} (hK : jK5 K) {O : List (List jT)} (h : jInv K O) : O.flatten.length ≤ 60 := jnd_len hK (fun _ hu => jInv_E h hu) h.2.1
theorem jInv_4 {K : Int → Int → Int} (hK : jK5 K) {O : List (List jT)} (h : ∀ o ∈ O, ∃ s, jE K s ∧ o = jorb K s) : 4 * O.length ≤ O.flatten.length := by
  induction O with
  | nil => simp
  | cons o O ih =>
    have h1 := ih (fun o' ho => h o' (List.mem_cons_of_mem _ ho))
    obtain ⟨s, hs, e⟩ := h o (by simp)
    have h2 := jper_4 hK hs
    have h3 : o.length = jper K s := by rw [e, jorb_len]
    simp only [List.flatten_cons, List.length_append, List.length_cons]
    omega
theorem jInv_15 {K : Int → Int → Int} (hK : jK5 K) {O : List (List jT)} (h : jInv K O) : O.length ≤ 15 := by
  have := jInv_4 hK h.1
  have := jInv_60 hK h
  omega
/-- while an orbit is gone along -/
def jpart (K : Int → Int → Int) (O : List (List jT)) (t : jT) (m : Nat) : List jT := O.flatten ++ (List.range m).map (jit K t)
theorem jpart_0 (K : Int → Int → Int) (O : List (List jT)) (t : jT) : jpart K O t 0 = O.flatten := by simp [jpart]
theorem jpart_s (K : Int → Int → Int) (O : List (List jT)) (t : jT) (m : Nat) : jpart K O t (m + 1) = jpart K O t m ++ [jit K t m] := by unfold jpart; rw [List.range_succ, List.map_append, ← List.append_assoc]; rfl
theorem jpart_p (K : Int → Int → Int) (O : List (List jT)) (t : jT) : jpart K O t (jper K t) = (O ++ [jorb K t]).flatten := by simp [jpart, jorb]
theorem jpart_len (K : Int → Int → Int) (O : List (List jT)) (t : jT) (m : Nat) : (jpart K O t m).length = O.flatten.length + m := by simp [jpart]
theorem jpart_60 {K : Int → Int → Int} (hK : jK5 K) {O : List (List jT)} (h : jInv K O) {t : jT} (ht : jE K t) (hn : t ∉ O.flatten) : O.flatten.length + jper K t ≤ 60 := by
  have := jInv_60 hK (jInv_add hK h ht hn)
  rw [← jpart_p, jpart_len] at this
  exact this
/-- the next one is gone already just when the way round is done -/
theorem jpart_mem {K : Int → Int → Int} (hK : jK5 K) {O : List (List jT)} (h : jInv K O) {t : jT} (ht : jE K t) (hn : t ∉ O.flatten) {m : Nat} (hm : 0 < m) (hm1 : m ≤ jper K t) : (jit K t m ∈ jpart K O t m ↔ m = jper K t) ∧ (jit K t m = t ↔ m = jper K t) := by
  obtain ⟨p1, p2, p3, p4⟩ := jper_p hK ht
  have hb : jit K t m = t ↔ m = jper K t := ⟨fun e => by
    by_cases hlt : m < jper K t
    · exact absurd e (p4 m hm hlt)
    · omega, fun e => by rw [e]; exact p1⟩
  refine ⟨⟨fun z => ?_, fun e => ?_⟩, hb⟩
  · rcases List.mem_append.mp z with z | z
    · exact absurd z (jorb_out h.2.2 ht hn m)
    · obtain ⟨i, hi, e⟩ := List.mem_map.mp z
      have hi := List.mem_range.mp hi
      by_cases hlt : m < jper K t
      · exact absurd e (jorb_nodup hK ht i m hi hlt)
      · omega
  · refine List.mem_append.mpr (Or.inr (List.mem_map.mpr ⟨0, List.mem_range.mpr hm, ?_⟩))
    rw [hb.mpr e]; rfl
