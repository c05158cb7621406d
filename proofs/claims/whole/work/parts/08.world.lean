/-! the real machine's world that a heap of places stands for -/
def js_v (ad : Nat → Nat) (v : jm_V) : Value :=
  match v with
  | .inl z => .int (Int32.ofInt z)
  | .inr (.inl z) => .long (Int64.ofInt z)
  | .inr (.inr (.inl b)) => .float (UInt32.ofNat b)
  | .inr (.inr (.inr (.inl k))) => .ref (ad k)
  | .inr (.inr (.inr (.inr _))) => .null
def js_fv (ad : Nat → Nat) (hp : jm_H) (k j : Nat) (t : Nat ⊕ Nat) : Value :=
  match t with
  | .inr q => .ref (ad q)
  | .inl t => if t = 1 then .long (Int64.ofInt (hp k j)) else .int (Int32.ofInt (hp k j))
def js_fs (ad : Nat → Nat) (hp : jm_H) (k : Nat) (fs : List (Nat ⊕ Nat)) : List Value := (List.range fs.length).map (fun j => js_fv ad hp k j (fs.getD j (.inl 0)))
abbrev js_AT : Type := (Nat → Int32) ⊕ (Nat → Int64) ⊕ (Nat → UInt32) ⊕ (Nat → UInt64) ⊕ (Nat → Option Nat)
def js_ar (hp : jm_H) (k t : Nat) : js_AT :=
  if t = 1 then .inr (.inl (fun j => Int64.ofInt (hp k j))) else if t = 2 then .inr (.inr (.inl (fun j => UInt32.ofNat (hp k j).toNat))) else .inl (fun j => Int32.ofInt (hp k j))
def js_ce (cy : Nat → ClassId) (ad : Nat → Nat) (hp : jm_H) (k : Nat) : va_E :=
  match jm_sh k with
  | .inl (c, fs) => .inr (c, js_fs ad hp k fs)
  | .inr (t, n) => .inl (cy t, n.toNat, js_ar hp k t)
def js_ws (cy : Nat → ClassId) (ad : Nat → Nat) (hp : jm_H) : va_W := (List.range 78).map (fun k => (ad k, js_ce cy ad hp k))
abbrev js_ty (cy : Nat → ClassId) : List (ClassId × FieldType) := [(cy 0, .int), (cy 1, .long), (cy 2, .float), (cy 3, .boolean)]
def js_A (ad : Nat → Nat) : Nat → Prop := fun q => ∃ k, k < 78 ∧ q = ad k
def js_inj (ad : Nat → Nat) : Prop := ∀ i j, i < 78 → j < 78 → ad i = ad j → i = j
theorem js_ws_at {cy : Nat → ClassId} {ad : Nat → Nat} {hp : jm_H} {k : Nat} (h : k < 78) : (js_ws cy ad hp)[k]? = some (ad k, js_ce cy ad hp k) := by
  unfold js_ws
  rw [List.getElem?_map, List.getElem?_range h]
  rfl
theorem js_ws_len {cy : Nat → ClassId} {ad : Nat → Nat} {hp : jm_H} : (js_ws cy ad hp).length = 78 := by simp [js_ws]
theorem js_ws_inv {cy : Nat → ClassId} {ad : Nat → Nat} {hp : jm_H} {k : Nat} {q : Nat × va_E} (h : (js_ws cy ad hp)[k]? = some q) : k < 78 ∧ q = (ad k, js_ce cy ad hp k) := by
  have h1 : k < 78 := by
    have := (List.getElem?_eq_some_iff.mp h).1
    rwa [js_ws_len] at this
  rw [js_ws_at h1] at h
  exact ⟨h1, (Option.some.inj h).symm⟩
theorem js_D {cy : Nat → ClassId} {ad : Nat → Nat} {hp : jm_H} (hi : js_inj ad) : va_D (js_A ad) (js_ws cy ad hp) := by
  refine ⟨fun i j p q h1 h2 e => ?_, fun k q h => ?_⟩
  · obtain ⟨a1, rfl⟩ := js_ws_inv h1
    obtain ⟨a2, rfl⟩ := js_ws_inv h2
    exact hi i j a1 a2 e
  · obtain ⟨a1, rfl⟩ := js_ws_inv h
    exact ⟨k, a1, rfl⟩
theorem js_hs_ne {hp : jm_H} {k a : Nat} {j v : Int} (h : a ≠ k) : jm_hs hp k j v a = hp a := by
  unfold jm_hs
  have : Nat.beq a k = false := by
    cases hb : Nat.beq a k with
    | false => rfl
    | true => exact absurd (Nat.eq_of_beq_eq_true hb) h
  rw [this]; rfl
theorem js_hs_eq {hp : jm_H} {k : Nat} {j v b : Int} : jm_hs hp k j v k b = if b = j then v else hp k b := by
  unfold jm_hs
  have : Nat.beq k k = true := Nat.beq_refl k
  rw [this]
  by_cases h : b = j <;> simp [h]
theorem js_ws_set {cy : Nat → ClassId} {ad : Nat → Nat} {hp : jm_H} {k : Nat} {j v : Int} {x : va_E} (h : x = js_ce cy ad (jm_hs hp k j v) k) : (js_ws cy ad hp).set k (ad k, x) = js_ws cy ad (jm_hs hp k j v) := by
  apply List.ext_getElem?
  intro i
  by_cases hi : i < 78
  · by_cases hk : i = k
    · subst hk
      rw [List.getElem?_set_self (by rw [js_ws_len]; exact hi), js_ws_at hi, h]
    · rw [List.getElem?_set_ne (fun e => hk e.symm), js_ws_at hi, js_ws_at hi]
      unfold js_ce js_fs js_fv js_ar
      rw [js_hs_ne hk]
  · rw [List.getElem?_eq_none (by rw [List.length_set, js_ws_len]; omega), List.getElem?_eq_none (by rw [js_ws_len]; omega)]
/-- small places are those of the world -/
theorem js_lt_o {k c : Nat} {fs : List (Nat ⊕ Nat)} (h : jm_sh k = .inl (c, fs)) : k < 78 ∨ k = 83 := by
  by_cases hk : k < 78
  · exact Or.inl hk
  · by_cases h2 : k < 85
    · have : k = 78 ∨ k = 79 ∨ k = 80 ∨ k = 81 ∨ k = 82 ∨ k = 83 ∨ k = 84 := by omega
      rcases this with rfl | rfl | rfl | rfl | rfl | rfl | rfl <;> first | exact Or.inr rfl | cases h
    · have : jm_sh k = .inr (99, 0) := by
        unfold jm_sh
        rw [List.getD_eq_getElem?_getD, List.getElem?_eq_none (by show 85 ≤ k; omega)]
        rfl
      rw [this] at h; cases h
theorem js_lt_a {k t : Nat} {n : Int} (h : jm_sh k = .inr (t, n)) (ht : t < 10) : k < 78 := by
  by_cases hk : k < 78
  · exact hk
  · by_cases h2 : k < 85
    · have : k = 78 ∨ k = 79 ∨ k = 80 ∨ k = 81 ∨ k = 82 ∨ k = 83 ∨ k = 84 := by omega
      rcases this with rfl | rfl | rfl | rfl | rfl | rfl | rfl <;> first | (cases h; done) | (cases h; omega)
    · have : jm_sh k = .inr (99, 0) := by
        unfold jm_sh
        rw [List.getD_eq_getElem?_getD, List.getElem?_eq_none (by show 85 ≤ k; omega)]
        rfl
      rw [this] at h; cases h; omega
/-- the static arrays: places, lengths, tags -/
theorem js_st_a {k t : Nat} {n : Int} (h : jm_sh k = .inr (t, n)) (ht : 10 ≤ t) (h99 : t < 99) : (t = 10 ∧ n = 4 ∧ (k = 78 ∨ k = 79 ∨ k = 80 ∨ k = 81)) ∨ (t = 11 ∧ k = 82) ∨ (t = 14 ∧ n = 5 ∧ k = 84) := by
  by_cases hk : k < 85
  · have key : ∀ k, k < 85 → ∀ t n, jm_sh k = .inr (t, n) → 10 ≤ t → (t = 10 ∧ n = 4 ∧ (k = 78 ∨ k = 79 ∨ k = 80 ∨ k = 81)) ∨ (t = 11 ∧ k = 82) ∨ (t = 14 ∧ n = 5 ∧ k = 84) := by
      intro k hk t n h ht
      by_cases h7 : k < 78
      · exfalso
        have hall : (List.range 78).all (fun k => match jm_sh k with | .inr (t, _) => Nat.blt t 10 | _ => true) = true := by decide +kernel
        have h1 := List.all_eq_true.mp hall k (List.mem_range.mpr h7)
        rw [h] at h1
        simp only [Nat.blt_eq] at h1
        omega
      · have : k = 78 ∨ k = 79 ∨ k = 80 ∨ k = 81 ∨ k = 82 ∨ k = 83 ∨ k = 84 := by omega
        rcases this with rfl | rfl | rfl | rfl | rfl | rfl | rfl <;> (cases h <;> simp)
    exact key k hk t n h ht
  · have : jm_sh k = .inr (99, 0) := by
      unfold jm_sh
      rw [List.getD_eq_getElem?_getD, List.getElem?_eq_none (by show 85 ≤ k; omega)]
      rfl
    rw [this] at h; cases h; omega
/-! locals -/
def js_lv (ad : Nat → Nat) (A : List jm_V) : List (Nat × Value) := A.zipIdx.filterMap (fun q => match q.1 with
  | .inr (.inr (.inr (.inr _))) => none
  | v => some (q.2, js_v ad v))
def js_set (v : jm_V) : Prop := v ≠ jU
theorem js_lv_mem {ad : Nat → Nat} {A : List jm_V} {j : Nat} {v : jm_V} (h : A[j]? = some v) (hs : v ≠ jU) : (j, js_v ad v) ∈ js_lv ad A := by
  unfold js_lv
  refine List.mem_filterMap.mpr ⟨(v, j), List.mem_zipIdx_iff_getElem?.mpr h, ?_⟩
  rcases v with z | z | z | z | z
  · rfl
  · rfl
  · rfl
  · rfl
  · exact absurd rfl hs
theorem js_lv_inv {ad : Nat → Nat} {A : List jm_V} {q : Nat × Value} (h : q ∈ js_lv ad A) : ∃ v, A[q.1]? = some v ∧ v ≠ jU ∧ q.2 = js_v ad v := by
  unfold js_lv at h
  obtain ⟨⟨v, j⟩, h1, h2⟩ := List.mem_filterMap.mp h
  have h3 := List.mem_zipIdx_iff_getElem?.mp h1
  rcases v with z | z | z | z | z
  · cases h2; exact ⟨_, h3, (fun e => by cases e), rfl⟩
  · cases h2; exact ⟨_, h3, (fun e => by cases e), rfl⟩
  · cases h2; exact ⟨_, h3, (fun e => by cases e), rfl⟩
  · cases h2; exact ⟨_, h3, (fun e => by cases e), rfl⟩
  · cases h2
theorem js_has_of {ad : Nat → Nat} {ls : Array Slot} {nL : Nat} {A : List jm_V} {L : List (Nat × Value)} (h : lv_has ls nL L) (hm : ∀ j v, A[j]? = some v → v ≠ jU → (j, js_v ad v) ∈ L) : lv_has ls nL (js_lv ad A) :=
  ⟨h.1, h.2.1, fun q hq => by
    obtain ⟨v, h1, h2, h3⟩ := js_lv_inv hq
    have := h.2.2 _ (hm _ _ h1 h2)
    rw [h3]; exact this⟩
theorem js_load {ad : Nat → Nat} {ls : Array Slot} {nL : Nat} {A : List jm_V} {k : Nat} {v : jm_V} (h : lv_has ls nL (js_lv ad A)) (hk : A[k]? = some v) (hs : v ≠ jU) : ls[k]? = some (.val (js_v ad v)) := h.2.2 _ (js_lv_mem hk hs)
theorem js_cl_get {A : List jm_V} {k j : Nat} {v : jm_V} (hj : j ≠ k) (h : (jm_cl A k)[j]? = some v) (hs : v ≠ jU) : A[j]? = some v ∧ ¬ (j + 1 = k ∧ jm_cat v = 2) := by
  unfold jm_cl at h
  cases k with
  | zero => exact ⟨h, fun e => by omega⟩
  | succ k =>
    dsimp only at h
    cases hA : A[k]? with
    | none => rw [hA] at h; dsimp only at h; exact ⟨h, fun e => by obtain ⟨e1, -⟩ := e; rw [show j = k by omega, hA] at h; cases h⟩
    | some w =>
      rw [hA] at h
      by_cases hjk : j = k
      · subst hjk
        rcases w with z | z | z | z | z
        · dsimp only at h; rw [hA] at h; cases h; exact ⟨hA, fun e => by cases e.2⟩
        · dsimp only at h
          rw [List.getElem?_set_self (List.getElem?_eq_some_iff.mp hA).1] at h
          exact absurd (Option.some.inj h).symm hs
        · dsimp only at h; rw [hA] at h; cases h; exact ⟨hA, fun e => by cases e.2⟩
        · dsimp only at h; rw [hA] at h; cases h; exact ⟨hA, fun e => by cases e.2⟩
        · dsimp only at h; rw [hA] at h; cases h; exact ⟨hA, fun e => by cases e.2⟩
      · refine ⟨?_, fun e => hjk (by omega)⟩
        rcases w with z | z | z | z | z
        · exact h
        · dsimp only at h; rw [List.getElem?_set_ne (fun e => hjk e.symm)] at h; exact h
        · exact h
        · exact h
        · exact h
theorem js_cl_len {A : List jm_V} {k : Nat} : (jm_cl A k).length = A.length := by
  unfold jm_cl
  cases k with
  | zero => rfl
  | succ k =>
    dsimp only
    cases hA : A[k]? with
    | none => rfl
    | some w => rcases w with z | z | z | z | z <;> simp
theorem js_cat (ad : Nat → Nat) (v : jm_V) : (js_v ad v).category = jm_cat v := by
  rcases v with z | z | z | z | z <;> rfl
theorem js_store1 {ad : Nat → Nat} {ls : Array Slot} {nL : Nat} {A B : List jm_V} {k : Nat} {v : jm_V} (hB : jm_so A k v = some B) (h : lv_has ls nL ((k, js_v ad v) :: (js_lv ad A).filter (fun q => !(q.1 == k) && !(q.1 + 1 == k && q.2.category == 2)))) : lv_has ls nL (js_lv ad B) ∧ B.length = A.length ∧ k < A.length := by
  unfold jm_so at hB
  cases hk : Nat.blt k A.length with
  | false => rw [hk] at hB; cases hB
  | true =>
    rw [hk] at hB
    have hk' : k < A.length := by simpa using hk
    cases hB
    refine ⟨js_has_of h fun j w hw hs => ?_, by rw [List.length_set, js_cl_len], hk'⟩
    by_cases hj : j = k
    · subst hj
      rw [List.getElem?_set_self (by rw [js_cl_len]; exact hk')] at hw
      cases hw
      exact List.mem_cons_self
    · rw [List.getElem?_set_ne (fun e => hj e.symm)] at hw
      obtain ⟨h1, h2⟩ := js_cl_get hj hw hs
      refine List.mem_cons_of_mem _ (List.mem_filter.mpr ⟨js_lv_mem h1 hs, ?_⟩)
      simp only [js_cat]
      simp [hj]
      omega
theorem js_store2 {ad : Nat → Nat} {ls : Array Slot} {nL : Nat} {A B : List jm_V} {k : Nat} {v : jm_V} (hB : jm_so2 A k v = some B) (h : lv_has ls nL ((k, js_v ad v) :: (js_lv ad A).filter (fun q => !(q.1 == k) && (!(q.1 == k + 1) && !(q.1 + 1 == k && q.2.category == 2))))) : lv_has ls nL (js_lv ad B) ∧ B.length = A.length ∧ k + 1 < A.length := by
  unfold jm_so2 at hB
  cases hk : Nat.blt (k + 1) A.length with
  | false => rw [hk] at hB; cases hB
  | true =>
    rw [hk] at hB
    have hk' : k + 1 < A.length := by simpa using hk
    cases hB
    refine ⟨js_has_of h fun j w hw hs => ?_, by rw [List.length_set, List.length_set, js_cl_len], hk'⟩
    by_cases hj1 : j = k + 1
    · subst hj1
      rw [List.getElem?_set_self (by rw [List.length_set, js_cl_len]; exact hk')] at hw
      exact absurd (Option.some.inj hw).symm hs
    · rw [List.getElem?_set_ne (fun e => hj1 e.symm)] at hw
      by_cases hj : j = k
      · subst hj
        rw [List.getElem?_set_self (by rw [js_cl_len]; omega)] at hw
        cases hw
        exact List.mem_cons_self
      · rw [List.getElem?_set_ne (fun e => hj e.symm)] at hw
        obtain ⟨h1, h2⟩ := js_cl_get hj hw hs
        refine List.mem_cons_of_mem _ (List.mem_filter.mpr ⟨js_lv_mem h1 hs, ?_⟩)
        simp only [js_cat]
        simp [hj, hj1]
        omega
/-! the words that are handed on over calls: those of the tables, and those of nest mates -/
def jn_nest (w : Cond) : Bool := match w with
  | .fieldLinkNest _ _ _ _ _ _ => true
  | .methodLinkNest _ _ _ _ => true
  | _ => false
def js_T : List Cond := lw_tbl.filter (fun w => goodWord w || jn_nest w)
def js_Tg : List Cond := lw_tbl.filter goodWord
theorem js_t {w : Cond} (h : w ∈ lw_tbl) (g : (goodWord w || jn_nest w) = true) : w ∈ js_T := List.mem_filter.mpr ⟨h, g⟩
theorem js_tg {w : Cond} (h : w ∈ lw_tbl) (g : goodWord w = true) : w ∈ js_Tg := List.mem_filter.mpr ⟨h, g⟩
def js_N (U : State) : Prop := ∀ w ∈ lw_tbl, jn_nest w = true → va_Nw w U
