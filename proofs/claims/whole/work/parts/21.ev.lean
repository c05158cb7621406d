/-! rows of the machine over Int: a branch, an array's element, a call .. -/
abbrev jR32 (a : Int) : Prop := -2147483648 ≤ a ∧ a ≤ 2147483647
abbrev jR64 (a : Int) : Prop := -9223372036854775808 ≤ a ∧ a ≤ 9223372036854775807
def jb (b : Bool) : Int := bif b then 1 else 0
theorem jb_t : jb true = 1 := rfl
theorem jb_f : jb false = 0 := rfl
theorem jb_01 (b : Bool) : jb b = 0 ∨ jb b = 1 := by cases b <;> simp [jb]
theorem jb_ge (b : Bool) : 0 ≤ jb b ∧ jb b ≤ 1 := by cases b <;> simp [jb]
theorem jw32 {a : Int} (h : jR32 a) : jm_w32 a = a := Int32.toInt_ofInt_of_le h.1 (by omega)
theorem jw64 {a : Int} (h : jR64 a) : jm_w64 a = a := Int64.toInt_ofInt_of_le h.1 (by omega)
theorem jw32_r (a : Int) : jR32 (jm_w32 a) := ⟨Int32.le_toInt _, by have := Int32.toInt_lt (Int32.ofInt a); unfold jm_w32; omega⟩
section Ev
variable {x pc nx tg : Nat} {A r : List jm_V} {hp : jm_H} {Q : Option jm_V → jm_H → Prop} {a b o : Int}
theorem jE_in {i : Instr} {st A' st' : List jm_V} {pc' : Nat} {hp' : jm_H} (hf : jm_fe x pc = some (i, nx, tg)) (hi : jm_in x (jm_me x).1 (jm_me x).2.2.2.2.1 pc i nx tg A st hp = some (.inl (pc', A', st', hp'))) (k : jm_Ev x pc' A' st' hp' Q) : jm_Ev x pc A st hp Q := by
  refine jm_Ev.go ?_ k
  unfold jm_go
  rw [hf]
  exact hi
theorem jE_icmp {cd : ClassFile.Cond} (hf : jm_fe x pc = some (.if_icmp cd o, nx, tg)) (k : jm_Ev x (bif jm_cmp cd (jm_w32 a) (jm_w32 b) then tg else nx) A r hp Q) : jm_Ev x pc A (jI b :: jI a :: r) hp Q := jE_in hf rfl k
theorem jE_ifc {cd : ClassFile.Cond} (hf : jm_fe x pc = some (.ifCond cd o, nx, tg)) (k : jm_Ev x (bif jm_cmp cd (jm_w32 a) 0 then tg else nx) A r hp Q) : jm_Ev x pc A (jI a :: r) hp Q := jE_in hf rfl k
theorem jE_bif {P : Prop} {i : Decidable P} (h1 : P → jm_Ev x tg A r hp Q) (h2 : ¬ P → jm_Ev x nx A r hp Q) : jm_Ev x (bif @decide P i then tg else nx) A r hp Q := by
  by_cases h : P
  · rw [js_bif_t _ h]; exact h1 h
  · rw [js_bif_f _ h]; exact h2 h
theorem jE_icmp_eq (hf : jm_fe x pc = some (.if_icmp .eq o, nx, tg)) (ha : jR32 a) (hb : jR32 b) (h1 : a = b → jm_Ev x tg A r hp Q) (h2 : a ≠ b → jm_Ev x nx A r hp Q) : jm_Ev x pc A (jI b :: jI a :: r) hp Q := by
  refine jE_icmp hf ?_; rw [jw32 ha, jw32 hb]; exact jE_bif h1 h2
theorem jE_icmp_ne (hf : jm_fe x pc = some (.if_icmp .ne o, nx, tg)) (ha : jR32 a) (hb : jR32 b) (h1 : a ≠ b → jm_Ev x tg A r hp Q) (h2 : a = b → jm_Ev x nx A r hp Q) : jm_Ev x pc A (jI b :: jI a :: r) hp Q := by
  refine jE_icmp hf ?_; rw [jw32 ha, jw32 hb]; exact jE_bif h1 (fun h => h2 (Decidable.not_not.mp h))
theorem jE_icmp_lt (hf : jm_fe x pc = some (.if_icmp .lt o, nx, tg)) (ha : jR32 a) (hb : jR32 b) (h1 : a < b → jm_Ev x tg A r hp Q) (h2 : b ≤ a → jm_Ev x nx A r hp Q) : jm_Ev x pc A (jI b :: jI a :: r) hp Q := by
  refine jE_icmp hf ?_; rw [jw32 ha, jw32 hb]; exact jE_bif h1 (fun h => h2 (by omega))
theorem jE_icmp_ge (hf : jm_fe x pc = some (.if_icmp .ge o, nx, tg)) (ha : jR32 a) (hb : jR32 b) (h1 : b ≤ a → jm_Ev x tg A r hp Q) (h2 : a < b → jm_Ev x nx A r hp Q) : jm_Ev x pc A (jI b :: jI a :: r) hp Q := by
  refine jE_icmp hf ?_; rw [jw32 ha, jw32 hb]; exact jE_bif h1 (fun h => h2 (by omega))
theorem jE_icmp_gt (hf : jm_fe x pc = some (.if_icmp .gt o, nx, tg)) (ha : jR32 a) (hb : jR32 b) (h1 : b < a → jm_Ev x tg A r hp Q) (h2 : a ≤ b → jm_Ev x nx A r hp Q) : jm_Ev x pc A (jI b :: jI a :: r) hp Q := by
  refine jE_icmp hf ?_; rw [jw32 ha, jw32 hb]; exact jE_bif h1 (fun h => h2 (by omega))
theorem jE_icmp_le (hf : jm_fe x pc = some (.if_icmp .le o, nx, tg)) (ha : jR32 a) (hb : jR32 b) (h1 : a ≤ b → jm_Ev x tg A r hp Q) (h2 : b < a → jm_Ev x nx A r hp Q) : jm_Ev x pc A (jI b :: jI a :: r) hp Q := by
  refine jE_icmp hf ?_; rw [jw32 ha, jw32 hb]; exact jE_bif h1 (fun h => h2 (by omega))
theorem jE_if_eq (hf : jm_fe x pc = some (.ifCond .eq o, nx, tg)) (ha : jR32 a) (h1 : a = 0 → jm_Ev x tg A r hp Q) (h2 : a ≠ 0 → jm_Ev x nx A r hp Q) : jm_Ev x pc A (jI a :: r) hp Q := by
  refine jE_ifc hf ?_; rw [jw32 ha]; exact jE_bif h1 h2
theorem jE_if_ne (hf : jm_fe x pc = some (.ifCond .ne o, nx, tg)) (ha : jR32 a) (h1 : a ≠ 0 → jm_Ev x tg A r hp Q) (h2 : a = 0 → jm_Ev x nx A r hp Q) : jm_Ev x pc A (jI a :: r) hp Q := by
  refine jE_ifc hf ?_; rw [jw32 ha]; exact jE_bif h1 (fun h => h2 (Decidable.not_not.mp h))
theorem jE_if_lt (hf : jm_fe x pc = some (.ifCond .lt o, nx, tg)) (ha : jR32 a) (h1 : a < 0 → jm_Ev x tg A r hp Q) (h2 : 0 ≤ a → jm_Ev x nx A r hp Q) : jm_Ev x pc A (jI a :: r) hp Q := by
  refine jE_ifc hf ?_; rw [jw32 ha]; exact jE_bif h1 (fun h => h2 (by omega))
theorem jE_if_ge (hf : jm_fe x pc = some (.ifCond .ge o, nx, tg)) (ha : jR32 a) (h1 : 0 ≤ a → jm_Ev x tg A r hp Q) (h2 : a < 0 → jm_Ev x nx A r hp Q) : jm_Ev x pc A (jI a :: r) hp Q := by
  refine jE_ifc hf ?_; rw [jw32 ha]; exact jE_bif h1 (fun h => h2 (by omega))
theorem jE_if_gt (hf : jm_fe x pc = some (.ifCond .gt o, nx, tg)) (ha : jR32 a) (h1 : 0 < a → jm_Ev x tg A r hp Q) (h2 : a ≤ 0 → jm_Ev x nx A r hp Q) : jm_Ev x pc A (jI a :: r) hp Q := by
  refine jE_ifc hf ?_; rw [jw32 ha]; exact jE_bif h1 (fun h => h2 (by omega))
theorem jE_if_le (hf : jm_fe x pc = some (.ifCond .le o, nx, tg)) (ha : jR32 a) (h1 : a ≤ 0 → jm_Ev x tg A r hp Q) (h2 : 0 < a → jm_Ev x nx A r hp Q) : jm_Ev x pc A (jI a :: r) hp Q := by
  refine jE_ifc hf ?_; rw [jw32 ha]; exact jE_bif h1 (fun h => h2 (by omega))
/-- a Bool on the stack -/
theorem jE_ifb_eq {c : Bool} (hf : jm_fe x pc = some (.ifCond .eq o, nx, tg)) (h1 : c = false → jm_Ev x tg A r hp Q) (h2 : c = true → jm_Ev x nx A r hp Q) : jm_Ev x pc A (jI (jb c) :: r) hp Q := by
  refine jE_ifc hf ?_
  cases c with
  | true => exact h2 rfl
  | false => exact h1 rfl
theorem jE_ifb_ne {c : Bool} (hf : jm_fe x pc = some (.ifCond .ne o, nx, tg)) (h1 : c = true → jm_Ev x tg A r hp Q) (h2 : c = false → jm_Ev x nx A r hp Q) : jm_Ev x pc A (jI (jb c) :: r) hp Q := by
  refine jE_ifc hf ?_
  cases c with
  | true => exact h1 rfl
  | false => exact h2 rfl
theorem jE_ifd_eq {P : Prop} {i : Decidable P} (hf : jm_fe x pc = some (.ifCond .eq o, nx, tg)) (h1 : ¬ P → jm_Ev x tg A r hp Q) (h2 : P → jm_Ev x nx A r hp Q) : jm_Ev x pc A (jI (jb (@decide P i)) :: r) hp Q :=
  jE_ifb_eq hf (fun h => h1 (of_decide_eq_false h)) (fun h => h2 (of_decide_eq_true h))
theorem jE_ifd_ne {P : Prop} {i : Decidable P} (hf : jm_fe x pc = some (.ifCond .ne o, nx, tg)) (h1 : P → jm_Ev x tg A r hp Q) (h2 : ¬ P → jm_Ev x nx A r hp Q) : jm_Ev x pc A (jI (jb (@decide P i)) :: r) hp Q :=
  jE_ifb_ne hf (fun h => h1 (of_decide_eq_true h)) (fun h => h2 (of_decide_eq_false h))
/-- longs compared -/
theorem jE_lcmp (hf : jm_fe x pc = some (.lcmp, nx, tg)) (ha : jR64 a) (hb : jR64 b) (k : jm_Ev x nx A (jI (jm_lc a b) :: r) hp Q) : jm_Ev x pc A (jL b :: jL a :: r) hp Q := by
  refine jE_in (i := .lcmp) hf rfl ?_
  rw [jw64 ha, jw64 hb]
  exact k
theorem jm_lc_r (a b : Int) : jR32 (jm_lc a b) := by unfold jm_lc jR32; split <;> (try split) <;> omega
theorem jm_lc_lt (a b : Int) : jm_lc a b < 0 ↔ a < b := by unfold jm_lc; split <;> (try split) <;> omega
theorem jm_lc_gt (a b : Int) : 0 < jm_lc a b ↔ b < a := by unfold jm_lc; split <;> (try split) <;> omega
theorem jm_lc_eq (a b : Int) : jm_lc a b = 0 ↔ a = b := by unfold jm_lc; split <;> (try split) <;> omega
theorem jE_lc_lt (hf : jm_fe x pc = some (.ifCond .lt o, nx, tg)) (h1 : a < b → jm_Ev x tg A r hp Q) (h2 : b ≤ a → jm_Ev x nx A r hp Q) : jm_Ev x pc A (jI (jm_lc a b) :: r) hp Q :=
  jE_if_lt hf (jm_lc_r a b) (fun h => h1 ((jm_lc_lt a b).mp h)) (fun h => h2 (by have := jm_lc_lt a b; omega))
theorem jE_lc_ge (hf : jm_fe x pc = some (.ifCond .ge o, nx, tg)) (h1 : b ≤ a → jm_Ev x tg A r hp Q) (h2 : a < b → jm_Ev x nx A r hp Q) : jm_Ev x pc A (jI (jm_lc a b) :: r) hp Q :=
  jE_if_ge hf (jm_lc_r a b) (fun h => h1 (by have := jm_lc_lt a b; omega)) (fun h => h2 ((jm_lc_lt a b).mp h))
theorem jE_lc_gt (hf : jm_fe x pc = some (.ifCond .gt o, nx, tg)) (h1 : b < a → jm_Ev x tg A r hp Q) (h2 : a ≤ b → jm_Ev x nx A r hp Q) : jm_Ev x pc A (jI (jm_lc a b) :: r) hp Q :=
  jE_if_gt hf (jm_lc_r a b) (fun h => h1 ((jm_lc_gt a b).mp h)) (fun h => h2 (by have := jm_lc_gt a b; omega))
theorem jE_lc_le (hf : jm_fe x pc = some (.ifCond .le o, nx, tg)) (h1 : a ≤ b → jm_Ev x tg A r hp Q) (h2 : b < a → jm_Ev x nx A r hp Q) : jm_Ev x pc A (jI (jm_lc a b) :: r) hp Q :=
  jE_if_le hf (jm_lc_r a b) (fun h => h1 (by have := jm_lc_gt a b; omega)) (fun h => h2 ((jm_lc_gt a b).mp h))
theorem jE_lc_eq (hf : jm_fe x pc = some (.ifCond .eq o, nx, tg)) (h1 : a = b → jm_Ev x tg A r hp Q) (h2 : a ≠ b → jm_Ev x nx A r hp Q) : jm_Ev x pc A (jI (jm_lc a b) :: r) hp Q :=
  jE_if_eq hf (jm_lc_r a b) (fun h => h1 ((jm_lc_eq a b).mp h)) (fun h => h2 (fun w => h ((jm_lc_eq a b).mpr w)))
theorem jE_lc_ne (hf : jm_fe x pc = some (.ifCond .ne o, nx, tg)) (h1 : a ≠ b → jm_Ev x tg A r hp Q) (h2 : a = b → jm_Ev x nx A r hp Q) : jm_Ev x pc A (jI (jm_lc a b) :: r) hp Q :=
  jE_if_ne hf (jm_lc_r a b) (fun h => h1 (fun w => h ((jm_lc_eq a b).mpr w))) (fun h => h2 ((jm_lc_eq a b).mp h))
/-- arrays -/
theorem jE_ald {t q : Nat} {mk : Int → jm_V} {n : Int} {f : Int → Int} {i : Instr} (hf : jm_fe x pc = some (i, nx, tg)) (hi : jm_in x (jm_me x).1 (jm_me x).2.2.2.2.1 pc i nx tg A (jI a :: jR q :: r) hp = jm_ald t mk nx A (jI a :: jR q :: r) hp) (hk : jm_ar hp q t = some (n, f)) (hr : 0 ≤ a ∧ a < n ∧ n ≤ 2147483647) (k : jm_Ev x nx A (mk (f a) :: r) hp Q) : jm_Ev x pc A (jI a :: jR q :: r) hp Q := by
  refine jE_in hf ?_ k
  rw [hi]
  unfold jm_ald
  dsimp only
  rw [hk]
  dsimp only
  rw [jw32 (a := a) ⟨by omega, by omega⟩, js_bif_t _ (show 0 ≤ a ∧ a < n from ⟨hr.1, hr.2.1⟩)]
theorem jE_iald {q : Nat} {n : Int} {f : Int → Int} (hf : jm_fe x pc = some (.iaload, nx, tg)) (hk : jm_ar hp q 0 = some (n, f)) (hr : 0 ≤ a ∧ a < n ∧ n ≤ 2147483647) (k : jm_Ev x nx A (jI (f a) :: r) hp Q) : jm_Ev x pc A (jI a :: jR q :: r) hp Q := jE_ald (mk := fun z => jI z) hf rfl hk hr k
theorem jE_lald {q : Nat} {n : Int} {f : Int → Int} (hf : jm_fe x pc = some (.laload, nx, tg)) (hk : jm_ar hp q 1 = some (n, f)) (hr : 0 ≤ a ∧ a < n ∧ n ≤ 2147483647) (k : jm_Ev x nx A (jL (f a) :: r) hp Q) : jm_Ev x pc A (jI a :: jR q :: r) hp Q := jE_ald (mk := fun z => jL z) hf rfl hk hr k
theorem jE_fald {q : Nat} {n : Int} {f : Int → Int} (hf : jm_fe x pc = some (.faload, nx, tg)) (hk : jm_ar hp q 2 = some (n, f)) (hr : 0 ≤ a ∧ a < n ∧ n ≤ 2147483647) (k : jm_Ev x nx A (jF (f a).toNat :: r) hp Q) : jm_Ev x pc A (jI a :: jR q :: r) hp Q := jE_ald (mk := fun z => jF z.toNat) hf rfl hk hr k
theorem jE_zald {q : Nat} {n : Int} {f : Int → Int} (hf : jm_fe x pc = some (.baload, nx, tg)) (hk : jm_ar hp q 3 = some (n, f)) (hr : 0 ≤ a ∧ a < n ∧ n ≤ 2147483647) (k : jm_Ev x nx A (jI (f a) :: r) hp Q) : jm_Ev x pc A (jI a :: jR q :: r) hp Q := by
  have e : jm_ald 3 (fun z => jI z) nx A (jI a :: jR q :: r) hp = some (.inl (nx, A, jI (f a) :: r, hp)) := by
    unfold jm_ald
    dsimp only
    rw [hk]
    dsimp only
    rw [jw32 (a := a) ⟨by omega, by omega⟩, js_bif_t _ (show 0 ≤ a ∧ a < n from ⟨hr.1, hr.2.1⟩)]
  refine jE_in hf ?_ k
  dsimp only [jm_in]
  rw [e]
theorem jE_bald {q : Nat} {n : Int} {f : Int → Int} (hf : jm_fe x pc = some (.baload, nx, tg)) (h3 : jm_ar hp q 3 = none) (hk : jm_ar hp q 4 = some (n, f)) (hr : 0 ≤ a ∧ a < n ∧ n ≤ 2147483647) (k : jm_Ev x nx A (jI (f a) :: r) hp Q) : jm_Ev x pc A (jI a :: jR q :: r) hp Q := by
  have e3 : jm_ald 3 (fun z => jI z) nx A (jI a :: jR q :: r) hp = none := by
    unfold jm_ald
    dsimp only
    rw [h3]
  have e : jm_ald 4 (fun z => jI z) nx A (jI a :: jR q :: r) hp = some (.inl (nx, A, jI (f a) :: r, hp)) := by
    unfold jm_ald
    dsimp only
    rw [hk]
    dsimp only
    rw [jw32 (a := a) ⟨by omega, by omega⟩, js_bif_t _ (show 0 ≤ a ∧ a < n from ⟨hr.1, hr.2.1⟩)]
  refine jE_in hf ?_ k
  dsimp only [jm_in]
  rw [e3, e]
theorem jE_ast {t q : Nat} {ok : jm_V → Option Int} {n z : Int} {v : jm_V} {i : Instr} (hf : jm_fe x pc = some (i, nx, tg)) (hi : jm_in x (jm_me x).1 (jm_me x).2.2.2.2.1 pc i nx tg A (v :: jI a :: jR q :: r) hp = jm_ast t ok nx A (v :: jI a :: jR q :: r) hp) (hs : jm_sh q = .inr (t, n)) (hz : ok v = some z) (hr : 0 ≤ a ∧ a < n ∧ n ≤ 2147483647) (k : jm_Ev x nx A r (jm_hs hp q a z) Q) : jm_Ev x pc A (v :: jI a :: jR q :: r) hp Q := by
  refine jE_in hf ?_ k
  rw [hi]
  unfold jm_ast
  dsimp only
  rw [hs, hz]
  dsimp only
  rw [Nat.beq_refl, Bool.true_and, jw32 (a := a) ⟨by omega, by omega⟩, js_bif_t _ (show 0 ≤ a ∧ a < n from ⟨hr.1, hr.2.1⟩)]
theorem jE_iast {q : Nat} {n z : Int} (hf : jm_fe x pc = some (.iastore, nx, tg)) (hs : jm_sh q = .inr (0, n)) (hr : 0 ≤ a ∧ a < n ∧ n ≤ 2147483647) (k : jm_Ev x nx A r (jm_hs hp q a z) Q) : jm_Ev x pc A (jI z :: jI a :: jR q :: r) hp Q := jE_ast (ok := jm_okI) hf rfl hs rfl hr k
theorem jE_last {q : Nat} {n z : Int} (hf : jm_fe x pc = some (.lastore, nx, tg)) (hs : jm_sh q = .inr (1, n)) (hr : 0 ≤ a ∧ a < n ∧ n ≤ 2147483647) (k : jm_Ev x nx A r (jm_hs hp q a z) Q) : jm_Ev x pc A (jL z :: jI a :: jR q :: r) hp Q := jE_ast (ok := jm_okL) hf rfl hs rfl hr k
theorem jE_fast {q z : Nat} {n : Int} (hf : jm_fe x pc = some (.fastore, nx, tg)) (hs : jm_sh q = .inr (2, n)) (hr : 0 ≤ a ∧ a < n ∧ n ≤ 2147483647) (k : jm_Ev x nx A r (jm_hs hp q a (z : Int)) Q) : jm_Ev x pc A (jF z :: jI a :: jR q :: r) hp Q := jE_ast (ok := jm_okF) hf rfl hs rfl hr k
theorem jE_zast {q : Nat} {n z : Int} (hf : jm_fe x pc = some (.bastore, nx, tg)) (hs : jm_sh q = .inr (3, n)) (hz : z = 0 ∨ z = 1) (hr : 0 ≤ a ∧ a < n ∧ n ≤ 2147483647) (k : jm_Ev x nx A r (jm_hs hp q a z) Q) : jm_Ev x pc A (jI z :: jI a :: jR q :: r) hp Q := jE_ast (ok := jm_okZ) hf rfl hs (by rcases hz with rfl | rfl <;> rfl) hr k
/-- a Bool or a tested int goes into a boolean field -/
theorem jE_putz {q ci j idx : Nat} {fs : List (Nat ⊕ Nat)} {z : Int} (hf : jm_fe x pc = some (.putfield idx, nx, tg)) (hp0 : jm_pf jm_FL (jm_me x).1 idx = some (ci, j)) (hs : jm_sh q = .inl (ci, fs)) (ht : fs[j]? = some (.inl 3)) (hz : z = 0 ∨ z = 1) (k : jm_Ev x nx A r (jm_hs hp q j z) Q) : jm_Ev x pc A (jI z :: jR q :: r) hp Q := by
  refine jE_in hf ?_ k
  dsimp only [jm_in]
  rw [hp0]
  unfold jm_putf
  dsimp only
  rw [hs]
  dsimp only
  rw [Nat.beq_refl]
  dsimp only [cond_true]
  rw [ht]
  rcases hz with rfl | rfl <;> rfl
/-- divisions of numbers that are not negative -/
theorem jd_toInt {a : Int} (h : jR32 a) : (Int32.ofInt a).toInt = a := jw32 h
theorem jE_idiv (hf : jm_fe x pc = some (.idiv, nx, tg)) (ha : 0 ≤ a ∧ a ≤ 2147483647) (hb : 0 < b ∧ b ≤ 2147483647) (k : jm_Ev x nx A (jI (a / b) :: r) hp Q) : jm_Ev x pc A (jI b :: jI a :: r) hp Q := by
  have e : (Int32.ofInt a / Int32.ofInt b).toInt = a / b := by
    rw [Int32.toInt_div_of_ne_right _ _ (by intro h; have := congrArg Int32.toInt h; rw [jd_toInt ⟨by omega, by omega⟩] at this; rw [this] at hb; exact absurd hb.1 (by decide)), jd_toInt ⟨by omega, by omega⟩, jd_toInt ⟨by omega, by omega⟩]
    exact Int.tdiv_eq_ediv_of_nonneg ha.1
  refine jE_in (i := .idiv) (pc' := nx) (A' := A) (st' := jI (a / b) :: r) (hp' := hp) hf ?_ k
  show (match jm_i2 .idiv a b with | some z => some (Sum.inl (nx, A, jI z :: r, hp)) | none => none) = _
  have hne : ¬ jm_w32 b = 0 := by rw [jw32 ⟨by omega, by omega⟩]; omega
  rw [show jm_i2 .idiv a b = some (Int32.ofInt a / Int32.ofInt b).toInt from js_bif_f _ hne, e]
theorem jE_irem (hf : jm_fe x pc = some (.irem, nx, tg)) (ha : 0 ≤ a ∧ a ≤ 2147483647) (hb : 0 < b ∧ b ≤ 2147483647) (k : jm_Ev x nx A (jI (a % b) :: r) hp Q) : jm_Ev x pc A (jI b :: jI a :: r) hp Q := by
  have e0 : (Int32.ofInt a / Int32.ofInt b).toInt = a / b := by
    rw [Int32.toInt_div_of_ne_right _ _ (by intro h; have := congrArg Int32.toInt h; rw [jd_toInt ⟨by omega, by omega⟩] at this; rw [this] at hb; exact absurd hb.1 (by decide)), jd_toInt ⟨by omega, by omega⟩, jd_toInt ⟨by omega, by omega⟩]
    exact Int.tdiv_eq_ediv_of_nonneg ha.1
  have e1 : Int32.ofInt a / Int32.ofInt b = Int32.ofInt (a / b) := by rw [← e0, Int32.ofInt_toInt]
  have e : (Int32.ofInt a - Int32.ofInt a / Int32.ofInt b * Int32.ofInt b).toInt = a % b := by
    rw [e1, ← Int32.ofInt_mul, ← Int32.ofInt_sub]
    have h1 := Int.emod_nonneg a (show b ≠ 0 by omega)
    have h2 := Int.emod_lt_of_pos a (show 0 < b by omega)
    have h3 : a - a / b * b = a % b := by rw [Int.mul_comm]; have := Int.mul_ediv_add_emod a b; omega
    rw [h3]
    exact jw32 ⟨by omega, by omega⟩
  refine jE_in (i := .irem) (pc' := nx) (A' := A) (st' := jI (a % b) :: r) (hp' := hp) hf ?_ k
  show (match jm_i2 .irem a b with | some z => some (Sum.inl (nx, A, jI z :: r, hp)) | none => none) = _
  have hne : ¬ jm_w32 b = 0 := by rw [jw32 ⟨by omega, by omega⟩]; omega
  rw [show jm_i2 .irem a b = some (Int32.ofInt a - Int32.ofInt a / Int32.ofInt b * Int32.ofInt b).toInt from js_bif_f _ hne, e]
theorem jE_ldiv (hf : jm_fe x pc = some (.ldiv, nx, tg)) (ha : 0 ≤ a ∧ a ≤ 9223372036854775807) (hb : 0 < b ∧ b ≤ 9223372036854775807) (k : jm_Ev x nx A (jL (a / b) :: r) hp Q) : jm_Ev x pc A (jL b :: jL a :: r) hp Q := by
  have t : ∀ z : Int, 0 ≤ z ∧ z ≤ 9223372036854775807 → (Int64.ofInt z).toInt = z := fun z h => jw64 ⟨by omega, by omega⟩
  have e : (Int64.ofInt a / Int64.ofInt b).toInt = a / b := by
    rw [Int64.toInt_div_of_ne_right _ _ (by intro h; have := congrArg Int64.toInt h; rw [t b ⟨by omega, by omega⟩] at this; rw [this] at hb; exact absurd hb.1 (by decide)), t a ha, t b ⟨by omega, by omega⟩]
    exact Int.tdiv_eq_ediv_of_nonneg ha.1
  refine jE_in (i := .ldiv) (pc' := nx) (A' := A) (st' := jL (a / b) :: r) (hp' := hp) hf ?_ k
  show (match jm_l2 .ldiv a b with | some z => some (Sum.inl (nx, A, jL z :: r, hp)) | none => none) = _
  have hne : ¬ jm_w64 b = 0 := by rw [jw64 ⟨by omega, by omega⟩]; omega
  rw [show jm_l2 .ldiv a b = some (Int64.ofInt a / Int64.ofInt b).toInt from js_bif_f _ hne, e]
theorem jE_lrem (hf : jm_fe x pc = some (.lrem, nx, tg)) (ha : 0 ≤ a ∧ a ≤ 9223372036854775807) (hb : 0 < b ∧ b ≤ 9223372036854775807) (k : jm_Ev x nx A (jL (a % b) :: r) hp Q) : jm_Ev x pc A (jL b :: jL a :: r) hp Q := by
  have t : ∀ z : Int, 0 ≤ z ∧ z ≤ 9223372036854775807 → (Int64.ofInt z).toInt = z := fun z h => jw64 ⟨by omega, by omega⟩
  have e0 : (Int64.ofInt a / Int64.ofInt b).toInt = a / b := by
    rw [Int64.toInt_div_of_ne_right _ _ (by intro h; have := congrArg Int64.toInt h; rw [t b ⟨by omega, by omega⟩] at this; rw [this] at hb; exact absurd hb.1 (by decide)), t a ha, t b ⟨by omega, by omega⟩]
    exact Int.tdiv_eq_ediv_of_nonneg ha.1
  have e1 : Int64.ofInt a / Int64.ofInt b = Int64.ofInt (a / b) := by rw [← e0, Int64.ofInt_toInt]
  have e : (Int64.ofInt a - Int64.ofInt a / Int64.ofInt b * Int64.ofInt b).toInt = a % b := by
    rw [e1, ← Int64.ofInt_mul, ← Int64.ofInt_sub]
    have h1 := Int.emod_nonneg a (show b ≠ 0 by omega)
    have h2 := Int.emod_lt_of_pos a (show 0 < b by omega)
    have h3 : a - a / b * b = a % b := by rw [Int.mul_comm]; have := Int.mul_ediv_add_emod a b; omega
    rw [h3]
    exact t _ ⟨by omega, by omega⟩
  refine jE_in (i := .lrem) (pc' := nx) (A' := A) (st' := jL (a % b) :: r) (hp' := hp) hf ?_ k
  show (match jm_l2 .lrem a b with | some z => some (Sum.inl (nx, A, jL z :: r, hp)) | none => none) = _
  have hne : ¬ jm_w64 b = 0 := by rw [jw64 ⟨by omega, by omega⟩]; omega
  rw [show jm_l2 .lrem a b = some (Int64.ofInt a - Int64.ofInt a / Int64.ofInt b * Int64.ofInt b).toInt from js_bif_f _ hne, e]
theorem jE_i2l (hf : jm_fe x pc = some (.i2l, nx, tg)) (ha : jR32 a) (k : jm_Ev x nx A (jL a :: r) hp Q) : jm_Ev x pc A (jI a :: r) hp Q := by
  refine jE_in (i := .i2l) hf rfl ?_
  rw [jw32 ha]
  exact k
theorem jE_i2c (hf : jm_fe x pc = some (.i2c, nx, tg)) (ha : 0 ≤ a ∧ a < 65536) (k : jm_Ev x nx A (jI a :: r) hp Q) : jm_Ev x pc A (jI a :: r) hp Q := by
  refine jE_in (i := .i2c) hf rfl ?_
  rw [lg_i2c_word (by rw [jd_toInt ⟨by omega, by omega⟩]; omega) (by rw [jd_toInt ⟨by omega, by omega⟩]; omega), jd_toInt ⟨by omega, by omega⟩]
  exact k
/-- Math -/
theorem jE_step {st A' st' : List jm_V} {pc' : Nat} {hp' : jm_H} (h : jm_go x pc A st hp = some (.inl (pc', A', st', hp'))) (k : jm_Ev x pc' A' st' hp' Q) : jm_Ev x pc A st hp Q := jm_Ev.go h k
theorem jb_abs {a : Int} (h : jR32 a) : (bif decide (0 ≤ jm_w32 a) then a else 0 - a) = (a.natAbs : Int) := by
  rw [jw32 h]
  by_cases h0 : 0 ≤ a
  · rw [js_bif_t _ h0]; omega
  · rw [js_bif_f _ h0]; omega
theorem jb_max {a b : Int} (ha : jR32 a) (hb : jR32 b) : (bif decide (jm_w32 a < jm_w32 b) then b else a) = max a b := by
  rw [jw32 ha, jw32 hb]
  by_cases h0 : a < b
  · rw [js_bif_t _ h0]; omega
  · rw [js_bif_f _ h0]; omega
theorem jb_min {a b : Int} (ha : jR32 a) (hb : jR32 b) : (bif decide (jm_w32 b < jm_w32 a) then b else a) = min a b := by
  rw [jw32 ha, jw32 hb]
  by_cases h0 : b < a
  · rw [js_bif_t _ h0]; omega
  · rw [js_bif_f _ h0]; omega
theorem jE_abs (h : jm_go x pc A (jI a :: r) hp = some (.inl (nx, A, jI (bif decide (0 ≤ jm_w32 a) then a else 0 - a) :: r, hp))) (ha : jR32 a) (k : jm_Ev x nx A (jI (a.natAbs : Int) :: r) hp Q) : jm_Ev x pc A (jI a :: r) hp Q := by
  rw [jb_abs ha] at h; exact jm_Ev.go h k
theorem jE_max (h : jm_go x pc A (jI b :: jI a :: r) hp = some (.inl (nx, A, jI (bif decide (jm_w32 a < jm_w32 b) then b else a) :: r, hp))) (ha : jR32 a) (hb : jR32 b) (k : jm_Ev x nx A (jI (max a b) :: r) hp Q) : jm_Ev x pc A (jI b :: jI a :: r) hp Q := by
  rw [jb_max ha hb] at h; exact jm_Ev.go h k
theorem jE_min (h : jm_go x pc A (jI b :: jI a :: r) hp = some (.inl (nx, A, jI (bif decide (jm_w32 b < jm_w32 a) then b else a) :: r, hp))) (ha : jR32 a) (hb : jR32 b) (k : jm_Ev x nx A (jI (min a b) :: r) hp Q) : jm_Ev x pc A (jI b :: jI a :: r) hp Q := by
  rw [jb_min ha hb] at h; exact jm_Ev.go h k
/-- the top of the stack under another name -/
theorem jE_top {v w : Int} (h : v = w) (k : jm_Ev x pc A (jI w :: r) hp Q) : jm_Ev x pc A (jI v :: r) hp Q := h ▸ k
/-- calls -/
abbrev jK (v : Option jm_V) (hp : jm_H) : Option jm_V → jm_H → Prop := fun rv h => rv = v ∧ h = hp
theorem jE_callI {y : Nat} {st vs : List jm_V} {v : jm_V} {hp1 : jm_H} (h : jm_go x pc A st hp = some (.inr (.inr (y, vs, r, nx)))) (hc : jm_Ev y 0 (jm_en y vs) [] hp (jK (some v) hp1)) (k : jm_Ev x nx A (v :: r) hp1 Q) : jm_Ev x pc A st hp Q :=
  jm_Ev.call h hc (fun rv hp' e => by obtain ⟨rfl, rfl⟩ := e; exact k)
theorem jE_callV {y : Nat} {st vs : List jm_V} {hp1 : jm_H} (h : jm_go x pc A st hp = some (.inr (.inr (y, vs, r, nx)))) (hc : jm_Ev y 0 (jm_en y vs) [] hp (jK none hp1)) (k : jm_Ev x nx A r hp1 Q) : jm_Ev x pc A st hp Q :=
  jm_Ev.call h hc (fun rv hp' e => by obtain ⟨rfl, rfl⟩ := e; exact k)
theorem jE_call {y : Nat} {st vs : List jm_V} {Q1 : Option jm_V → jm_H → Prop} (h : jm_go x pc A st hp = some (.inr (.inr (y, vs, r, nx)))) (hc : jm_Ev y 0 (jm_en y vs) [] hp Q1) (k : ∀ rv hp', Q1 rv hp' → jm_Ev x nx A (jm_ps rv r) hp' Q) : jm_Ev x pc A st hp Q := jm_Ev.call h hc k
theorem jE_ret {st : List jm_V} {rv : Option jm_V} (h : jm_go x pc A st hp = some (.inr (.inl rv))) (q : Q rv hp) : jm_Ev x pc A st hp Q := jm_Ev.ret h q
theorem jE_retZ {c : Bool} (hf : jm_fe x pc = some (.ireturn, nx, tg)) (hk : (jm_me x).2.2.2.2.1 = 2) (q : Q (some (jI (jb c))) hp) : jm_Ev x pc A [jI (jb c)] hp Q := by
  refine jm_Ev.ret (rv := some (jI (jb c))) ?_ q
  unfold jm_go
  rw [hf]
  show jm_retI (jm_me x).2.2.2.2.1 [jI (jb c)] = _
  rw [hk]
  cases c <;> rfl
end Ev
