/-! a row an instruction: the machine of these rows is the real one -/
/-- what nobody writes: static fields and arrays, the text of the signs -/
def js_S0 (ad : Nat → Nat) (U : State) : Prop :=
  (∀ q ∈ jn_SF, va_Z q.1 q.2.1 q.2.2.1 (js_v ad q.2.2.2) (js_A ad) U U.heap) ∧
  (∀ k, 78 ≤ k → k < 82 → va_T .int (ad k) 4 (fun j => .int (Int32.ofInt (jm_SC k j))) (js_A ad) U U.heap) ∧
  (vk_R "BlobCorners$Page" 40 "dhstl" (ad 83) U ∧ va_O "java/lang/String" (ad 83) (js_A ad) U U.heap ∧ va_OF "java/lang/String" "coder" "B" (.int 0) (ad 83) (js_A ad) U U.heap ∧ va_OF "java/lang/String" "value" "[B" (.ref (ad 84)) (ad 83) (js_A ad) U U.heap ∧ va_T .byte (ad 84) 5 (fun j => .int (Int32.ofInt (jm_SC 84 j))) (js_A ad) U U.heap)
/-- the script -/
def js_Sc (ad : Nat → Nat) (hp : jm_H) (U : State) : Prop := 0 ≤ hp 85 0 ∧ hp 85 0 ≤ 2147483647 ∧ va_T .int (ad 82) (hp 85 0).toNat (fun j => .int (Int32.ofInt (hp 82 j))) (js_A ad) U U.heap
def js_Cx (p : Program) (R : Room) (s : State) (m : MethodId) (args : Array Value) (c : Code) (cells slots : Nat) (D : va_G) (cy : Nat → ClassId) (ad : Nat → Nat) (x : Nat) : Prop :=
  p.tables.exec = Jvm.exec ∧ c.code = (jn_y x).2.1 ∧ c.maxLocals = (jm_me x).2.2.2.1 ∧ s.vm.findClass (jn_own (jm_me x).1) = some m.cls ∧ (∀ w ∈ js_T, w.before args s = true) ∧ va_K D jn_cl (js_ty cy) s ∧ js_inj ad ∧ (js_S0 ad s ∧ js_N s) ∧ (jm_me x).2.2.2.2.2.1 ≤ R.frames ∧ (jm_me x).2.2.2.2.2.2 ≤ R.locals ∧ cells ≤ R.cells ∧ slots ≤ R.slots
def js_G (p : Program) (l : Launch) (e : Env) (R : Room) (s : State) (m : MethodId) (args : Array Value) (below : List Frame) (meth : Method) (c : Code) (cells slots : Nat) (Q : State → Prop) (D : va_G) (cy : Nat → ClassId) (ad : Nat → Nat) (x pc : Nat) (A st : List jm_V) (hp : jm_H) : Prop :=
  ∀ (H : Heap) (locs : List Loc) (ls : Array Slot), lv_has ls (jm_me x).2.2.2.1 (js_lv ad A) → A.length = (jm_me x).2.2.2.1 → va_P D jn_cl (js_ws cy ad hp) H → va_S (js_A ad) s.heap H locs → js_Sc ad hp s → W p l e R s m args below meth c H locs cells slots Q (F0 m pc ls (st.map (js_v ad)))
section Rows
variable {p : Program} {l : Launch} {e : Env} {R : Room} {s : State} {m : MethodId} {args : Array Value} {below : List Frame} {meth : Method} {c : Code} {cells slots : Nat} {Q : State → Prop} {D : va_G} {cy : Nat → ClassId} {ad : Nat → Nat} {x pc : Nat} {A : List jm_V} {hp : jm_H}
theorem js_addI (a b : Int) : Int32.ofInt (a + b) = Int32.ofInt a + Int32.ofInt b := Int32.ofInt_add a b
theorem js_iconst {r : List jm_V} {n : Int} (C : js_Cx p R s m args c cells slots D cy ad x) (hd : decode (jn_y x).2.1 pc = .ok (.iconst n, 1)) (k : js_G p l e R s m args below meth c cells slots Q D cy ad x (pc + 1) A (jI n :: r) hp) : js_G p l e R s m args below meth c cells slots Q D cy ad x pc A r hp :=
  fun H locs ls h1 h2 h3 h4 h5 => lv_iconst C.1 C.2.1 hd rfl (k H locs ls h1 h2 h3 h4 h5)
theorem js_b8 {n : Int} (h : -128 ≤ n ∧ n < 128) : (Int8.ofInt n).toInt32 = Int32.ofInt n := by
  apply Int32.toInt_inj.mp
  rw [Int8.toInt_toInt32, Int8.toInt_ofInt_of_le (by omega) (by omega), Int32.toInt_ofInt_of_le (by omega) (by omega)]
theorem js_b16 {n : Int} (h : -32768 ≤ n ∧ n < 32768) : (Int16.ofInt n).toInt32 = Int32.ofInt n := by
  apply Int32.toInt_inj.mp
  rw [Int16.toInt_toInt32, Int16.toInt_ofInt_of_le (by omega) (by omega), Int32.toInt_ofInt_of_le (by omega) (by omega)]
theorem js_bipush {r : List jm_V} {n : Int} (C : js_Cx p R s m args c cells slots D cy ad x) (hd : decode (jn_y x).2.1 pc = .ok (.bipush n, 2)) (hn : -128 ≤ n ∧ n < 128) (k : js_G p l e R s m args below meth c cells slots Q D cy ad x (pc + 2) A (jI n :: r) hp) : js_G p l e R s m args below meth c cells slots Q D cy ad x pc A r hp :=
  fun H locs ls h1 h2 h3 h4 h5 => lv_bipush C.1 C.2.1 hd (js_b8 hn) (k H locs ls h1 h2 h3 h4 h5)
theorem js_sipush {r : List jm_V} {n : Int} (C : js_Cx p R s m args c cells slots D cy ad x) (hd : decode (jn_y x).2.1 pc = .ok (.sipush n, 3)) (hn : -32768 ≤ n ∧ n < 32768) (k : js_G p l e R s m args below meth c cells slots Q D cy ad x (pc + 3) A (jI n :: r) hp) : js_G p l e R s m args below meth c cells slots Q D cy ad x pc A r hp :=
  fun H locs ls h1 h2 h3 h4 h5 => lv_sipush C.1 C.2.1 hd (js_b16 hn) (k H locs ls h1 h2 h3 h4 h5)
theorem js_lconst {r : List jm_V} {n : Fin 2} (C : js_Cx p R s m args c cells slots D cy ad x) (hd : decode (jn_y x).2.1 pc = .ok (.lconst n, 1)) (k : js_G p l e R s m args below meth c cells slots Q D cy ad x (pc + 1) A (jL ((n : Nat) : Int) :: r) hp) : js_G p l e R s m args below meth c cells slots Q D cy ad x pc A r hp :=
  fun H locs ls h1 h2 h3 h4 h5 => lv_lconst C.1 C.2.1 hd (by show Int64.ofNat n = Int64.ofInt ((n : Nat) : Int); rw [Int64.ofInt_eq_ofNat]) (k H locs ls h1 h2 h3 h4 h5)
theorem js_fconst {r : List jm_V} {n : Fin 3} (C : js_Cx p R s m args c cells slots D cy ad x) (hd : decode (jn_y x).2.1 pc = .ok (.fconst n, 1)) (k : js_G p l e R s m args below meth c cells slots Q D cy ad x (pc + 1) A (jF (match (n : Nat) with | 0 => 0 | 1 => 0x3f800000 | _ => 0x40000000) :: r) hp) : js_G p l e R s m args below meth c cells slots Q D cy ad x pc A r hp := by
  intro H locs ls h1 h2 h3 h4 h5
  match n, hd, k with
  | 0, hd, k => exact lv_fconst0 C.1 C.2.1 hd (k H locs ls h1 h2 h3 h4 h5)
  | 1, hd, k => exact lv_fconst1 C.1 C.2.1 hd (k H locs ls h1 h2 h3 h4 h5)
  | 2, hd, k => exact lv_fconst2 C.1 C.2.1 hd (k H locs ls h1 h2 h3 h4 h5)
theorem js_iload {r : List jm_V} {z : Int} {i : Nat} (C : js_Cx p R s m args c cells slots D cy ad x) (hd : decode (jn_y x).2.1 pc = .ok (.iload i, 2)) (hA : A[i]? = some (jI z)) (k : js_G p l e R s m args below meth c cells slots Q D cy ad x (pc + 2) A (jI z :: r) hp) : js_G p l e R s m args below meth c cells slots Q D cy ad x pc A r hp :=
  fun H locs ls h1 h2 h3 h4 h5 => lv_iload C.1 C.2.1 hd (js_load h1 hA (fun e => by cases e)) (k H locs ls h1 h2 h3 h4 h5)
theorem js_iload_n {r : List jm_V} {z : Int} {i : Fin 4} (C : js_Cx p R s m args c cells slots D cy ad x) (hd : decode (jn_y x).2.1 pc = .ok (.iload_n i, 1)) (hA : A[(i : Nat)]? = some (jI z)) (k : js_G p l e R s m args below meth c cells slots Q D cy ad x (pc + 1) A (jI z :: r) hp) : js_G p l e R s m args below meth c cells slots Q D cy ad x pc A r hp :=
  fun H locs ls h1 h2 h3 h4 h5 => lv_iload_n C.1 C.2.1 hd rfl (js_load h1 hA (fun e => by cases e)) (k H locs ls h1 h2 h3 h4 h5)
theorem js_lload {r : List jm_V} {z : Int} {i : Nat} (C : js_Cx p R s m args c cells slots D cy ad x) (hd : decode (jn_y x).2.1 pc = .ok (.lload i, 2)) (hA : A[i]? = some (jL z)) (k : js_G p l e R s m args below meth c cells slots Q D cy ad x (pc + 2) A (jL z :: r) hp) : js_G p l e R s m args below meth c cells slots Q D cy ad x pc A r hp :=
  fun H locs ls h1 h2 h3 h4 h5 => lv_lload C.1 C.2.1 hd (js_load h1 hA (fun e => by cases e)) (k H locs ls h1 h2 h3 h4 h5)
theorem js_lload_n {r : List jm_V} {z : Int} {i : Fin 4} (C : js_Cx p R s m args c cells slots D cy ad x) (hd : decode (jn_y x).2.1 pc = .ok (.lload_n i, 1)) (hA : A[(i : Nat)]? = some (jL z)) (k : js_G p l e R s m args below meth c cells slots Q D cy ad x (pc + 1) A (jL z :: r) hp) : js_G p l e R s m args below meth c cells slots Q D cy ad x pc A r hp :=
  fun H locs ls h1 h2 h3 h4 h5 => lv_lload_n C.1 C.2.1 hd rfl (js_load h1 hA (fun e => by cases e)) (k H locs ls h1 h2 h3 h4 h5)
theorem js_fload {r : List jm_V} {z : Nat} {i : Nat} (C : js_Cx p R s m args c cells slots D cy ad x) (hd : decode (jn_y x).2.1 pc = .ok (.fload i, 2)) (hA : A[i]? = some (jF z)) (k : js_G p l e R s m args below meth c cells slots Q D cy ad x (pc + 2) A (jF z :: r) hp) : js_G p l e R s m args below meth c cells slots Q D cy ad x pc A r hp :=
  fun H locs ls h1 h2 h3 h4 h5 => lv_fload C.1 C.2.1 hd (js_load h1 hA (fun e => by cases e)) (k H locs ls h1 h2 h3 h4 h5)
theorem js_fload_n {r : List jm_V} {z : Nat} {i : Fin 4} (C : js_Cx p R s m args c cells slots D cy ad x) (hd : decode (jn_y x).2.1 pc = .ok (.fload_n i, 1)) (hA : A[(i : Nat)]? = some (jF z)) (k : js_G p l e R s m args below meth c cells slots Q D cy ad x (pc + 1) A (jF z :: r) hp) : js_G p l e R s m args below meth c cells slots Q D cy ad x pc A r hp :=
  fun H locs ls h1 h2 h3 h4 h5 => lv_fload_n C.1 C.2.1 hd rfl (js_load h1 hA (fun e => by cases e)) (k H locs ls h1 h2 h3 h4 h5)
theorem js_aload {r : List jm_V} {z : Nat} {i : Nat} (C : js_Cx p R s m args c cells slots D cy ad x) (hd : decode (jn_y x).2.1 pc = .ok (.aload i, 2)) (hA : A[i]? = some (jR z)) (k : js_G p l e R s m args below meth c cells slots Q D cy ad x (pc + 2) A (jR z :: r) hp) : js_G p l e R s m args below meth c cells slots Q D cy ad x pc A r hp :=
  fun H locs ls h1 h2 h3 h4 h5 => lv_aload C.1 C.2.1 hd (js_load h1 hA (fun e => by cases e)) (k H locs ls h1 h2 h3 h4 h5)
theorem js_aload_n {r : List jm_V} {z : Nat} {i : Fin 4} (C : js_Cx p R s m args c cells slots D cy ad x) (hd : decode (jn_y x).2.1 pc = .ok (.aload_n i, 1)) (hA : A[(i : Nat)]? = some (jR z)) (k : js_G p l e R s m args below meth c cells slots Q D cy ad x (pc + 1) A (jR z :: r) hp) : js_G p l e R s m args below meth c cells slots Q D cy ad x pc A r hp :=
  fun H locs ls h1 h2 h3 h4 h5 => lv_aload_n C.1 C.2.1 hd rfl (js_load h1 hA (fun e => by cases e)) (k H locs ls h1 h2 h3 h4 h5)
theorem js_so_lt {A B : List jm_V} {k : Nat} {v : jm_V} (h : jm_so A k v = some B) : k < A.length := by
  unfold jm_so at h
  cases hk : Nat.blt k A.length with
  | false => rw [hk] at h; cases h
  | true => simpa using hk
theorem js_so2_lt {A B : List jm_V} {k : Nat} {v : jm_V} (h : jm_so2 A k v = some B) : k + 1 < A.length := by
  unfold jm_so2 at h
  cases hk : Nat.blt (k + 1) A.length with
  | false => rw [hk] at h; cases h
  | true => simpa using hk
theorem js_istore {r B : List jm_V} {z : Int} {i : Nat} (C : js_Cx p R s m args c cells slots D cy ad x) (hd : decode (jn_y x).2.1 pc = .ok (.istore i, 2)) (hB : jm_so A i (jI z) = some B) (k : js_G p l e R s m args below meth c cells slots Q D cy ad x (pc + 2) B r hp) : js_G p l e R s m args below meth c cells slots Q D cy ad x pc A (jI z :: r) hp :=
  fun H locs ls h1 h2 h3 h4 h5 => lv_istore C.1 C.2.1 hd h1 (h2 ▸ js_so_lt hB) rfl (fun ls' h' => (have q := js_store1 (v := jI z) hB h'; k H locs ls' q.1 (q.2.1.trans h2) h3 h4 h5))
theorem js_istore_n {r B : List jm_V} {z : Int} {i : Fin 4} (C : js_Cx p R s m args c cells slots D cy ad x) (hd : decode (jn_y x).2.1 pc = .ok (.istore_n i, 1)) (hB : jm_so A i (jI z) = some B) (k : js_G p l e R s m args below meth c cells slots Q D cy ad x (pc + 1) B r hp) : js_G p l e R s m args below meth c cells slots Q D cy ad x pc A (jI z :: r) hp :=
  fun H locs ls h1 h2 h3 h4 h5 => lv_istore_n C.1 C.2.1 hd rfl h1 (h2 ▸ js_so_lt hB) rfl (fun ls' h' => (have q := js_store1 (v := jI z) hB h'; k H locs ls' q.1 (q.2.1.trans h2) h3 h4 h5))
theorem js_fstore {r B : List jm_V} {z : Nat} {i : Nat} (C : js_Cx p R s m args c cells slots D cy ad x) (hd : decode (jn_y x).2.1 pc = .ok (.fstore i, 2)) (hB : jm_so A i (jF z) = some B) (k : js_G p l e R s m args below meth c cells slots Q D cy ad x (pc + 2) B r hp) : js_G p l e R s m args below meth c cells slots Q D cy ad x pc A (jF z :: r) hp :=
  fun H locs ls h1 h2 h3 h4 h5 => lv_fstore C.1 C.2.1 hd h1 (h2 ▸ js_so_lt hB) rfl (fun ls' h' => (have q := js_store1 (v := jF z) hB h'; k H locs ls' q.1 (q.2.1.trans h2) h3 h4 h5))
theorem js_fstore_n {r B : List jm_V} {z : Nat} {i : Fin 4} (C : js_Cx p R s m args c cells slots D cy ad x) (hd : decode (jn_y x).2.1 pc = .ok (.fstore_n i, 1)) (hB : jm_so A i (jF z) = some B) (k : js_G p l e R s m args below meth c cells slots Q D cy ad x (pc + 1) B r hp) : js_G p l e R s m args below meth c cells slots Q D cy ad x pc A (jF z :: r) hp :=
  fun H locs ls h1 h2 h3 h4 h5 => lv_fstore_n C.1 C.2.1 hd rfl h1 (h2 ▸ js_so_lt hB) rfl (fun ls' h' => (have q := js_store1 (v := jF z) hB h'; k H locs ls' q.1 (q.2.1.trans h2) h3 h4 h5))
theorem js_lstore {r B : List jm_V} {z : Int} {i : Nat} (C : js_Cx p R s m args c cells slots D cy ad x) (hd : decode (jn_y x).2.1 pc = .ok (.lstore i, 2)) (hB : jm_so2 A i (jL z) = some B) (k : js_G p l e R s m args below meth c cells slots Q D cy ad x (pc + 2) B r hp) : js_G p l e R s m args below meth c cells slots Q D cy ad x pc A (jL z :: r) hp :=
  fun H locs ls h1 h2 h3 h4 h5 => lv_lstore C.1 C.2.1 hd h1 (h2 ▸ js_so2_lt hB) rfl (fun ls' h' => (have q := js_store2 (v := jL z) hB h'; k H locs ls' q.1 (q.2.1.trans h2) h3 h4 h5))
theorem js_lstore_n {r B : List jm_V} {z : Int} {i : Fin 4} (C : js_Cx p R s m args c cells slots D cy ad x) (hd : decode (jn_y x).2.1 pc = .ok (.lstore_n i, 1)) (hB : jm_so2 A i (jL z) = some B) (k : js_G p l e R s m args below meth c cells slots Q D cy ad x (pc + 1) B r hp) : js_G p l e R s m args below meth c cells slots Q D cy ad x pc A (jL z :: r) hp :=
  fun H locs ls h1 h2 h3 h4 h5 => lv_lstore_n C.1 C.2.1 hd rfl h1 (h2 ▸ js_so2_lt hB) rfl (fun ls' h' => (have q := js_store2 (v := jL z) hB h'; k H locs ls' q.1 (q.2.1.trans h2) h3 h4 h5))
theorem js_iinc {r B : List jm_V} {z n : Int} {i : Nat} (C : js_Cx p R s m args c cells slots D cy ad x) (hd : decode (jn_y x).2.1 pc = .ok (.iinc i n, 3)) (hA : A[i]? = some (jI z)) (hB : jm_so A i (jI (z + n)) = some B) (k : js_G p l e R s m args below meth c cells slots Q D cy ad x (pc + 3) B r hp) : js_G p l e R s m args below meth c cells slots Q D cy ad x pc A r hp := by
  intro H locs ls h1 h2 h3 h4 h5
  obtain ⟨kk, hkk⟩ := List.getElem?_of_mem (js_lv_mem (ad := ad) hA (fun e => by cases e))
  exact lv_iinc C.1 C.2.1 hd h1 hkk (Int32.ofInt_add z n).symm (h2 ▸ js_so_lt hB) rfl (fun ls' h' => (have q := js_store1 (v := jI (z + n)) hB h'; k H locs ls' q.1 (q.2.1.trans h2) h3 h4 h5))
theorem js_goto {r : List jm_V} {o : Int} {tg : Nat} (C : js_Cx p R s m args c cells slots D cy ad x) (hd : decode (jn_y x).2.1 pc = .ok (.goto o, 3)) (ht : (pc : Int) + o = (tg : Int)) (k : js_G p l e R s m args below meth c cells slots Q D cy ad x tg A r hp) : js_G p l e R s m args below meth c cells slots Q D cy ad x pc A r hp :=
  fun H locs ls h1 h2 h3 h4 h5 => lv_goto C.1 C.2.1 hd ht (k H locs ls h1 h2 h3 h4 h5)
theorem js_w32 (z : Int) : (Int32.ofInt z).toInt = jm_w32 z := rfl
theorem js_eq0 (a : Int) : Int32.ofInt a = 0 ↔ jm_w32 a = 0 := by
  rw [← Int32.toInt_inj]; rfl
theorem js_lt0 (a : Int) : Int32.ofInt a < 0 ↔ jm_w32 a < 0 := Int32.lt_iff_toInt_lt
theorem js_eqI (a b : Int) : Int32.ofInt a = Int32.ofInt b ↔ jm_w32 a = jm_w32 b := by
  rw [← Int32.toInt_inj]; rfl
theorem js_ltI (a b : Int) : Int32.ofInt a < Int32.ofInt b ↔ jm_w32 a < jm_w32 b := Int32.lt_iff_toInt_lt
theorem js_leI (a b : Int) : Int32.ofInt a ≤ Int32.ofInt b ↔ jm_w32 a ≤ jm_w32 b := Int32.le_iff_toInt_le
end Rows
