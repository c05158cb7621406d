/-! THE CLAIM OUT OF ONE WALK OF THE LAW'S BODY. Your part is whole_start (and what it stands on); all else here is the same for every law, but numbers. -/
def R_law : String := "BlobCornersLaw"
def lw_P (b : Addr) (xs : List Int32) (args : Array Value) (s : State) : Prop := args = #[.ref b] ∧ s.IntsAt b xs ∧ xs.length ≤ 2048 ∧ (Jvm.Cond.and given_1 narrow_1).before args s = true
/-- what a walk over the start with the record d0 says of its end, said of the start itself -/
theorem lw_closed {s t : State} {o : Outcome} {d0 : Drawn} {L : List Loc} {k n : Nat} (hd0 : s.drawn.sameBut d0 lw_cs) (hv : ∃ v, o = .returned v) (hW : (s.setDrawn d0).WarmedH t.vm) (hs : (s.setDrawn d0).sameButNew ({ t with vm := s.vm } : State) L k n) : State.butDraws s t lw_cs (fun t1 => Framed s o t1 L k n) := by
  have h2 : t.drawn = d0 := congrArg State.drawn hs.1
  refine ⟨⟨hv, hW, State.sameButNew.setDrawn hs s.drawn⟩, ?_, by decide⟩
  rw [h2]
  exact hd0
def lw_Q (_ : Array Value) (s : State) (o : Outcome) (t : State) : Prop := o = .returned (some (.int 1)) ∧ State.butDraws s t lw_cs (fun t1 => Framed s o t1 [] 78 46472)
def lw_Z (below : List Frame) (a : Array Value) (s : State) : State → Prop := fun t => ∃ o, t.status = .running ∧ Ended t below o ∧ lw_Q a s o t
/-- the law's own end, with 1 on the stack, nothing written that was there before, its room as the claim has it; d0: the record of draws at this point (at the entry s.drawn: begin with 'refine W.base ?_' and 'have hd0 := Drawn.sameBut.refl s.drawn lw_cs') -/
theorem lw_ret {p : Program} {l : Launch} {e : Env} {s : State} {m : MethodId} {below : List Frame} {meth : Method} {c : Code} {b : Nat} {d0 : Drawn} (hd0 : s.drawn.sameBut d0 lw_cs) (hx : p.tables.exec = Jvm.exec) (hb : c.code = code) (hr : meth.sig.returnType = ret) (hlocks : meth.locks = false) {pc : Nat} {H : Heap} {ls : Array Slot} (hdg : decode code pc = .ok (.ireturn, 1)) : W p l e room_1 (s.setDrawn d0) m #[Value.ref b] below meth c H [] 78 46472 (lw_Z below #[Value.ref b] s) (F0 m pc ls [.int 1]) := by
  intro T hT X
  obtain ⟨fs, hret, hrun, hended, hW, hframe⟩ := X.leave (v := some (.int 1)) (hlocks := hlocks) (fun h => by rw [hr] at h; cases h)
  have hmeth' : T.vm.method? m = some meth := X.method'
  refine ⟨T.setFrames fs, ?_, .returned (some (.int 1)), hrun, hended, rfl, lw_closed hd0 ⟨_, rfl⟩ hW hframe⟩
  jvm_step X.here [X.here.top, hx, hb, hdg, hmeth', hr, ret, narrow_b1]
  (try refine ⟨rfl, ?_⟩); (try refine ⟨rfl, ?_⟩)
  first | (intro acts; rw [hret _ acts rfl rfl rfl]) | rw [hret _ _ rfl rfl rfl]
  exact Steps.refl _
/-- what holds at the law's entry: the machine, the code, the tables' words (any of lw_tbl by 'hts w (by decide +kernel)'), the script of L ints xs at the cell b, what the Statement gives of the start (any of its parts by flat_of_before) -/
def lw_At (p : Program) (s : State) (m : MethodId) (meth : Method) (c : Code) (b L : Nat) (xs : Nat → Int32) : Prop :=
  p.tables.exec = Jvm.exec ∧ c.code = code ∧ meth.sig.returnType = ret ∧ c.maxLocals = 4 ∧ s.vm.findClass R_law = some m.cls ∧ (∀ w ∈ lw_tbl, w.before #[Value.ref b] s = true) ∧ va_X b L xs s s.heap ∧ b < s.heap.size ∧ meth.locks = false ∧ (Jvm.Cond.and given_1 narrow_1).before #[Value.ref b] s = true

/-- the heap behind the two constructors: L ints xs are the script -/
def jl_hp0 (L : Nat) (xs : Nat → Int32) : jm_H := fun k =>
  bif Nat.beq k 31 then (fun j => bif decide (j = 2) then -1 else 0)
  else bif Nat.beq k 54 then (fun j => bif decide (j = 2) then -1 else 0)
  else bif Nat.beq k 56 then (fun j => bif decide (j = 33) then -1 else 0)
  else bif Nat.beq k 74 then (fun _ => -1)
  else bif Nat.beq k 82 then (fun j => (xs j.toNat).toInt)
  else bif Nat.beq k 85 then (fun _ => (L : Int))
  else (fun _ => 0)
theorem dl_0 : decode code 0 = .ok (.new 7, 3) := by decide +kernel
theorem dl_3 : decode code 3 = .ok (.dup, 1) := by decide +kernel
theorem dl_4 : decode code 4 = .ok (.invokespecial 9, 3) := by decide +kernel
theorem dl_7 : decode code 7 = .ok (.astore_n 1, 1) := by decide +kernel
theorem dl_8 : decode code 8 = .ok (.new 10, 3) := by decide +kernel
theorem dl_11 : decode code 11 = .ok (.dup, 1) := by decide +kernel
theorem dl_12 : decode code 12 = .ok (.invokespecial 12, 3) := by decide +kernel
theorem dl_15 : decode code 15 = .ok (.astore_n 2, 1) := by decide +kernel
theorem dl_16 : decode code 16 = .ok (.iconst 0, 1) := by decide +kernel
theorem jl_good7 : GoodIn lw_tbl jc_w7 := by
  intro w hw
  rcases List.mem_cons.mp hw with rfl | hw
  · exact ⟨(jn_m1 21 rfl), good_of_word rfl⟩
  · exact ⟨(List.mem_filter.mp hw).1, good_of_word (List.mem_filter.mp hw).2⟩
theorem jl_good8 : GoodIn lw_tbl jc_w8 := by
  intro w hw
  rcases List.mem_cons.mp hw with rfl | hw
  · exact ⟨(jn_m4 164 rfl), good_of_word rfl⟩
  · exact ⟨(List.mem_filter.mp hw).1, good_of_word (List.mem_filter.mp hw).2⟩
theorem jl_N {args : Array Value} {s : State} (hts : ∀ w ∈ lw_tbl, w.before args s = true) : js_N s := fun w hw hn => va_Nw.of (by cases w <;> first | rfl | cases hn) (hts w hw)
set_option maxHeartbeats 16000000 in
set_option maxRecDepth 100000 in
theorem jl_statics {s : State} {b : Nat} (hts : ∀ w ∈ lw_tbl, w.before #[Value.ref b] s = true) (hgv : (Jvm.Cond.and given_1 narrow_1).before #[Value.ref b] s = true) :
    ∃ t78 t79 t80 t81 t83 t84 : Nat,
      (va_T .int t78 4 (fun j => .int (Int32.ofInt (jm_SC 78 j))) (fun q => s.heap.size ≤ q) s s.heap ∧ va_Z "BlobCorners$Outlines" "STEP_X" "[I" (.ref t78) (fun q => s.heap.size ≤ q) s s.heap) ∧
      (va_T .int t79 4 (fun j => .int (Int32.ofInt (jm_SC 79 j))) (fun q => s.heap.size ≤ q) s s.heap ∧ va_Z "BlobCorners$Outlines" "STEP_Y" "[I" (.ref t79) (fun q => s.heap.size ≤ q) s s.heap) ∧
      (va_T .int t80 4 (fun j => .int (Int32.ofInt (jm_SC 80 j))) (fun q => s.heap.size ≤ q) s s.heap ∧ va_Z "BlobCorners$Outlines" "START_ORDER" "[I" (.ref t80) (fun q => s.heap.size ≤ q) s s.heap) ∧
      (va_T .int t81 4 (fun j => .int (Int32.ofInt (jm_SC 81 j))) (fun q => s.heap.size ≤ q) s s.heap ∧ va_Z "BlobCorners$Seen" "SORTS_THAT_ARE" "[I" (.ref t81) (fun q => s.heap.size ≤ q) s s.heap) ∧
      va_Z "java/lang/String" "COMPACT_STRINGS" "Z" (.int 1) (fun q => s.heap.size ≤ q) s s.heap ∧
      (vk_R "BlobCorners$Page" 40 "dhstl" t83 s ∧ va_O "java/lang/String" t83 (fun q => s.heap.size ≤ q) s s.heap ∧ va_OF "java/lang/String" "coder" "B" (.int 0) t83 (fun q => s.heap.size ≤ q) s s.heap ∧ va_OF "java/lang/String" "value" "[B" (.ref t84) t83 (fun q => s.heap.size ≤ q) s s.heap ∧ va_T .byte t84 5 (fun j => .int (Int32.ofInt (jm_SC 84 j))) (fun q => s.heap.size ≤ q) s s.heap) := by
  have hs := flat_of_before _ hgv
  have hA : ∀ a : Nat, a < s.heap.size → ¬ (fun q : Nat => s.heap.size ≤ q) a := fun a h => Nat.not_le.mpr h
  obtain ⟨t78, e78, T78⟩ := va_Tof (args := #[Value.ref b]) (s := s) (tm := (Term.static "BlobCorners$Outlines" "STEP_X" "[I")) (ty := .int) (N := 4) (f := fun j => .int (Int32.ofInt (jm_SC 78 j))) (A := fun q => s.heap.size ≤ q) (by decide) (hs _ (by decide +kernel)) (va_eqt (z := 4) (hs _ (by decide +kernel))) (fun j hj => by
    match j, hj with
    | 0, _ => exact va_eqt (z := 1) (hs _ (by decide +kernel))
    | 1, _ => exact va_eqt (z := 0) (hs _ (by decide +kernel))
    | 2, _ => exact va_eqt (z := (-1)) (hs _ (by decide +kernel))
    | 3, _ => exact va_eqt (z := 0) (hs _ (by decide +kernel))
    | j + 4, h => exact absurd h (by omega)) hA
  obtain ⟨t79, e79, T79⟩ := va_Tof (args := #[Value.ref b]) (s := s) (tm := (Term.static "BlobCorners$Outlines" "STEP_Y" "[I")) (ty := .int) (N := 4) (f := fun j => .int (Int32.ofInt (jm_SC 79 j))) (A := fun q => s.heap.size ≤ q) (by decide) (hs _ (by decide +kernel)) (va_eqt (z := 4) (hs _ (by decide +kernel))) (fun j hj => by
    match j, hj with
    | 0, _ => exact va_eqt (z := 0) (hs _ (by decide +kernel))
    | 1, _ => exact va_eqt (z := 1) (hs _ (by decide +kernel))
    | 2, _ => exact va_eqt (z := 0) (hs _ (by decide +kernel))
    | 3, _ => exact va_eqt (z := (-1)) (hs _ (by decide +kernel))
    | j + 4, h => exact absurd h (by omega)) hA
  obtain ⟨t80, e80, T80⟩ := va_Tof (args := #[Value.ref b]) (s := s) (tm := (Term.static "BlobCorners$Outlines" "START_ORDER" "[I")) (ty := .int) (N := 4) (f := fun j => .int (Int32.ofInt (jm_SC 80 j))) (A := fun q => s.heap.size ≤ q) (by decide) (hs _ (by decide +kernel)) (va_eqt (z := 4) (hs _ (by decide +kernel))) (fun j hj => by
    match j, hj with
    | 0, _ => exact va_eqt (z := 2) (hs _ (by decide +kernel))
    | 1, _ => exact va_eqt (z := 3) (hs _ (by decide +kernel))
    | 2, _ => exact va_eqt (z := 1) (hs _ (by decide +kernel))
    | 3, _ => exact va_eqt (z := 0) (hs _ (by decide +kernel))
    | j + 4, h => exact absurd h (by omega)) hA
  obtain ⟨t81, e81, T81⟩ := va_Tof (args := #[Value.ref b]) (s := s) (tm := (Term.static "BlobCorners$Seen" "SORTS_THAT_ARE" "[I")) (ty := .int) (N := 4) (f := fun j => .int (Int32.ofInt (jm_SC 81 j))) (A := fun q => s.heap.size ≤ q) (by decide) (hs _ (by decide +kernel)) (va_eqt (z := 4) (hs _ (by decide +kernel))) (fun j hj => by
    match j, hj with
    | 0, _ => exact va_eqt (z := 6) (hs _ (by decide +kernel))
    | 1, _ => exact va_eqt (z := 4) (hs _ (by decide +kernel))
    | 2, _ => exact va_eqt (z := 23) (hs _ (by decide +kernel))
    | 3, _ => exact va_eqt (z := 16) (hs _ (by decide +kernel))
    | j + 4, h => exact absurd h (by omega)) hA
  obtain ⟨t83, c83, cA83, kA83, q1, q2, q3, q4, q5, q6, -⟩ := Cond.exactly_spec (args := #[Value.ref b]) (first := s) (o := none) (s := s) (idx := []) (t := (Term.string "BlobCorners$Page" 40)) (cls := "java/lang/String") (hs _ (by decide +kernel))
  obtain ⟨t84, e84, T84⟩ := va_Tof (args := #[Value.ref b]) (s := s) (tm := .field (Term.string "BlobCorners$Page" 40) "java/lang/String" "value" "[B") (ty := .byte) (N := 5) (f := fun j => .int (Int32.ofInt (jm_SC 84 j))) (A := fun q => s.heap.size ≤ q) (by decide) (hs _ (by decide +kernel)) (va_eqt (z := 5) (hs _ (by decide +kernel))) (fun j hj => by
    match j, hj with
    | 0, _ => exact va_eqt (z := 100) (hs _ (by decide +kernel))
    | 1, _ => exact va_eqt (z := 104) (hs _ (by decide +kernel))
    | 2, _ => exact va_eqt (z := 115) (hs _ (by decide +kernel))
    | 3, _ => exact va_eqt (z := 116) (hs _ (by decide +kernel))
    | 4, _ => exact va_eqt (z := 108) (hs _ (by decide +kernel))
    | j + 5, h => exact absurd h (by omega)) hA
  refine ⟨t78, t79, t80, t81, t83, t84, ⟨T78, va_Zof (hts _ (jn_m2 205 rfl)) (hts _ (jn_m1 6 rfl)) e78 hA⟩, ⟨T79, va_Zof (hts _ (jn_m2 207 rfl)) (hts _ (jn_m1 6 rfl)) e79 hA⟩, ⟨T80, va_Zof (hts _ (jn_m2 192 rfl)) (hts _ (jn_m1 6 rfl)) e80 hA⟩, ⟨T81, va_Zof (hts _ (jn_m3 34 rfl)) (hts _ (jn_m1 4 rfl)) e81 hA⟩, va_Zof (hts _ (jn_m2 52 rfl)) (hts _ (jn_m1 10 rfl)) (va_eqi (hs _ (by decide +kernel))) hA, vk_R.of (A := #[Value.ref b]) (hts _ (jn_m2 38 rfl)) ?_, ⟨cA83, q3, q5, by rw [q6]; exact q2, hA _ (Array.getElem?_eq_some_iff.mp q3).1⟩, vk_OFof q1 (va_eqt (z := 0) (hs _ (by decide +kernel))) hA, vk_OFof q1 e84 hA, T84⟩
  exact q1
