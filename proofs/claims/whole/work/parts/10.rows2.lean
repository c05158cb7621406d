section Rows2
variable {p : Program} {l : Launch} {e : Env} {R : Room} {s : State} {m : MethodId} {args : Array Value} {below : List Frame} {meth : Method} {c : Code} {cells slots : Nat} {Q : State → Prop} {D : va_G} {cy : Nat → ClassId} {ad : Nat → Nat} {x pc : Nat} {A : List jm_V} {hp : jm_H}
theorem js_bif_t {α : Type} {P : Prop} {a b : α} (i : Decidable P) (h : P) : (bif @decide P i then a else b) = a := by simp [h]
theorem js_bif_f {α : Type} {P : Prop} {a b : α} (i : Decidable P) (h : ¬ P) : (bif @decide P i then a else b) = b := by simp [h]
theorem js_icmp {r : List jm_V} {a b o : Int} {tg : Nat} {cd : ClassFile.Cond} (C : js_Cx p R s m args c cells slots D cy ad x) (hd : decode (jn_y x).2.1 pc = .ok (.if_icmp cd o, 3)) (ht : (pc : Int) + o = (tg : Int)) (k : js_G p l e R s m args below meth c cells slots Q D cy ad x (bif jm_cmp cd (jm_w32 a) (jm_w32 b) then tg else pc + 3) A r hp) : js_G p l e R s m args below meth c cells slots Q D cy ad x pc A (jI b :: jI a :: r) hp := by
  intro H locs ls h1 h2 h3 h4 h5
  have K := k H locs ls h1 h2 h3 h4 h5
  cases cd with
  | eq => exact lv_icmp_eq C.1 C.2.1 hd ht (fun q => by rwa [show (bif jm_cmp .eq (jm_w32 a) (jm_w32 b) then tg else pc + 3) = tg from js_bif_t _ ((js_eqI a b).mp q)] at K) (fun q => by rwa [show (bif jm_cmp .eq (jm_w32 a) (jm_w32 b) then tg else pc + 3) = pc + 3 from js_bif_f _ (fun w => q ((js_eqI a b).mpr w))] at K)
  | ne => exact lv_icmp_ne C.1 C.2.1 hd ht (fun q => by rwa [show (bif jm_cmp .ne (jm_w32 a) (jm_w32 b) then tg else pc + 3) = tg from js_bif_t _ (fun w => q ((js_eqI a b).mpr w))] at K) (fun q => by rwa [show (bif jm_cmp .ne (jm_w32 a) (jm_w32 b) then tg else pc + 3) = pc + 3 from js_bif_f _ (fun w => w ((js_eqI a b).mp q))] at K)
  | lt => exact lv_icmp_lt C.1 C.2.1 hd ht (fun q => by rwa [show (bif jm_cmp .lt (jm_w32 a) (jm_w32 b) then tg else pc + 3) = tg from js_bif_t _ ((js_ltI a b).mp q)] at K) (fun q => by rwa [show (bif jm_cmp .lt (jm_w32 a) (jm_w32 b) then tg else pc + 3) = pc + 3 from js_bif_f _ (fun w => q ((js_ltI a b).mpr w))] at K)
  | ge => exact lv_icmp_ge C.1 C.2.1 hd ht (fun q => by rwa [show (bif jm_cmp .ge (jm_w32 a) (jm_w32 b) then tg else pc + 3) = tg from js_bif_t _ ((js_leI b a).mp q)] at K) (fun q => by rwa [show (bif jm_cmp .ge (jm_w32 a) (jm_w32 b) then tg else pc + 3) = pc + 3 from js_bif_f _ (fun w => q ((js_leI b a).mpr w))] at K)
  | gt => exact lv_icmp_gt C.1 C.2.1 hd ht (fun q => by rwa [show (bif jm_cmp .gt (jm_w32 a) (jm_w32 b) then tg else pc + 3) = tg from js_bif_t _ ((js_ltI b a).mp q)] at K) (fun q => by rwa [show (bif jm_cmp .gt (jm_w32 a) (jm_w32 b) then tg else pc + 3) = pc + 3 from js_bif_f _ (fun w => q ((js_ltI b a).mpr w))] at K)
  | le => exact lv_icmp_le C.1 C.2.1 hd ht (fun q => by rwa [show (bif jm_cmp .le (jm_w32 a) (jm_w32 b) then tg else pc + 3) = tg from js_bif_t _ ((js_leI a b).mp q)] at K) (fun q => by rwa [show (bif jm_cmp .le (jm_w32 a) (jm_w32 b) then tg else pc + 3) = pc + 3 from js_bif_f _ (fun w => q ((js_leI a b).mpr w))] at K)
theorem js_w32_0 : jm_w32 0 = 0 := rfl
theorem js_ifc {r : List jm_V} {a o : Int} {tg : Nat} {cd : ClassFile.Cond} (C : js_Cx p R s m args c cells slots D cy ad x) (hd : decode (jn_y x).2.1 pc = .ok (.ifCond cd o, 3)) (ht : (pc : Int) + o = (tg : Int)) (k : js_G p l e R s m args below meth c cells slots Q D cy ad x (bif jm_cmp cd (jm_w32 a) 0 then tg else pc + 3) A r hp) : js_G p l e R s m args below meth c cells slots Q D cy ad x pc A (jI a :: r) hp := by
  intro H locs ls h1 h2 h3 h4 h5
  have K := k H locs ls h1 h2 h3 h4 h5
  cases cd with
  | eq => exact lv_if_eq C.1 C.2.1 hd ht (fun q => by rwa [show (bif jm_cmp .eq (jm_w32 a) 0 then tg else pc + 3) = tg from js_bif_t _ ((js_eqI a 0).mp q)] at K) (fun q => by rwa [show (bif jm_cmp .eq (jm_w32 a) 0 then tg else pc + 3) = pc + 3 from js_bif_f _ (fun w => q ((js_eqI a 0).mpr w))] at K)
  | ne => exact lv_if_ne C.1 C.2.1 hd ht (fun q => by rwa [show (bif jm_cmp .ne (jm_w32 a) 0 then tg else pc + 3) = tg from js_bif_t _ (fun w => q ((js_eqI a 0).mpr w))] at K) (fun q => by rwa [show (bif jm_cmp .ne (jm_w32 a) 0 then tg else pc + 3) = pc + 3 from js_bif_f _ (fun w => w ((js_eqI a 0).mp q))] at K)
  | lt => exact lv_if_lt C.1 C.2.1 hd ht (fun q => by rwa [show (bif jm_cmp .lt (jm_w32 a) 0 then tg else pc + 3) = tg from js_bif_t _ ((js_ltI a 0).mp q)] at K) (fun q => by rwa [show (bif jm_cmp .lt (jm_w32 a) 0 then tg else pc + 3) = pc + 3 from js_bif_f _ (fun w => q ((js_ltI a 0).mpr w))] at K)
  | ge => exact lv_if_ge C.1 C.2.1 hd ht (fun q => by rwa [show (bif jm_cmp .ge (jm_w32 a) 0 then tg else pc + 3) = tg from js_bif_t _ ((js_leI 0 a).mp q)] at K) (fun q => by rwa [show (bif jm_cmp .ge (jm_w32 a) 0 then tg else pc + 3) = pc + 3 from js_bif_f _ (fun w => q ((js_leI 0 a).mpr w))] at K)
  | gt => exact lv_if_gt C.1 C.2.1 hd ht (fun q => by rwa [show (bif jm_cmp .gt (jm_w32 a) 0 then tg else pc + 3) = tg from js_bif_t _ ((js_ltI 0 a).mp q)] at K) (fun q => by rwa [show (bif jm_cmp .gt (jm_w32 a) 0 then tg else pc + 3) = pc + 3 from js_bif_f _ (fun w => q ((js_ltI 0 a).mpr w))] at K)
  | le => exact lv_if_le C.1 C.2.1 hd ht (fun q => by rwa [show (bif jm_cmp .le (jm_w32 a) 0 then tg else pc + 3) = tg from js_bif_t _ ((js_leI a 0).mp q)] at K) (fun q => by rwa [show (bif jm_cmp .le (jm_w32 a) 0 then tg else pc + 3) = pc + 3 from js_bif_f _ (fun w => q ((js_leI a 0).mpr w))] at K)
theorem js_tsw {r : List jm_V} {a d lo hi : Int} {offs : Array Int} {len q : Nat} (C : js_Cx p R s m args c cells slots D cy ad x) (hd : decode (jn_y x).2.1 pc = .ok (.tableswitch d lo hi offs, len)) (ht : jn_tgt (.tableswitch d lo hi offs) pc 0 = true) (hq : jm_tsw d lo hi offs pc (jm_w32 a) = some q) (k : js_G p l e R s m args below meth c cells slots Q D cy ad x q A r hp) : js_G p l e R s m args below meth c cells slots Q D cy ad x pc A (jI a :: r) hp := by
  intro H locs ls h1 h2 h3 h4 h5
  have K := k H locs ls h1 h2 h3 h4 h5
  simp only [jn_tgt, Bool.and_eq_true, decide_eq_true_eq, List.all_eq_true] at ht
  unfold jm_tsw at hq
  by_cases hc : jm_w32 a < lo ∨ hi < jm_w32 a
  · rw [if_pos hc] at hq
    cases hq
    exact lv_tableOut C.1 C.2.1 hd hc (by omega) K
  · rw [if_neg hc] at hq
    cases ho : offs[(jm_w32 a - lo).toNat]? with
    | none => rw [ho] at hq; cases hq
    | some o =>
      rw [ho] at hq
      cases hq
      have hm : o ∈ offs.toList := by
        rw [← Array.getElem?_toList] at ho
        exact List.mem_of_getElem? ho
      have h0 := ht.2 o hm
      exact lv_tableIn C.1 C.2.1 hd (fun w => hc (Or.inl w)) (fun w => hc (Or.inr w)) ho (by omega) K
theorem js_off {l : List (Int × Int)} {d z : Int} (P : Int → Prop) (hd : P d) (hl : ∀ o ∈ l, P o.2) : P (Op.lookupswitch.offset l d z) := by
  induction l with
  | nil => exact hd
  | cons o l ih =>
    obtain ⟨a, b⟩ := o
    rw [Op.lookupswitch.offset_cons]
    by_cases h : a = z
    · rw [if_pos h]; exact hl (a, b) List.mem_cons_self
    · rw [if_neg h]; exact ih (fun o ho => hl o (List.mem_cons_of_mem _ ho))
theorem js_lsw {r : List jm_V} {a d : Int} {ps : Array (Int × Int)} {len : Nat} (C : js_Cx p R s m args c cells slots D cy ad x) (hd : decode (jn_y x).2.1 pc = .ok (.lookupswitch d ps, len)) (ht : jn_tgt (.lookupswitch d ps) pc 0 = true) (k : js_G p l e R s m args below meth c cells slots Q D cy ad x (((pc : Int) + Op.lookupswitch.offset ps.toList d (jm_w32 a)).toNat) A r hp) : js_G p l e R s m args below meth c cells slots Q D cy ad x pc A (jI a :: r) hp := by
  intro H locs ls h1 h2 h3 h4 h5
  have K := k H locs ls h1 h2 h3 h4 h5
  simp only [jn_tgt, Bool.and_eq_true, decide_eq_true_eq] at ht
  have h0 : 0 ≤ (pc : Int) + Op.lookupswitch.offset ps.toList d (jm_w32 a) := js_off (fun o => 0 ≤ (pc : Int) + o) ht.1.2 (fun o ho => by simpa using List.all_eq_true.mp ht.2 o ho)
  exact lv_lookup C.1 C.2.1 hd ht.1.1 rfl (by show (pc : Int) + Op.lookupswitch.offset ps.toList d (jm_w32 a) = _; omega) K
theorem js_lcmp {r : List jm_V} {a b : Int} (C : js_Cx p R s m args c cells slots D cy ad x) (hd : decode (jn_y x).2.1 pc = .ok (.lcmp, 1)) (k : js_G p l e R s m args below meth c cells slots Q D cy ad x (pc + 1) A (jI (jm_lc (jm_w64 a) (jm_w64 b)) :: r) hp) : js_G p l e R s m args below meth c cells slots Q D cy ad x pc A (jL b :: jL a :: r) hp := by
  intro H locs ls h1 h2 h3 h4 h5
  have K := k H locs ls h1 h2 h3 h4 h5
  have e : lg_cmp (Int64.ofInt a) (Int64.ofInt b) = Int32.ofInt (jm_lc (jm_w64 a) (jm_w64 b)) := by
    by_cases q1 : jm_w64 b < jm_w64 a
    · have q2 : Int64.ofInt b < Int64.ofInt a := Int64.lt_iff_toInt_lt.mpr q1
      have e1 : lg_cmp (Int64.ofInt a) (Int64.ofInt b) = 1 := by simp [lg_cmp, q2]
      have e2 : jm_lc (jm_w64 a) (jm_w64 b) = 1 := by unfold jm_lc; rw [if_neg (by omega), if_neg (by omega)]
      rw [e1, e2]; rfl
    · have q2 : ¬ Int64.ofInt b < Int64.ofInt a := fun w => q1 (Int64.lt_iff_toInt_lt.mp w)
      by_cases q3 : jm_w64 a = jm_w64 b
      · have q4 : Int64.ofInt a = Int64.ofInt b := Int64.toInt_inj.mp q3
        have e1 : lg_cmp (Int64.ofInt a) (Int64.ofInt b) = 0 := by rw [q4]; simp [lg_cmp]
        have e2 : jm_lc (jm_w64 a) (jm_w64 b) = 0 := by unfold jm_lc; rw [if_neg (by omega), if_pos q3]
        rw [e1, e2]; rfl
      · have q4 : ¬ Int64.ofInt a = Int64.ofInt b := fun w => q3 (congrArg Int64.toInt w)
        have e1 : lg_cmp (Int64.ofInt a) (Int64.ofInt b) = -1 := by simp [lg_cmp, q2, q4]
        have e2 : jm_lc (jm_w64 a) (jm_w64 b) = -1 := by unfold jm_lc; rw [if_pos (by omega)]
        rw [e1, e2]; rfl
  refine W.lcmp C.1 C.2.1 hd ?_
  rw [e]
  exact K
theorem js_fcmp {r : List jm_V} {a b : Nat} {op : CmpOp} (C : js_Cx p R s m args c cells slots D cy ad x) (hd : decode (jn_y x).2.1 pc = .ok (.fcmp op, 1)) (k : js_G p l e R s m args below meth c cells slots Q D cy ad x (pc + 1) A (jI (Op.cmpValue (FP.fcmp (UInt32.ofNat a) (UInt32.ofNat b)) op).toInt :: r) hp) : js_G p l e R s m args below meth c cells slots Q D cy ad x pc A (jF b :: jF a :: r) hp := by
  intro H locs ls h1 h2 h3 h4 h5
  have K := k H locs ls h1 h2 h3 h4 h5
  refine lv_fcmp C.1 C.2.1 hd ?_
  have e : js_v ad (jI (Op.cmpValue (FP.fcmp (UInt32.ofNat a) (UInt32.ofNat b)) op).toInt) = .int (Op.cmpValue (FP.fcmp (UInt32.ofNat a) (UInt32.ofNat b)) op) := by show Value.int (Int32.ofInt _) = _; rw [Int32.ofInt_toInt]
  rw [List.map_cons, e] at K
  exact K
/-- a row whose answer is an int that the machine knows as the Int32 v -/
theorem js_topI {r : List jm_V} {q : Nat} {v : Int32} {H : Heap} {locs : List Loc} {ls : Array Slot} (K : W p l e R s m args below meth c H locs cells slots Q (F0 m q ls (List.map (js_v ad) (jI v.toInt :: r)))) : W p l e R s m args below meth c H locs cells slots Q (F0 m q ls (.int v :: r.map (js_v ad))) := by
  have e : js_v ad (jI v.toInt) = .int v := by show Value.int (Int32.ofInt _) = _; rw [Int32.ofInt_toInt]
  rw [List.map_cons, e] at K
  exact K
theorem js_topL {r : List jm_V} {q : Nat} {v : Int64} {H : Heap} {locs : List Loc} {ls : Array Slot} (K : W p l e R s m args below meth c H locs cells slots Q (F0 m q ls (List.map (js_v ad) (jL v.toInt :: r)))) : W p l e R s m args below meth c H locs cells slots Q (F0 m q ls (.long v :: r.map (js_v ad))) := by
  have e : js_v ad (jL v.toInt) = .long v := by show Value.long (Int64.ofInt _) = _; rw [Int64.ofInt_toInt]
  rw [List.map_cons, e] at K
  exact K
theorem js_topF {r : List jm_V} {q : Nat} {v : UInt32} {H : Heap} {locs : List Loc} {ls : Array Slot} (K : W p l e R s m args below meth c H locs cells slots Q (F0 m q ls (List.map (js_v ad) (jF v.toNat :: r)))) : W p l e R s m args below meth c H locs cells slots Q (F0 m q ls (.float v :: r.map (js_v ad))) := by
  have e : js_v ad (jF v.toNat) = .float v := by show Value.float (UInt32.ofNat _) = _; rw [UInt32.ofNat_toNat]
  rw [List.map_cons, e] at K
  exact K
theorem js_i2l {r : List jm_V} {a : Int} (C : js_Cx p R s m args c cells slots D cy ad x) (hd : decode (jn_y x).2.1 pc = .ok (.i2l, 1)) (k : js_G p l e R s m args below meth c cells slots Q D cy ad x (pc + 1) A (jL (jm_w32 a) :: r) hp) : js_G p l e R s m args below meth c cells slots Q D cy ad x pc A (jI a :: r) hp :=
  fun H locs ls h1 h2 h3 h4 h5 => lv_i2l C.1 C.2.1 hd (Int64.ofInt_int32ToInt (Int32.ofInt a)).symm (k H locs ls h1 h2 h3 h4 h5)
theorem js_l2i {r : List jm_V} {a : Int} (C : js_Cx p R s m args c cells slots D cy ad x) (hd : decode (jn_y x).2.1 pc = .ok (.l2i, 1)) (k : js_G p l e R s m args below meth c cells slots Q D cy ad x (pc + 1) A (jI a :: r) hp) : js_G p l e R s m args below meth c cells slots Q D cy ad x pc A (jL a :: r) hp :=
  fun H locs ls h1 h2 h3 h4 h5 => lv_l2i C.1 C.2.1 hd Int64.toInt32_ofInt (k H locs ls h1 h2 h3 h4 h5)
theorem js_i2c {r : List jm_V} {a : Int} (C : js_Cx p R s m args c cells slots D cy ad x) (hd : decode (jn_y x).2.1 pc = .ok (.i2c, 1)) (k : js_G p l e R s m args below meth c cells slots Q D cy ad x (pc + 1) A (jI ((Int32.ofInt a).toUInt32 % 65536).toInt32.toInt :: r) hp) : js_G p l e R s m args below meth c cells slots Q D cy ad x pc A (jI a :: r) hp :=
  fun H locs ls h1 h2 h3 h4 h5 => lv_i2c C.1 C.2.1 hd rfl (js_topI (k H locs ls h1 h2 h3 h4 h5))
theorem js_i2b {r : List jm_V} {a : Int} (C : js_Cx p R s m args c cells slots D cy ad x) (hd : decode (jn_y x).2.1 pc = .ok (.i2b, 1)) (k : js_G p l e R s m args below meth c cells slots Q D cy ad x (pc + 1) A (jI (Int32.ofInt a).toInt8.toInt32.toInt :: r) hp) : js_G p l e R s m args below meth c cells slots Q D cy ad x pc A (jI a :: r) hp :=
  fun H locs ls h1 h2 h3 h4 h5 => lv_i2b C.1 C.2.1 hd rfl (js_topI (k H locs ls h1 h2 h3 h4 h5))
theorem js_i2f {r : List jm_V} {a : Int} (C : js_Cx p R s m args c cells slots D cy ad x) (hd : decode (jn_y x).2.1 pc = .ok (.i2f, 1)) (k : js_G p l e R s m args below meth c cells slots Q D cy ad x (pc + 1) A (jF (FP.i2f (Int32.ofInt a)).toNat :: r) hp) : js_G p l e R s m args below meth c cells slots Q D cy ad x pc A (jI a :: r) hp :=
  fun H locs ls h1 h2 h3 h4 h5 => lv_i2f C.1 C.2.1 hd (js_topF (k H locs ls h1 h2 h3 h4 h5))
theorem js_f2i {r : List jm_V} {a : Nat} (C : js_Cx p R s m args c cells slots D cy ad x) (hd : decode (jn_y x).2.1 pc = .ok (.f2i, 1)) (k : js_G p l e R s m args below meth c cells slots Q D cy ad x (pc + 1) A (jI (FP.f2i (UInt32.ofNat a)).toInt :: r) hp) : js_G p l e R s m args below meth c cells slots Q D cy ad x pc A (jF a :: r) hp :=
  fun H locs ls h1 h2 h3 h4 h5 => lv_f2i C.1 C.2.1 hd (js_topI (k H locs ls h1 h2 h3 h4 h5))
theorem js_ineg {r : List jm_V} {a : Int} (C : js_Cx p R s m args c cells slots D cy ad x) (hd : decode (jn_y x).2.1 pc = .ok (.ineg, 1)) (k : js_G p l e R s m args below meth c cells slots Q D cy ad x (pc + 1) A (jI (-a) :: r) hp) : js_G p l e R s m args below meth c cells slots Q D cy ad x pc A (jI a :: r) hp := by
  intro H locs ls h1 h2 h3 h4 h5
  have K := k H locs ls h1 h2 h3 h4 h5
  refine lv_ineg C.1 C.2.1 hd ?_
  have e : js_v ad (jI (-a)) = .int (-Int32.ofInt a) := by show Value.int (Int32.ofInt _) = _; rw [Int32.ofInt_neg]
  rw [List.map_cons, e] at K
  first | exact K | simpa using K
theorem js_lshl {r : List jm_V} {a b : Int} (C : js_Cx p R s m args c cells slots D cy ad x) (hd : decode (jn_y x).2.1 pc = .ok (.lshl, 1)) (k : js_G p l e R s m args below meth c cells slots Q D cy ad x (pc + 1) A (jL (Int64.ofInt a <<< ((Int32.ofInt b).toInt64 &&& 63)).toInt :: r) hp) : js_G p l e R s m args below meth c cells slots Q D cy ad x pc A (jI b :: jL a :: r) hp :=
  fun H locs ls h1 h2 h3 h4 h5 => lv_lshl C.1 C.2.1 hd rfl (js_topL (k H locs ls h1 h2 h3 h4 h5))
theorem js_lushr {r : List jm_V} {a b : Int} (C : js_Cx p R s m args c cells slots D cy ad x) (hd : decode (jn_y x).2.1 pc = .ok (.lushr, 1)) (k : js_G p l e R s m args below meth c cells slots Q D cy ad x (pc + 1) A (jL ((Int64.ofInt a).toUInt64 >>> ((Int32.ofInt b).toInt64.toUInt64 &&& Int64.toUInt64 63)).toInt64.toInt :: r) hp) : js_G p l e R s m args below meth c cells slots Q D cy ad x pc A (jI b :: jL a :: r) hp :=
  fun H locs ls h1 h2 h3 h4 h5 => lv_lushr C.1 C.2.1 hd rfl (js_topL (k H locs ls h1 h2 h3 h4 h5))
theorem js_dup {r : List jm_V} {v : jm_V} (C : js_Cx p R s m args c cells slots D cy ad x) (hd : decode (jn_y x).2.1 pc = .ok (.dup, 1)) (hv : jm_cat v = 1) (k : js_G p l e R s m args below meth c cells slots Q D cy ad x (pc + 1) A (v :: v :: r) hp) : js_G p l e R s m args below meth c cells slots Q D cy ad x pc A (v :: r) hp :=
  fun H locs ls h1 h2 h3 h4 h5 => lv_dup C.1 C.2.1 hd ((js_cat ad v).trans hv) (k H locs ls h1 h2 h3 h4 h5)
theorem js_pop {r : List jm_V} {v : jm_V} (C : js_Cx p R s m args c cells slots D cy ad x) (hd : decode (jn_y x).2.1 pc = .ok (.pop, 1)) (hv : jm_cat v = 1) (k : js_G p l e R s m args below meth c cells slots Q D cy ad x (pc + 1) A r hp) : js_G p l e R s m args below meth c cells slots Q D cy ad x pc A (v :: r) hp :=
  fun H locs ls h1 h2 h3 h4 h5 => lv_pop C.1 C.2.1 hd ((js_cat ad v).trans hv) (k H locs ls h1 h2 h3 h4 h5)
theorem js_dup2 {r : List jm_V} {v w : jm_V} (C : js_Cx p R s m args c cells slots D cy ad x) (hd : decode (jn_y x).2.1 pc = .ok (.dup2, 1)) (hv : jm_cat v = 1) (hw : jm_cat w = 1) (k : js_G p l e R s m args below meth c cells slots Q D cy ad x (pc + 1) A (v :: w :: v :: w :: r) hp) : js_G p l e R s m args below meth c cells slots Q D cy ad x pc A (v :: w :: r) hp :=
  fun H locs ls h1 h2 h3 h4 h5 => lv_dup2_11 C.1 C.2.1 hd ((js_cat ad v).trans hv) ((js_cat ad w).trans hw) (k H locs ls h1 h2 h3 h4 h5)
end Rows2
