section Rows3
variable {p : Program} {l : Launch} {e : Env} {R : Room} {s : State} {m : MethodId} {args : Array Value} {below : List Frame} {meth : Method} {c : Code} {cells slots : Nat} {Q : State → Prop} {D : va_G} {cy : Nat → ClassId} {ad : Nat → Nat} {x pc : Nat} {A : List jm_V} {hp : jm_H}
theorem js_ne0 {b : Int} (h : ¬ jm_w32 b = 0) : ¬ Int32.ofInt b = 0 := fun w => h ((js_eq0 b).mp w)
theorem js_ne0L {b : Int} (h : ¬ jm_w64 b = 0) : ¬ Int64.ofInt b = 0 := fun w => h (by unfold jm_w64; rw [w]; rfl)
set_option maxHeartbeats 4000000 in
theorem js_i2 {r : List jm_V} {a b z : Int} {i : Instr} (C : js_Cx p R s m args c cells slots D cy ad x) (hd : decode (jn_y x).2.1 pc = .ok (i, 1)) (hz : jm_i2 i a b = some z) (k : js_G p l e R s m args below meth c cells slots Q D cy ad x (pc + 1) A (jI z :: r) hp) : js_G p l e R s m args below meth c cells slots Q D cy ad x pc A (jI b :: jI a :: r) hp := by
  intro H locs ls h1 h2 h3 h4 h5
  have K := k H locs ls h1 h2 h3 h4 h5
  cases i
  case iadd =>
    cases hz
    rw [List.map_cons, show js_v ad (jI (a + b)) = .int (Int32.ofInt a + Int32.ofInt b) from congrArg Value.int (Int32.ofInt_add a b)] at K
    exact lv_iadd C.1 C.2.1 hd K
  case isub =>
    cases hz
    rw [List.map_cons, show js_v ad (jI (a - b)) = .int (Int32.ofInt a - Int32.ofInt b) from congrArg Value.int (Int32.ofInt_sub a b)] at K
    exact lv_isub C.1 C.2.1 hd K
  case imul =>
    cases hz
    rw [List.map_cons, show js_v ad (jI (a * b)) = .int (Int32.ofInt a * Int32.ofInt b) from congrArg Value.int (Int32.ofInt_mul a b)] at K
    exact lv_imul C.1 C.2.1 hd K
  case iand => cases hz; exact lv_iand C.1 C.2.1 hd (js_topI K)
  case ior => cases hz; exact lv_ior C.1 C.2.1 hd (js_topI K)
  case ixor => cases hz; exact lv_ixor C.1 C.2.1 hd (js_topI K)
  case ishl => cases hz; exact lv_ishl C.1 C.2.1 hd (js_topI K)
  case ishr => cases hz; exact lv_ishr C.1 C.2.1 hd (js_topI K)
  case iushr => cases hz; exact lv_iushr C.1 C.2.1 hd rfl (js_topI K)
  case idiv =>
    by_cases h0 : jm_w32 b = 0
    · rw [show jm_i2 .idiv a b = none from js_bif_t _ h0] at hz; cases hz
    · rw [show jm_i2 .idiv a b = some (Int32.ofInt a / Int32.ofInt b).toInt from js_bif_f _ h0] at hz
      cases hz
      exact lv_idiv C.1 C.2.1 hd (js_ne0 h0) (js_topI K)
  case irem =>
    by_cases h0 : jm_w32 b = 0
    · rw [show jm_i2 .irem a b = none from js_bif_t _ h0] at hz; cases hz
    · rw [show jm_i2 .irem a b = some (Int32.ofInt a - Int32.ofInt a / Int32.ofInt b * Int32.ofInt b).toInt from js_bif_f _ h0] at hz
      cases hz
      exact lv_irem C.1 C.2.1 hd (js_ne0 h0) (js_topI K)
  all_goals (cases hz)
set_option maxHeartbeats 4000000 in
theorem js_l2 {r : List jm_V} {a b z : Int} {i : Instr} (C : js_Cx p R s m args c cells slots D cy ad x) (hd : decode (jn_y x).2.1 pc = .ok (i, 1)) (hz : jm_l2 i a b = some z) (k : js_G p l e R s m args below meth c cells slots Q D cy ad x (pc + 1) A (jL z :: r) hp) : js_G p l e R s m args below meth c cells slots Q D cy ad x pc A (jL b :: jL a :: r) hp := by
  intro H locs ls h1 h2 h3 h4 h5
  have K := k H locs ls h1 h2 h3 h4 h5
  cases i
  case ladd =>
    cases hz
    rw [List.map_cons, show js_v ad (jL (a + b)) = .long (Int64.ofInt a + Int64.ofInt b) from congrArg Value.long (Int64.ofInt_add a b)] at K
    exact lv_ladd C.1 C.2.1 hd K
  case lsub =>
    cases hz
    rw [List.map_cons, show js_v ad (jL (a - b)) = .long (Int64.ofInt a - Int64.ofInt b) from congrArg Value.long (Int64.ofInt_sub a b)] at K
    exact lv_lsub C.1 C.2.1 hd K
  case lmul =>
    cases hz
    rw [List.map_cons, show js_v ad (jL (a * b)) = .long (Int64.ofInt a * Int64.ofInt b) from congrArg Value.long (Int64.ofInt_mul a b)] at K
    exact lv_lmul C.1 C.2.1 hd K
  case land => cases hz; exact lv_land C.1 C.2.1 hd (js_topL K)
  case lor => cases hz; exact lv_lor C.1 C.2.1 hd (js_topL K)
  case ldiv =>
    by_cases h0 : jm_w64 b = 0
    · rw [show jm_l2 .ldiv a b = none from js_bif_t _ h0] at hz; cases hz
    · rw [show jm_l2 .ldiv a b = some (Int64.ofInt a / Int64.ofInt b).toInt from js_bif_f _ h0] at hz
      cases hz
      exact lv_ldiv C.1 C.2.1 hd (js_ne0L h0) (js_topL K)
  case lrem =>
    by_cases h0 : jm_w64 b = 0
    · rw [show jm_l2 .lrem a b = none from js_bif_t _ h0] at hz; cases hz
    · rw [show jm_l2 .lrem a b = some (Int64.ofInt a - Int64.ofInt a / Int64.ofInt b * Int64.ofInt b).toInt from js_bif_f _ h0] at hz
      cases hz
      exact lv_lrem C.1 C.2.1 hd (js_ne0L h0) (js_topL K)
  all_goals (cases hz)
set_option maxHeartbeats 4000000 in
theorem js_f2 {r : List jm_V} {a b z : Nat} {i : Instr} (C : js_Cx p R s m args c cells slots D cy ad x) (hd : decode (jn_y x).2.1 pc = .ok (i, 1)) (hz : jm_f2 i a b = some z) (k : js_G p l e R s m args below meth c cells slots Q D cy ad x (pc + 1) A (jF z :: r) hp) : js_G p l e R s m args below meth c cells slots Q D cy ad x pc A (jF b :: jF a :: r) hp := by
  intro H locs ls h1 h2 h3 h4 h5
  have K := k H locs ls h1 h2 h3 h4 h5
  cases i
  case fadd =>
    by_cases h0 : FP.fadd (UInt32.ofNat a) (UInt32.ofNat b) &&& 0x7fffffff ≤ 0x7f800000
    · rw [show jm_f2 .fadd a b = some (FP.fadd (UInt32.ofNat a) (UInt32.ofNat b)).toNat from js_bif_t _ h0] at hz
      cases hz
      exact lv_fadd C.1 C.2.1 hd h0 (js_topF K)
    · rw [show jm_f2 .fadd a b = none from js_bif_f _ h0] at hz; cases hz
  case fsub =>
    by_cases h0 : FP.fsub (UInt32.ofNat a) (UInt32.ofNat b) &&& 0x7fffffff ≤ 0x7f800000
    · rw [show jm_f2 .fsub a b = some (FP.fsub (UInt32.ofNat a) (UInt32.ofNat b)).toNat from js_bif_t _ h0] at hz
      cases hz
      exact lv_fsub C.1 C.2.1 hd h0 (js_topF K)
    · rw [show jm_f2 .fsub a b = none from js_bif_f _ h0] at hz; cases hz
  case fmul =>
    by_cases h0 : FP.fmul (UInt32.ofNat a) (UInt32.ofNat b) &&& 0x7fffffff ≤ 0x7f800000
    · rw [show jm_f2 .fmul a b = some (FP.fmul (UInt32.ofNat a) (UInt32.ofNat b)).toNat from js_bif_t _ h0] at hz
      cases hz
      exact lv_fmul C.1 C.2.1 hd h0 (js_topF K)
    · rw [show jm_f2 .fmul a b = none from js_bif_f _ h0] at hz; cases hz
  case fdiv =>
    by_cases h0 : FP.fdiv (UInt32.ofNat a) (UInt32.ofNat b) &&& 0x7fffffff ≤ 0x7f800000
    · rw [show jm_f2 .fdiv a b = some (FP.fdiv (UInt32.ofNat a) (UInt32.ofNat b)).toNat from js_bif_t _ h0] at hz
      cases hz
      exact lv_fdiv C.1 C.2.1 hd h0 (js_topF K)
    · rw [show jm_f2 .fdiv a b = none from js_bif_f _ h0] at hz; cases hz
  all_goals (cases hz)
theorem js_in {i : Int} {n : Nat} (h : 0 ≤ jm_w32 i ∧ jm_w32 i < n) : vp_in (Int32.ofInt i) n := vp_in_iff.mpr h
theorem js_ix {i : Int} (h : 0 ≤ jm_w32 i) : (((Int32.ofInt i).toNatClampNeg : Nat) : Int) = jm_w32 i := by
  show (((Int32.ofInt i).toInt.toNat : Nat) : Int) = _
  unfold jm_w32 at *
  omega
theorem js_ce_i {cy : Nat → ClassId} {ad : Nat → Nat} {hp : jm_H} {k : Nat} {n : Int} (h : jm_sh k = .inr (0, n)) : js_ce cy ad hp k = .inl (cy 0, n.toNat, .inl (fun j => Int32.ofInt (hp k j))) := by
  unfold js_ce; rw [h]; rfl
theorem js_ce_z {cy : Nat → ClassId} {ad : Nat → Nat} {hp : jm_H} {k : Nat} {n : Int} (h : jm_sh k = .inr (3, n)) : js_ce cy ad hp k = .inl (cy 3, n.toNat, .inl (fun j => Int32.ofInt (hp k j))) := by
  unfold js_ce; rw [h]; rfl
theorem js_ce_l {cy : Nat → ClassId} {ad : Nat → Nat} {hp : jm_H} {k : Nat} {n : Int} (h : jm_sh k = .inr (1, n)) : js_ce cy ad hp k = .inl (cy 1, n.toNat, .inr (.inl (fun j => Int64.ofInt (hp k j)))) := by
  unfold js_ce; rw [h]; rfl
theorem js_ce_f {cy : Nat → ClassId} {ad : Nat → Nat} {hp : jm_H} {k : Nat} {n : Int} (h : jm_sh k = .inr (2, n)) : js_ce cy ad hp k = .inl (cy 2, n.toNat, .inr (.inr (.inl (fun j => UInt32.ofNat (hp k j).toNat)))) := by
  unfold js_ce; rw [h]; rfl
theorem js_ce_o {cy : Nat → ClassId} {ad : Nat → Nat} {hp : jm_H} {k ci : Nat} {fs : List (Nat ⊕ Nat)} (h : jm_sh k = .inl (ci, fs)) : js_ce cy ad hp k = .inr (ci, js_fs ad hp k fs) := by
  unfold js_ce; rw [h]
theorem js_rng {i n : Int} (h : 0 ≤ jm_w32 i ∧ jm_w32 i < n) : 0 ≤ jm_w32 i ∧ jm_w32 i < (n.toNat : Int) := by omega
/-- what an array is, by its tag -/
theorem js_ar_inv {hp : jm_H} {k t : Nat} {n : Int} {f : Int → Int} (ht : t < 5) (h : jm_ar hp k t = some (n, f)) : (jm_sh k = .inr (t, n) ∧ f = hp k) ∨ (t = 0 ∧ jm_sh k = .inr (10, n) ∧ f = jm_SC k) ∨ (t = 0 ∧ (∃ n0, jm_sh k = .inr (11, n0)) ∧ n = hp 85 0 ∧ f = hp 82) ∨ (t = 4 ∧ jm_sh k = .inr (14, n) ∧ f = jm_SC k) := by
  unfold jm_ar at h
  cases hs : jm_sh k with
  | inl q => rw [hs] at h; cases h
  | inr q =>
    obtain ⟨u, n0⟩ := q
    rw [hs] at h
    dsimp only at h
    cases h1 : Nat.beq u t with
    | true =>
      rw [h1] at h; cases h
      exact Or.inl ⟨by rw [Nat.eq_of_beq_eq_true h1], rfl⟩
    | false =>
      rw [h1] at h
      cases h2 : (Nat.beq t 0 && Nat.beq u 10) with
      | true =>
        rw [h2] at h; cases h
        obtain ⟨a1, a2⟩ := (Bool.and_eq_true _ _).mp h2
        exact Or.inr (Or.inl ⟨Nat.eq_of_beq_eq_true a1, by rw [Nat.eq_of_beq_eq_true a2], rfl⟩)
      | false =>
        rw [h2] at h
        cases h3 : (Nat.beq t 0 && Nat.beq u 11) with
        | true =>
          rw [h3] at h; cases h
          obtain ⟨a1, a2⟩ := (Bool.and_eq_true _ _).mp h3
          exact Or.inr (Or.inr (Or.inl ⟨Nat.eq_of_beq_eq_true a1, ⟨n0, by rw [Nat.eq_of_beq_eq_true a2]⟩, rfl, rfl⟩))
        | false =>
          rw [h3] at h
          cases h4 : (Nat.beq t 4 && Nat.beq u 14) with
          | true =>
            rw [h4] at h; cases h
            obtain ⟨a1, a2⟩ := (Bool.and_eq_true _ _).mp h4
            exact Or.inr (Or.inr (Or.inr ⟨Nat.eq_of_beq_eq_true a1, by rw [Nat.eq_of_beq_eq_true a2], rfl⟩))
          | false => rw [h4] at h; cases h
theorem js_iald {r : List jm_V} {i n : Int} {f : Int → Int} {q : Nat} (C : js_Cx p R s m args c cells slots D cy ad x) (hd : decode (jn_y x).2.1 pc = .ok (.iaload, 1)) (hk : jm_ar hp q 0 = some (n, f)) (hr : 0 ≤ jm_w32 i ∧ jm_w32 i < n) (k : js_G p l e R s m args below meth c cells slots Q D cy ad x (pc + 1) A (jI (f (jm_w32 i)) :: r) hp) : js_G p l e R s m args below meth c cells slots Q D cy ad x pc A (jI i :: jR q :: r) hp := by
  intro H locs ls h1 h2 h3 h4 h5
  have K := k H locs ls h1 h2 h3 h4 h5
  obtain ⟨hx, hb, hml, hown, hts, hK, hinj, ⟨hS0, hN⟩, hR⟩ := C
  rcases js_ar_inv (by decide) hk with ⟨hs, rfl⟩ | ⟨-, hs, rfl⟩ | ⟨-, ⟨n0, hs⟩, rfl, rfl⟩ | ⟨h9, -⟩
  · have hq : q < 78 := js_lt_a hs (by decide)
    have ha : (js_ws cy ad hp)[q]? = some (ad q, .inl (cy 0, n.toNat, .inl (fun j => Int32.ofInt (hp q j)))) := by rw [js_ws_at hq, js_ce_i hs]
    refine va_iald hx hb hK h3 q 0 ha rfl (js_in (js_rng hr)) hd ?_
    rw [js_ix hr.1]
    exact K
  · rcases js_st_a hs (by decide) (by decide) with ⟨-, rfl, hq⟩ | ⟨h9, -⟩ | ⟨h9, -⟩
    · refine va_ti hx hb (hS0.2.1 q (by omega) (by omega)) h4 (js_in (n := 4) hr) rfl hd ?_
      rw [js_ix hr.1]
      exact K
    · cases h9
    · cases h9
  · rcases js_st_a hs (by decide) (by decide) with ⟨h9, -⟩ | ⟨-, rfl⟩ | ⟨h9, -⟩
    · cases h9
    · obtain ⟨z1, z2, z3⟩ := h5
      refine va_ti hx hb z3 h4 (js_in (js_rng hr)) rfl hd ?_
      rw [js_ix hr.1]
      exact K
    · cases h9
  · cases h9
theorem js_zald {r : List jm_V} {i n : Int} {f : Int → Int} {q : Nat} (C : js_Cx p R s m args c cells slots D cy ad x) (hd : decode (jn_y x).2.1 pc = .ok (.baload, 1)) (hk : jm_ar hp q 3 = some (n, f)) (hr : 0 ≤ jm_w32 i ∧ jm_w32 i < n) (k : js_G p l e R s m args below meth c cells slots Q D cy ad x (pc + 1) A (jI (f (jm_w32 i)) :: r) hp) : js_G p l e R s m args below meth c cells slots Q D cy ad x pc A (jI i :: jR q :: r) hp := by
  intro H locs ls h1 h2 h3 h4 h5
  have K := k H locs ls h1 h2 h3 h4 h5
  obtain ⟨hx, hb, hml, hown, hts, hK, hinj, ⟨hS0, hN⟩, hR⟩ := C
  rcases js_ar_inv (by decide) hk with ⟨hs, rfl⟩ | ⟨h9, -⟩ | ⟨h9, -⟩ | ⟨h9, -⟩
  · have hq : q < 78 := js_lt_a hs (by decide)
    have ha : (js_ws cy ad hp)[q]? = some (ad q, .inl (cy 3, n.toNat, .inl (fun j => Int32.ofInt (hp q j)))) := by rw [js_ws_at hq, js_ce_z hs]
    refine va_zald hx hb hK h3 q 3 ha rfl (js_in (js_rng hr)) hd ?_
    rw [js_ix hr.1]
    exact K
  all_goals (cases h9)
theorem js_bald {r : List jm_V} {i n : Int} {f : Int → Int} {q : Nat} (C : js_Cx p R s m args c cells slots D cy ad x) (hd : decode (jn_y x).2.1 pc = .ok (.baload, 1)) (hk : jm_ar hp q 4 = some (n, f)) (hr : 0 ≤ jm_w32 i ∧ jm_w32 i < n) (k : js_G p l e R s m args below meth c cells slots Q D cy ad x (pc + 1) A (jI (f (jm_w32 i)) :: r) hp) : js_G p l e R s m args below meth c cells slots Q D cy ad x pc A (jI i :: jR q :: r) hp := by
  intro H locs ls h1 h2 h3 h4 h5
  have K := k H locs ls h1 h2 h3 h4 h5
  obtain ⟨hx, hb, hml, hown, hts, hK, hinj, ⟨hS0, hN⟩, hR⟩ := C
  rcases js_ar_inv (by decide) hk with ⟨hs, rfl⟩ | ⟨h9, -⟩ | ⟨h9, -⟩ | ⟨-, hs, rfl⟩
  · exfalso
    have hq : q < 78 := js_lt_a hs (by decide)
    have hall : (List.range 78).all (fun k => match jm_sh k with | .inr (t, _) => !(Nat.beq t 4) | _ => true) = true := by decide +kernel
    have h9 := List.all_eq_true.mp hall q (List.mem_range.mpr hq)
    rw [hs] at h9
    cases h9
  · cases h9
  · cases h9
  · rcases js_st_a hs (by decide) (by decide) with ⟨h9, -⟩ | ⟨h9, -⟩ | ⟨-, rfl, rfl⟩
    · cases h9
    · cases h9
    · refine va_tb hx hb hS0.2.2.2.2.2.2 h4 (js_in (n := 5) hr) rfl hd ?_
      rw [js_ix hr.1]
      exact K
theorem js_lald {r : List jm_V} {i n : Int} {f : Int → Int} {q : Nat} (C : js_Cx p R s m args c cells slots D cy ad x) (hd : decode (jn_y x).2.1 pc = .ok (.laload, 1)) (hk : jm_ar hp q 1 = some (n, f)) (hr : 0 ≤ jm_w32 i ∧ jm_w32 i < n) (k : js_G p l e R s m args below meth c cells slots Q D cy ad x (pc + 1) A (jL (f (jm_w32 i)) :: r) hp) : js_G p l e R s m args below meth c cells slots Q D cy ad x pc A (jI i :: jR q :: r) hp := by
  intro H locs ls h1 h2 h3 h4 h5
  have K := k H locs ls h1 h2 h3 h4 h5
  obtain ⟨hx, hb, hml, hown, hts, hK, hinj, ⟨hS0, hN⟩, hR⟩ := C
  rcases js_ar_inv (by decide) hk with ⟨hs, rfl⟩ | ⟨h9, -⟩ | ⟨h9, -⟩ | ⟨h9, -⟩
  · have hq : q < 78 := js_lt_a hs (by decide)
    have ha : (js_ws cy ad hp)[q]? = some (ad q, .inl (cy 1, n.toNat, .inr (.inl (fun j => Int64.ofInt (hp q j))))) := by rw [js_ws_at hq, js_ce_l hs]
    refine va_lald hx hb hK h3 q 1 ha rfl (js_in (js_rng hr)) hd ?_
    rw [js_ix hr.1]
    exact K
  all_goals (cases h9)
theorem js_fald {r : List jm_V} {i n : Int} {f : Int → Int} {q : Nat} (C : js_Cx p R s m args c cells slots D cy ad x) (hd : decode (jn_y x).2.1 pc = .ok (.faload, 1)) (hk : jm_ar hp q 2 = some (n, f)) (hr : 0 ≤ jm_w32 i ∧ jm_w32 i < n) (k : js_G p l e R s m args below meth c cells slots Q D cy ad x (pc + 1) A (jF (f (jm_w32 i)).toNat :: r) hp) : js_G p l e R s m args below meth c cells slots Q D cy ad x pc A (jI i :: jR q :: r) hp := by
  intro H locs ls h1 h2 h3 h4 h5
  have K := k H locs ls h1 h2 h3 h4 h5
  obtain ⟨hx, hb, hml, hown, hts, hK, hinj, ⟨hS0, hN⟩, hR⟩ := C
  rcases js_ar_inv (by decide) hk with ⟨hs, rfl⟩ | ⟨h9, -⟩ | ⟨h9, -⟩ | ⟨h9, -⟩
  · have hq : q < 78 := js_lt_a hs (by decide)
    have ha : (js_ws cy ad hp)[q]? = some (ad q, .inl (cy 2, n.toNat, .inr (.inr (.inl (fun j => UInt32.ofNat (hp q j).toNat))))) := by rw [js_ws_at hq, js_ce_f hs]
    refine va_fald hx hb hK h3 q 2 ha rfl (js_in (js_rng hr)) hd ?_
    rw [js_ix hr.1]
    exact K
  all_goals (cases h9)
end Rows3
