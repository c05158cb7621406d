/-! the run of the machine of these rows is a run of the real one -/
theorem js_lay_len (ad : Nat → Nat) (vs : List jm_V) : (lg_sl (vs.map (js_v ad))).length = (jm_lay vs).length := by
  induction vs with
  | nil => rfl
  | cons v vs ih =>
    unfold lg_sl jm_lay at *
    rw [List.map_cons, List.flatMap_cons, List.flatMap_cons, List.length_append, List.length_append, ih]
    rcases v with z | z | z | z | z <;> rfl
theorem js_en_mem (ad : Nat → Nat) (n : Nat) : ∀ (vs : List jm_V) (i j : Nat) (v : jm_V), (jm_lay vs ++ List.replicate n jU)[j]? = some v → v ≠ jU → (i + j, js_v ad v) ∈ lv_args i (vs.map (js_v ad)) := by
  intro vs
  induction vs with
  | nil =>
    intro i j v h hs
    have h2 : (List.replicate n jU)[j]? = some v := h
    obtain ⟨h3, h4⟩ := List.getElem?_eq_some_iff.mp h2
    rw [List.getElem_replicate] at h4
    exact absurd h4.symm hs
  | cons w vs ih =>
    intro i j v h hs
    rcases w with z | z | z | z | z
    · cases j with
      | zero => cases h; exact List.mem_cons_self
      | succ j => exact List.mem_cons_of_mem _ (by have := ih (i + 1) j v h hs; rwa [show i + 1 + j = i + (j + 1) by omega] at this)
    · match j, h with
      | 0, h => cases h; exact List.mem_cons_self
      | 1, h => cases h; exact absurd rfl hs
      | j + 2, h => exact List.mem_cons_of_mem _ (by have := ih (i + 2) j v h hs; rwa [show i + 2 + j = i + (j + 2) by omega] at this)
    · cases j with
      | zero => cases h; exact List.mem_cons_self
      | succ j => exact List.mem_cons_of_mem _ (by have := ih (i + 1) j v h hs; rwa [show i + 1 + j = i + (j + 1) by omega] at this)
    · cases j with
      | zero => cases h; exact List.mem_cons_self
      | succ j => exact List.mem_cons_of_mem _ (by have := ih (i + 1) j v h hs; rwa [show i + 1 + j = i + (j + 1) by omega] at this)
    · cases j with
      | zero => cases h; exact absurd rfl hs
      | succ j => exact List.mem_cons_of_mem _ (by have := ih (i + 1) j v h hs; rwa [show i + 1 + j = i + (j + 1) by omega] at this)
/-- what a method returns, by its kind -/
def js_rt (rk : Nat) : Option FieldType := if rk = 1 then some .int else if rk = 2 then some .boolean else if rk = 3 then some .long else if rk = 4 then some .float else if rk = 5 then some .byte else none
theorem js_rt_ok (x : Nat) : (jn_y x).2.2 = js_rt (jm_me x).2.2.2.2.1 := by
  by_cases h : x < 224
  · have hall : (List.range 224).all (fun x => decide ((jn_y x).2.2 = js_rt (jm_me x).2.2.2.2.1)) = true := by decide +kernel
    simpa using List.all_eq_true.mp hall x (List.mem_range.mpr h)
  · have h1 : jn_YL.getD (x / 16) [] = [] := by rw [List.getD_eq_getElem?_getD, List.getElem?_eq_none (by show 14 ≤ x / 16; omega)]; rfl
    have h2 : jm_MET.getD (x / 16) [] = [] := by rw [List.getD_eq_getElem?_getD, List.getElem?_eq_none (by show 14 ≤ x / 16; omega)]; rfl
    unfold jn_y jm_me
    rw [h1, h2]
    rfl
def js_wd (y : Nat) : List Cond := Cond.code (jn_y y).1 (jn_y y).2.1 (jm_me y).2.2.2.1 (jn_y y).2.2 :: js_Tg
def js_rm (y : Nat) : Room := { frames := (jm_me y).2.2.2.2.2.1, cells := 0, slots := 0, locals := (jm_me y).2.2.2.2.2.2 }
def js_B (D : va_G) (cy : Nat → ClassId) (ad : Nat → Nat) (hp : jm_H) (U : State) : Prop := va_P D jn_cl (js_ws cy ad hp) U.heap ∧ va_K D jn_cl (js_ty cy) U ∧ (js_S0 ad U ∧ js_N U) ∧ js_Sc ad hp U
def js_Qc (D : va_G) (cy : Nat → ClassId) (ad : Nat → Nat) (rv : Option jm_V) (hp' : jm_H) : Array Value → State → Outcome → State → Prop := fun _ st o t => o = .returned (rv.map (js_v ad)) ∧ va_P D jn_cl (js_ws cy ad hp') t.heap ∧ va_F (js_A ad) st t
theorem js_good {y : Nat} (h : jn_okM y) : GoodIn js_T (js_wd y) := by
  intro w hw
  rcases List.mem_cons.mp hw with rfl | hw
  · exact ⟨js_t h.1.1 rfl, good_of_word rfl⟩
  · obtain ⟨h1, h2⟩ := List.mem_filter.mp hw
    exact ⟨js_t h1 (by rw [h2]; rfl), good_of_word h2⟩
theorem js_N_at {s U : State} (hW : s.WarmedH U.vm) (h : js_N s) : js_N U := by
  intro w hw hn
  have h1 := h w hw hn
  cases w with
  | fieldLinkNest a i b n d g => exact h1.warmF hW
  | methodLinkNest a i x g => exact h1.warmM hW
  | _ => cases hn
/-- statics stay, over a call and within a method -/
theorem js_S0_at {ad : Nat → Nat} {s U : State} {H : Heap} (hU : U.heap = H) (hW : s.WarmedH U.vm) (hq : ∀ a : Nat, a < s.heap.size → ¬ js_A ad a → H[a]? = s.heap[a]?) (h : js_S0 ad s) : js_S0 ad U := by
  subst hU
  refine ⟨fun q hm => ((h.1 q hm).moved hW.alike).kept hq, fun k h1 h2 => ((h.2.1 k h1 h2).moved hW.alike).kept hq, h.2.2.1.warm hW, (h.2.2.2.1.moved hW.alike).kept hq, (h.2.2.2.2.1.moved hW.alike).kept hq, (h.2.2.2.2.2.1.moved hW.alike).kept hq, (h.2.2.2.2.2.2.moved hW.alike).kept hq⟩
theorem js_Sc_at {ad : Nat → Nat} {hp : jm_H} {s U : State} {H : Heap} (hU : U.heap = H) (hv : s.vm.Alike U.vm) (hq : ∀ a : Nat, a < s.heap.size → ¬ js_A ad a → H[a]? = s.heap[a]?) (h : js_Sc ad hp s) : js_Sc ad hp U := by
  subst hU
  exact ⟨h.1, h.2.1, (h.2.2.moved hv).kept hq⟩
theorem js_blind {D : va_G} {cy : Nat → ClassId} {ad : Nat → Nat} {hp : jm_H} {vs : List Value} : FrameBlind (va_Pc vs (js_B D cy ad hp)) := by
  intro a U g mk q
  obtain ⟨q0, qP, qK, ⟨qS, qN⟩, qC⟩ := q
  refine ⟨q0, qP, va_K.moved (u := U) (U := U.calling g mk a) (Vm.Alike.refl U.vm) qK, ⟨?_, fun w hw hn => va_Nw.same (u := U) (U := U.calling g mk a) (by cases w <;> first | rfl | cases hn) rfl (qN w hw hn)⟩, ?_⟩
  · refine ⟨fun q hm => va_Z.moved (u := U) (U := U.calling g mk a) (Vm.Alike.refl U.vm) (qS.1 q hm), fun k h1 h2 => va_T.moved (u := U) (U := U.calling g mk a) (Vm.Alike.refl U.vm) (qS.2.1 k h1 h2), vk_R.same (u := U) (U := U.calling g mk a) rfl qS.2.2.1, va_O.moved (u := U) (U := U.calling g mk a) (Vm.Alike.refl U.vm) qS.2.2.2.1, va_OF.moved (u := U) (U := U.calling g mk a) (Vm.Alike.refl U.vm) qS.2.2.2.2.1, va_OF.moved (u := U) (U := U.calling g mk a) (Vm.Alike.refl U.vm) qS.2.2.2.2.2.1, va_T.moved (u := U) (U := U.calling g mk a) (Vm.Alike.refl U.vm) qS.2.2.2.2.2.2⟩
  · exact ⟨qC.1, qC.2.1, va_T.moved (u := U) (U := U.calling g mk a) (Vm.Alike.refl U.vm) qC.2.2⟩
/-- behind a call -/
theorem js_cont {p : Program} {l : Launch} {e : Env} {R : Room} {s : State} {m : MethodId} {args : Array Value} {below : List Frame} {meth : Method} {c : Code} {cells slots : Nat} {Q : State → Prop} {D : va_G} {cy : Nat → ClassId} {ad : Nat → Nat} {pc : Nat} {H : Heap} {locs : List Loc} {ls : Array Slot} {st0 rest : List Value} {a : Array Value} {rv : Option jm_V} {hp' : jm_H}
    (hr : va_Run p l e R s m args below meth c H locs cells slots 0 0 (F0 m pc ls st0) rest (js_Qc D cy ad rv hp' a) (js_A ad)) (hS : va_S (js_A ad) s.heap H locs)
    (kk : ∀ (H1 : Heap) (locs1 : List Loc), va_P D jn_cl (js_ws cy ad hp') H1 → va_S (js_A ad) s.heap H1 locs1 → W p l e R s m args below meth c H1 locs1 cells slots Q (F0 m (pc + 3) ls ((rv.map (js_v ad)).toList ++ rest))) : W p l e R s m args below meth c H locs cells slots Q (F0 m pc ls st0) := by
  intro T hT X
  obtain ⟨v, st₀, t, T', L, h0, X', hL, e1, e2, ⟨hv, hb, hz, hk⟩, st⟩ := hr T hT X
  cases hv
  rw [h0] at hz hk
  obtain ⟨t2, a1, b1⟩ := kk T'.heap (locs ++ L) (by rw [e1]; exact hb)
    ⟨Nat.le_trans hS.1 (by rw [e1]; exact hz), fun q h1 h2 => by rw [e1, hk q (Nat.lt_of_lt_of_le h1 hS.1) h2]; exact hS.2.1 q h1 h2, fun q hq => by
      rcases List.mem_append.mp hq with h | h
      · exact hS.2.2 q h
      · exact hL q h⟩ T' rfl X'
  exact ⟨t2, st t2 a1, b1⟩
/-- what is shown by induction on the steps -/
def js_P (l : Launch) (D : va_G) (cy : Nat → ClassId) (ad : Nat → Nat) (n : Nat) : Prop :=
  ∀ (x pc : Nat) (A st : List jm_V) (hp : jm_H) (rv : Option jm_V) (hp' : jm_H), jm_run n x pc A st hp = some (rv, hp') → jn_okD x →
    ∀ (p : Program) (e : Env) (R : Room) (s : State) (m : MethodId) (args : Array Value) (below : List Frame) (meth : Method) (c : Code) (cells slots : Nat) (Q : State → Prop), js_Cx p R s m args c cells slots D cy ad x →
      (∀ (pc' : Nat) (A' st' : List jm_V) (H' : Heap) (locs' : List Loc) (ls' : Array Slot), jm_go x pc' A' st' hp' = some (.inr (.inl rv)) → va_P D jn_cl (js_ws cy ad hp') H' → va_S (js_A ad) s.heap H' locs' → W p l e R s m args below meth c H' locs' cells slots Q (F0 m pc' ls' (st'.map (js_v ad)))) →
      js_G p l e R s m args below meth c cells slots Q D cy ad x pc A st hp
theorem js_bif_n2 {α : Type} {b : Bool} {o : Option α} {w : α} (h : (bif b then o else none) = some w) : b = true ∧ o = some w := by
  cases b with
  | false => cases h
  | true => exact ⟨rfl, h⟩
theorem js_ar2_no2 {x pc nx tg : Nat} {i : Instr} {A st : List jm_V} {hp : jm_H} {o : Option jm_V ⊕ (Nat × List jm_V × List jm_V × Nat)} (_ : jm_fe x pc = some (i, nx, tg)) (hg : jm_ar2 i nx A st hp = some (.inr o)) : False := js_ar2_no hg
theorem js_ar2_keep {x pc nx tg pc' : Nat} {i : Instr} {A st A' st' : List jm_V} {hp hp' : jm_H} (_ : jm_fe x pc = some (i, nx, tg)) (hg : jm_ar2 i nx A st hp = some (.inl (pc', A', st', hp'))) (q : Nat) : hp' q = hp q := by
  unfold jm_ar2 at hg
  split at hg
  · split at hg <;> cases hg; rfl
  · split at hg <;> cases hg; rfl
  · split at hg <;> cases hg; rfl
  · cases hg
theorem js_call_inv {x y y' nx nx' : Nat} {st vs r : List jm_V} (h : jm_call x y st nx = some (.inr (.inr (y', vs, r, nx')))) : y' = y ∧ nx' = nx ∧ (jm_me y).2.1 ≤ st.length ∧ jm_ro x y = true ∧ (r.map jm_cat).sum ≤ 8 ∧ (jm_lay vs).length ≤ (jm_me y).2.2.2.1 ∧ vs = (st.take (jm_me y).2.1).reverse ∧ r = st.drop (jm_me y).2.1 := by
  unfold jm_call at h
  obtain ⟨hc, h⟩ := js_bif_n2 h
  cases h
  simp only [Bool.and_eq_true] at hc
  exact ⟨rfl, rfl, Nat.le_of_ble_eq_true hc.1.1.1, hc.1.1.2, Nat.le_of_ble_eq_true hc.1.2, Nat.le_of_ble_eq_true hc.2, rfl, rfl⟩
theorem js_call_ret {x y nx : Nat} {st : List jm_V} {rv : Option jm_V} (h : jm_call x y st nx = some (.inr (.inl rv))) : False := by
  unfold jm_call at h
  cases (js_bif_n2 h).2
theorem js_mth_no {x y nx : Nat} {A st : List jm_V} {hp : jm_H} {o : Option jm_V ⊕ (Nat × List jm_V × List jm_V × Nat)} (h : jm_mth x y nx A st hp = some (.inr o)) : False := by
  unfold jm_mth at h
  split at h
  · rename_i b r
    cases h0 : Nat.beq y 0 with
    | true => rw [h0] at h; cases (js_bif_n2 (show (bif _ then _ else none) = some _ from h)).2
    | false =>
      rw [h0] at h
      dsimp only [cond_false] at h
      split at h
      · obtain ⟨-, h⟩ := js_bif_n2 h
        cases h1 : Nat.beq y 1 with
        | true => rw [h1] at h; cases h
        | false => rw [h1] at h; cases (js_bif_n2 (show (bif Nat.beq y 2 then _ else none) = some _ from h)).2
      · cases h
  · cases h
set_option maxHeartbeats 8000000 in
theorem js_ends {p : Program} {l : Launch} {e : Env} {R : Room} {s : State} {m : MethodId} {args : Array Value} {below : List Frame} {meth : Method} {c : Code} {D : va_G} {cy : Nat → ClassId} {ad : Nat → Nat} {x pc' : Nat} {A' st' : List jm_V} {hp' : jm_H} {H' : Heap} {locs' : List Loc} {ls' : Array Slot} {rv : Option jm_V}
    (hD : jn_okD x) (hx : p.tables.exec = Jvm.exec) (hb : c.code = (jn_y x).2.1) (hr : meth.sig.returnType = (jn_y x).2.2) (hlocks : meth.locks = false) (hg : jm_go x pc' A' st' hp' = some (.inr (.inl rv))) (hP : va_P D jn_cl (js_ws cy ad hp') H') (hS : va_S (js_A ad) s.heap H' locs') :
    W p l e R s m args below meth c H' locs' 0 0 (MQ below (js_Qc D cy ad rv hp') args s 0 0 (js_A ad)) (F0 m pc' ls' (st'.map (js_v ad))) := by
  unfold jm_go at hg
  cases hf : jm_fe x pc' with
  | none => rw [hf] at hg; cases hg
  | some o =>
    obtain ⟨i, nx, tg⟩ := o
    rw [hf] at hg
    dsimp only at hg
    obtain ⟨hdec, hlt, hlen, htg⟩ := jn_fe hD hf
    have hdl : jn_len i ≠ 0 → decode (jn_y x).2.1 pc' = .ok (i, jn_len i) := by
      intro h0
      rcases hlen with h | h
      · exact absurd h h0
      · rw [hdec, ← h, Nat.add_sub_cancel_left]
    rw [js_rt_ok] at hr
    have hq : ∀ t : State, t.heap = H' → s.WarmedH t.vm → js_Qc D cy ad rv hp' args s (.returned (rv.map (js_v ad))) t := fun t ht _ => ⟨rfl, by rw [ht]; exact hP, hS.F ht⟩
    cases i
    case ireturn =>
      have hd := hdl (Nat.succ_ne_zero _)
      have hg : jm_retI (jm_me x).2.2.2.2.1 st' = some (.inr (.inl rv)) := hg
      unfold jm_retI at hg
      split at hg
      · rename_i z
        obtain ⟨hc, hg⟩ := js_bif_n2 hg
        cases hg
        simp only [Bool.or_eq_true, Bool.and_eq_true, decide_eq_true_eq] at hc
        rcases hc with (hc | ⟨hc, h01⟩) | ⟨hc, h0⟩
        · rw [Nat.eq_of_beq_eq_true hc] at hr
          exact W.iret hx hb hr hq hS.2.2 hd
        · rw [Nat.eq_of_beq_eq_true hc] at hr
          exact W.zret (ty := .boolean) hx hb hr (by rcases h01 with rfl | rfl <;> rfl) hq hS.2.2 hd
        · rw [Nat.eq_of_beq_eq_true hc] at hr
          exact W.zret (ty := .byte) hx hb hr (by subst h0; rfl) hq hS.2.2 hd
      · cases hg
    case lreturn =>
      have hd := hdl (Nat.succ_ne_zero _)
      dsimp only [jm_in] at hg
      split at hg
      · obtain ⟨hc, hg⟩ := js_bif_n2 hg
        cases hg
        rw [Nat.eq_of_beq_eq_true hc] at hr
        exact W.lret hx hb hr hq hS.2.2 hd
      · cases hg
    case freturn =>
      have hd := hdl (Nat.succ_ne_zero _)
      dsimp only [jm_in] at hg
      split at hg
      · obtain ⟨hc, hg⟩ := js_bif_n2 hg
        cases hg
        rw [Nat.eq_of_beq_eq_true hc] at hr
        exact W.fret hx hb hr hq hS.2.2 hd
      · cases hg
    case return_ =>
      have hd := hdl (Nat.succ_ne_zero _)
      dsimp only [jm_in] at hg
      split at hg
      · obtain ⟨hc, hg⟩ := js_bif_n2 hg
        cases hg
        rw [Nat.eq_of_beq_eq_true hc] at hr
        exact W.vret hx hb hr hq hS.2.2 hd
      · cases hg
    all_goals first
      | (cases hg; done)
      | (exact False.elim (js_ar2_no2 (A := A') (st := st') (hp := hp') hf hg))
      | (obtain ⟨_, _, _, ho, _⟩ := js_ld_inv hg; cases ho; done)
      | (obtain ⟨_, _, _, _, ho, _⟩ := js_sv_inv hg; cases ho; done)
      | (obtain ⟨_, _, ho⟩ := js_kV_inv hg; cases ho; done)
      | (obtain ⟨_, _, _, _, _, _, _, _, ho⟩ := js_ald_inv hg; cases ho; done)
      | (obtain ⟨_, _, _, _, _, _, _, _, ho⟩ := js_ald_inv (t := 2) (mk := fun z => jF z.toNat) hg; cases ho; done)
      | (obtain ⟨_, _, _, _, _, _, _, _, _, _, ho⟩ := js_ast_inv hg; cases ho; done)
      | (obtain ⟨_, _, _, _, _, _, _, _, _, _, _, ho, _⟩ := js_getf_inv hg; cases ho; done)
      | (obtain ⟨_, _, _, _, _, _, _, _, _, _, _, _, ho, _⟩ := js_putf_inv hg; cases ho; done)
      | (dsimp only [jm_in] at hg; split at hg <;> first | (cases hg; done) | (cases (js_bif_n2 hg).2; done) | (split at hg <;> cases hg; done))
      | skip
    case baload =>
      dsimp only [jm_in] at hg
      split at hg
      · rename_i o h1
        cases hg
        obtain ⟨_, _, _, _, _, _, _, _, ho⟩ := js_ald_inv h1
        cases ho
      · obtain ⟨_, _, _, _, _, _, _, _, ho⟩ := js_ald_inv hg
        cases ho
    case invokevirtual idx =>
      dsimp only [jm_in] at hg
      split at hg
      · exact absurd (js_bif_n2 hg).2 js_call_ret
      · cases hg
    case invokestatic idx =>
      dsimp only [jm_in] at hg
      split at hg
      · rename_i y hy
        cases hb2 : Nat.ble y 2 with
        | true => rw [hb2] at hg; exact absurd hg js_mth_no
        | false => rw [hb2] at hg; exact absurd (js_bif_n2 (show (bif _ then _ else none) = some _ from hg)).2 js_call_ret
      · cases hg
