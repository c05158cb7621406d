/-- class names by number -/
theorem js_ownT (ci : Nat) (q : vw_C) (h : jn_cl[ci]? = some q) : q.1 = jn_own ci := by
  match ci, h with
  | 0, h => cases h; rfl
  | 1, h => cases h; rfl
  | 2, h => cases h; rfl
  | 3, h => cases h; rfl
  | 4, h => cases h; rfl
  | 5, h => cases h; rfl
  | 6, h => cases h; rfl
  | 7, h => cases h; rfl
  | 8, h => cases h; rfl
  | n + 9, h => simp [jn_cl] at h
section All
variable {p : Program} {l : Launch} {e : Env} {R : Room} {s : State} {m : MethodId} {args : Array Value} {below : List Frame} {meth : Method} {c : Code} {cells slots : Nat} {Q : State → Prop} {D : va_G} {cy : Nat → ClassId} {ad : Nat → Nat} {x pc : Nat} {A : List jm_V} {hp : jm_H}
/-- the receiver's cell -/
theorem js_recv {H : Heap} {locs : List Loc} {k y : Nat} {fs : List (Nat ⊕ Nat)} (C : js_Cx p R s m args c cells slots D cy ad x) (hP : va_P D jn_cl (js_ws cy ad hp) H) (hS : va_S (js_A ad) s.heap H locs) (hs : jm_sh k = .inl ((jm_me y).1, fs)) (hy : (jn_y y).1.cls = jn_own (jm_me y).1) : ∃ cell : Cell, H[ad k]? = some cell ∧ cell.vm.isStatics = false ∧ s.vm.findClass (jn_y y).1.cls = some cell.cls := by
  obtain ⟨hx, hb, hml, hown, hts, hK, hinj, ⟨hS0, hN⟩, hR⟩ := C
  rcases js_lt_o hs with hk | rfl
  · obtain ⟨q, hcl, -⟩ := js_shape hk hs
    have ha : (js_ws cy ad hp)[k]? = some (ad k, .inr ((jm_me y).1, js_fs ad hp k fs)) := by rw [js_ws_at hk, js_ce_o hs]
    have := va_recv hK hP hcl ha
    rw [hy, ← js_ownT _ _ hcl]
    exact this
  · have h10 : (jm_me y).1 = 10 := by have h := hs; generalize (jm_me y).1 = z at h; cases h; rfl
    obtain ⟨cell, h1, h2, h3, -⟩ := hS0.2.2.2.1.kept hS.2.1
    exact ⟨cell, h1, h2, by rw [hy, h10]; exact h3⟩
theorem js_ro_inv {x y : Nat} (h : jm_ro x y = true) : (jm_me y).2.2.2.2.2.1 + 1 ≤ (jm_me x).2.2.2.2.2.1 ∧ 8 + ((jm_me y).2.2.2.1 + 11) + (jm_me y).2.2.2.2.2.2 ≤ (jm_me x).2.2.2.2.2.2 := by
  unfold jm_ro at h
  obtain ⟨h1, h2⟩ := (Bool.and_eq_true _ _).mp h
  exact ⟨Nat.le_of_ble_eq_true h1, Nat.le_of_ble_eq_true h2⟩
theorem js_map_some {α : Type} {o : Option α} {f : α → Nat} {n : Nat} (h : o.map (fun d => f d + 1) = some n) : o.map (fun d => f d) = some (n - 1) := by
  cases o with
  | none => cases h
  | some a => cases h; rfl
/-- a call of an instance method -/
theorem js_callV {n y idx : Nat} {st vs r : List jm_V} {nx : Nat} {rv : Option jm_V} {hp1 : jm_H} (hPn : js_P l D cy ad n) (C : js_Cx p R s m args c cells slots D cy ad x) (hd : decode (jn_y x).2.1 pc = .ok (.invokevirtual idx, 3)) (hy : jm_pf jm_ML (jm_me x).1 idx = some y) (hrc : jm_rc y st = true) (hst : (jm_me y).2.2.1 = false) (hc : jm_call x y st (pc + 3) = some (.inr (.inr (y, vs, r, nx)))) (hr : jm_run n y 0 (jm_en y vs) [] hp = some (rv, hp1)) (k : js_G p l e R s m args below meth c cells slots Q D cy ad x (pc + 3) A (jm_ps rv r) hp1) : js_G p l e R s m args below meth c cells slots Q D cy ad x pc A st hp := by
  intro H locs ls h1 h2 h3 h4 h5
  obtain ⟨-, -, hnp, hro, hsum, hlay, hvs, hrr⟩ := js_call_inv hc
  have hL := jn_pL (jm_me x).1 _ (jn_pf_mem hy)
  obtain ⟨hlink, hok, hmth⟩ := hL
  dsimp only at hlink hok hmth
  have h3y : 3 ≤ y ∧ jn_okM y ∧ jn_okD y := by
    rcases hok with h | h
    · exfalso
      have : y = 0 ∨ y = 1 ∨ y = 2 := by omega
      rcases this with rfl | rfl | rfl <;> cases hst
    · exact h
  obtain ⟨-, hM, hDy⟩ := h3y
  have hroom := js_ro_inv hro
  have hM2 := hM.2
  rw [hst] at hM2
  rw [if_neg (by decide)] at hM2
  obtain ⟨⟨hinst, hsel⟩, hpar⟩ := hM2
  -- the receiver
  unfold jm_rc at hrc
  split at hrc
  · rename_i k0 hk0
    split at hrc
    · rename_i c0 fs hs
      have hce := Nat.eq_of_beq_eq_true hrc
      subst hce
      have hpos : 1 ≤ (jm_me y).2.1 := by
        cases hn : (jm_me y).2.1 with
        | zero =>
          exfalso
          rw [hn] at hpar
          cases hq : parseMethodDescriptor (jn_y y).1.desc with
          | none => rw [hq] at hpar; cases hpar
          | some d => rw [hq] at hpar; cases hpar
        | succ n => omega
      have hv0 : ∃ As, vs = jR k0 :: As ∧ As.length = (jm_me y).2.1 - 1 ∧ st = As.reverse ++ jR k0 :: r := by
        have htake : st.take (jm_me y).2.1 = st.take ((jm_me y).2.1 - 1) ++ [jR k0] := by
          have : (jm_me y).2.1 = ((jm_me y).2.1 - 1) + 1 := by omega
          rw [this, List.take_succ, Nat.add_sub_cancel, hk0]
          rfl
        refine ⟨(st.take ((jm_me y).2.1 - 1)).reverse, ?_, ?_, ?_⟩
        · rw [hvs, htake, List.reverse_append]; rfl
        · rw [List.length_reverse, List.length_take]; omega
        · rw [List.reverse_reverse, hrr]
          have e1 : st = st.take (jm_me y).2.1 ++ st.drop (jm_me y).2.1 := (List.take_append_drop _ _).symm
          rw [htake] at e1
          rw [List.append_assoc] at e1
          exact e1
      obtain ⟨As, rfl, hAs, hstk⟩ := hv0
      have hMet := js_met hPn C.2.2.2.2.2.2.1 hM hDy hlay hr
      have hCx := C
      obtain ⟨hx, hb, hml, hown, hts, hK, hinj, ⟨hS0, hN⟩, hR1, hR2, hR3, hR4⟩ := C
      have hd9 : (jn_y y).1.cls ≠ "java/lang/invoke/MethodHandle" ∧ (jn_y y).1.cls ≠ "java/lang/invoke/VarHandle" ∧ (parseMethodDescriptor (jn_y y).1.desc).map (fun d => d.parameters.length) = some ((jm_me y).2.1 - 1) := ⟨hM.1.2.2.2.2.1, hM.1.2.2.2.2.2, js_map_some hpar⟩
      have hRm : (js_rm y).frames + 1 ≤ R.frames ∧ 8 + ((jm_me y).2.2.2.1 + 11) + (js_rm y).locals ≤ R.locals := ⟨Nat.le_trans hroom.1 hR1, Nat.le_trans hroom.2 hR2⟩
      have hpre : PreV s H (jn_y y).1.cls (ad k0) (va_Pc ((jR k0 :: As).map (js_v ad)) (js_B D cy ad hp)) (As.map (js_v ad)) :=
        ⟨js_blind, js_recv hCx h3 h4 hs hM.1.2.2.1, fun U hU hW => ⟨rfl, by rw [hU]; exact h3, va_K.moved hW.alike hK, ⟨js_S0_at hU hW h4.2.1 hS0, js_N_at hW hN⟩, js_Sc_at hU hW.alike h4.2.1 h5⟩⟩
      have hstack : (F0 m pc ls (st.map (js_v ad))).stack = (As.map (js_v ad)).reverse ++ .ref (ad k0) :: r.map (js_v ad) := by
        show st.map (js_v ad) = _
        rw [hstk, List.map_append, List.map_reverse]
        rfl
      have hWd : 2 * (F0 m pc ls (st.map (js_v ad))).monitorRoom + ((r.map (js_v ad)).map fun v => v.category).sum ≤ 8 := by
        rw [js_sum]
        show 2 * 0 + _ ≤ 8
        omega
      have hAl : (As.map (js_v ad)).length = (jm_me y).2.1 - 1 := by rw [List.length_map]; exact hAs
      have hkk : ∀ (H1 : Heap) (locs1 : List Loc), va_P D jn_cl (js_ws cy ad hp1) H1 → va_S (js_A ad) s.heap H1 locs1 → W p l e R s m args below meth c H1 locs1 cells slots Q (F0 m (pc + 3) ls ((rv.map (js_v ad)).toList ++ r.map (js_v ad))) := by
        intro H1 locs1 g1 g2
        have hk := js_run_keep _ _ _ _ _ _ _ _ hr
        have K := k H1 locs1 ls h1 h2 g1 g2 (js_Sc_eq (hk 82 (by omega)) (hk 85 (by omega)) h5)
        cases rv with
        | none => exact K
        | some v => exact K
      rcases hlink with hl | ⟨host, hl⟩
      · exact js_cont (va_runV (As := As.map (js_v ad)) (rest := r.map (js_v ad)) (g := F0 m pc ls (st.map (js_v ad))) (bytes := (jn_y y).2.1) (maxL := (jm_me y).2.2.2.1) (ret := (jn_y y).2.2) (n := (jm_me y).2.1 - 1) ⟨hx, hb, hml, hown, hts⟩ hMet ⟨callB_of _ hts (js_good hM) rfl rfl rfl (hts _ (js_t hM.1.2.1 rfl)) (hts _ (js_t hl rfl)) hd9 hRm, hts _ (js_t hinst rfl), hts _ (js_t hsel rfl)⟩ hpre rfl hAl h1.1 hstack hWd hd ⟨hR3, hR4⟩) h4 hkk
      · exact js_cont (va_runVN (As := As.map (js_v ad)) (rest := r.map (js_v ad)) (g := F0 m pc ls (st.map (js_v ad))) (bytes := (jn_y y).2.1) (maxL := (jm_me y).2.2.2.1) (ret := (jn_y y).2.2) (n := (jm_me y).2.1 - 1) ⟨hx, hb, hml, hown, hts⟩ hMet ⟨va_cnB _ hts (js_good hM) rfl rfl rfl (hN _ hl rfl) (hts _ (js_t hM.1.2.1 rfl)) hd9 hRm, hts _ (js_t hinst rfl), hts _ (js_t hsel rfl)⟩ hpre rfl hAl h1.1 hstack hWd hd ⟨hR3, hR4⟩) h4 hkk
    · cases hrc
  · cases hrc
/-- a call of a static method -/
theorem js_callS {n y idx : Nat} {st vs r : List jm_V} {nx : Nat} {rv : Option jm_V} {hp1 : jm_H} (hPn : js_P l D cy ad n) (C : js_Cx p R s m args c cells slots D cy ad x) (hd : decode (jn_y x).2.1 pc = .ok (.invokestatic idx, 3)) (hy : jm_pf jm_ML (jm_me x).1 idx = some y) (hb2 : Nat.ble y 2 = false) (hst : (jm_me y).2.2.1 = true) (hc : jm_call x y st (pc + 3) = some (.inr (.inr (y, vs, r, nx)))) (hr : jm_run n y 0 (jm_en y vs) [] hp = some (rv, hp1)) (k : js_G p l e R s m args below meth c cells slots Q D cy ad x (pc + 3) A (jm_ps rv r) hp1) : js_G p l e R s m args below meth c cells slots Q D cy ad x pc A st hp := by
  intro H locs ls h1 h2 h3 h4 h5
  obtain ⟨-, -, hnp, hro, hsum, hlay, hvs, hrr⟩ := js_call_inv hc
  have hL := jn_pL (jm_me x).1 _ (jn_pf_mem hy)
  obtain ⟨hlink, hok, hmth⟩ := hL
  dsimp only at hlink hok hmth
  have h3y : 3 ≤ y ∧ jn_okM y ∧ jn_okD y := by
    rcases hok with h | h
    · exfalso
      rw [Nat.ble_eq_true_of_le h] at hb2
      cases hb2
    · exact h
  obtain ⟨-, hM, hDy⟩ := h3y
  have hroom := js_ro_inv hro
  have hM2 := hM.2
  rw [hst] at hM2
  rw [if_pos rfl] at hM2
  obtain ⟨hstat, hpar⟩ := hM2
  have hMet := js_met hPn C.2.2.2.2.2.2.1 hM hDy hlay hr
  obtain ⟨hx, hb, hml, hown, hts, hK, hinj, ⟨hS0, hN⟩, hR1, hR2, hR3, hR4⟩ := C
  have hd9 : (jn_y y).1.cls ≠ "java/lang/invoke/MethodHandle" ∧ (jn_y y).1.cls ≠ "java/lang/invoke/VarHandle" ∧ (parseMethodDescriptor (jn_y y).1.desc).map (fun d => d.parameters.length) = some ((jm_me y).2.1) := ⟨hM.1.2.2.2.2.1, hM.1.2.2.2.2.2, hpar⟩
  have hRm : (js_rm y).frames + 1 ≤ R.frames ∧ 8 + ((jm_me y).2.2.2.1 + 11) + (js_rm y).locals ≤ R.locals := ⟨Nat.le_trans hroom.1 hR1, Nat.le_trans hroom.2 hR2⟩
  have hpre : PreS s H (va_Pc (vs.map (js_v ad)) (js_B D cy ad hp)) (vs.map (js_v ad)) :=
    ⟨js_blind, fun U hU hW => ⟨rfl, by rw [hU]; exact h3, va_K.moved hW.alike hK, ⟨js_S0_at hU hW h4.2.1 hS0, js_N_at hW hN⟩, js_Sc_at hU hW.alike h4.2.1 h5⟩⟩
  have hstk : st = vs.reverse ++ r := by rw [hvs, hrr, List.reverse_reverse, List.take_append_drop]
  have hstack : (F0 m pc ls (st.map (js_v ad))).stack = (vs.map (js_v ad)).reverse ++ r.map (js_v ad) := by
    show st.map (js_v ad) = _
    rw [hstk, List.map_append, List.map_reverse]
  have hWd : 2 * (F0 m pc ls (st.map (js_v ad))).monitorRoom + ((r.map (js_v ad)).map fun v => v.category).sum ≤ 8 := by
    rw [js_sum]
    show 2 * 0 + _ ≤ 8
    omega
  have hAl : (vs.map (js_v ad)).length = (jm_me y).2.1 := by
    rw [List.length_map, hvs, List.length_reverse, List.length_take]
    omega
  have hkk : ∀ (H1 : Heap) (locs1 : List Loc), va_P D jn_cl (js_ws cy ad hp1) H1 → va_S (js_A ad) s.heap H1 locs1 → W p l e R s m args below meth c H1 locs1 cells slots Q (F0 m (pc + 3) ls ((rv.map (js_v ad)).toList ++ r.map (js_v ad))) := by
    intro H1 locs1 g1 g2
    have hk := js_run_keep _ _ _ _ _ _ _ _ hr
    have K := k H1 locs1 ls h1 h2 g1 g2 (js_Sc_eq (hk 82 (by omega)) (hk 85 (by omega)) h5)
    cases rv with
    | none => exact K
    | some v => exact K
  rcases hlink with hl | ⟨host, hl⟩
  · exact js_cont (va_runS (As := vs.map (js_v ad)) (rest := r.map (js_v ad)) (g := F0 m pc ls (st.map (js_v ad))) (bytes := (jn_y y).2.1) (maxL := (jm_me y).2.2.2.1) (ret := (jn_y y).2.2) (n := (jm_me y).2.1) ⟨hx, hb, hml, hown, hts⟩ hMet ⟨callB_of _ hts (js_good hM) rfl rfl rfl (hts _ (js_t hM.1.2.1 rfl)) (hts _ (js_t hl rfl)) hd9 hRm, hts _ (js_t hstat rfl)⟩ hpre rfl hAl h1.1 hstack hWd hd ⟨hR3, hR4⟩) h4 hkk
  · exact js_cont (va_runSN (As := vs.map (js_v ad)) (rest := r.map (js_v ad)) (g := F0 m pc ls (st.map (js_v ad))) (bytes := (jn_y y).2.1) (maxL := (jm_me y).2.2.2.1) (ret := (jn_y y).2.2) (n := (jm_me y).2.1) ⟨hx, hb, hml, hown, hts⟩ hMet ⟨va_cnB _ hts (js_good hM) rfl rfl rfl (hN _ hl rfl) (hts _ (js_t hM.1.2.1 rfl)) hd9 hRm, hts _ (js_t hstat rfl), trivial⟩ hpre rfl hAl h1.1 hstack hWd hd ⟨hR3, hR4⟩) h4 hkk
end All

set_option maxHeartbeats 16000000 in
theorem js_calls {x pc nx tg rk : Nat} {i : Instr} {A st vs r : List jm_V} {hp : jm_H} {y nx' : Nat} (hf : jm_fe x pc = some (i, nx, tg)) (hg : jm_in x (jm_me x).1 rk pc i nx tg A st hp = some (.inr (.inr (y, vs, r, nx')))) : (∃ idx, i = .invokevirtual idx ∧ jm_pf jm_ML (jm_me x).1 idx = some y ∧ jm_rc y st = true ∧ (jm_me y).2.2.1 = false ∧ jm_call x y st nx = some (.inr (.inr (y, vs, r, nx')))) ∨ (∃ idx, i = .invokestatic idx ∧ jm_pf jm_ML (jm_me x).1 idx = some y ∧ Nat.ble y 2 = false ∧ (jm_me y).2.2.1 = true ∧ jm_call x y st nx = some (.inr (.inr (y, vs, r, nx')))) := by
  cases i
  case invokevirtual idx =>
    dsimp only [jm_in] at hg
    split at hg
    · rename_i y0 hy0
      obtain ⟨h1, h2⟩ := js_bif_n2 hg
      obtain ⟨h3, h4⟩ := (Bool.and_eq_true _ _).mp h1
      have h5 := js_call_inv h2
      obtain ⟨rfl, -⟩ := h5
      exact Or.inl ⟨idx, rfl, hy0, h3, by simpa using h4, h2⟩
    · cases hg
  case invokestatic idx =>
    dsimp only [jm_in] at hg
    split at hg
    · rename_i y0 hy0
      cases hb : Nat.ble y0 2 with
      | true => rw [hb] at hg; exact (js_mth_no hg).elim
      | false =>
        rw [hb] at hg
        obtain ⟨h1, h2⟩ := js_bif_n2 (show (bif _ then _ else none) = some _ from hg)
        have h5 := js_call_inv h2
        obtain ⟨rfl, -⟩ := h5
        exact Or.inr ⟨idx, rfl, hy0, hb, h1, h2⟩
    · cases hg
  case baload =>
    exfalso
    dsimp only [jm_in] at hg
    split at hg
    · rename_i o h1
      cases hg
      obtain ⟨_, _, _, _, _, _, _, _, ho⟩ := js_ald_inv h1
      cases ho
    · obtain ⟨_, _, _, _, _, _, _, _, ho⟩ := js_ald_inv hg
      cases ho
  case ireturn =>
    exfalso
    have hg : jm_retI rk st = some (.inr (.inr (y, vs, r, nx'))) := hg
    unfold jm_retI at hg
    split at hg
    · cases (js_bif_n hg).2
    · cases hg
  all_goals (exfalso; first
    | (cases hg; done)
    | (exact js_ar2_no2 (A := A) (st := st) (hp := hp) hf hg)
    | (obtain ⟨_, _, _, ho, _⟩ := js_ld_inv hg; cases ho; done)
    | (obtain ⟨_, _, _, _, ho, _⟩ := js_sv_inv hg; cases ho; done)
    | (obtain ⟨_, _, ho⟩ := js_kV_inv hg; cases ho; done)
    | (obtain ⟨_, _, _, _, _, _, _, _, ho⟩ := js_ald_inv hg; cases ho; done)
    | (obtain ⟨_, _, _, _, _, _, _, _, ho⟩ := js_ald_inv (t := 2) (mk := fun z => jF z.toNat) hg; cases ho; done)
    | (obtain ⟨_, _, _, _, _, _, _, _, _, _, ho⟩ := js_ast_inv hg; cases ho; done)
    | (obtain ⟨_, _, _, _, _, _, _, _, _, _, _, ho, _⟩ := js_getf_inv hg; cases ho; done)
    | (obtain ⟨_, _, _, _, _, _, _, _, _, _, _, _, ho, _⟩ := js_putf_inv hg; cases ho; done)
    | (dsimp only [jm_in] at hg; split at hg <;> first | (cases hg; done) | (cases (js_bif_n2 hg).2; done) | (split at hg <;> cases hg; done)))
/-- SOUND: every run of the machine of these rows is one of the real machine -/
theorem js_sound (l : Launch) (D : va_G) (cy : Nat → ClassId) (ad : Nat → Nat) : ∀ n, js_P l D cy ad n := by
  intro n
  induction n with
  | zero => intro x pc A st hp rv hp' h; cases h
  | succ n ih =>
    intro x pc A st hp rv hp' h hD p e R s m args below meth c cells slots Q C hend
    rw [jm_run] at h
    cases hg : jm_go x pc A st hp with
    | none => rw [hg] at h; cases h
    | some o =>
      rw [hg] at h
      have hg0 := hg
      unfold jm_go at hg
      cases hf : jm_fe x pc with
      | none => rw [hf] at hg; cases hg
      | some w =>
        obtain ⟨i, nx, tg⟩ := w
        rw [hf] at hg
        dsimp only at hg
        rcases o with ⟨p1, A1, s1, h1⟩ | rv1 | ⟨y, vs, r, nx1⟩
        · exact js_step C hD hf hg (ih _ _ _ _ _ _ _ h hD _ _ _ _ _ _ _ _ _ _ _ _ C hend)
        · cases h
          exact fun H locs ls h1 h2 h3 h4 h5 => hend pc A st H locs ls hg0 h3 h4
        · dsimp only at h
          cases hc : jm_run n y 0 (jm_en y vs) [] hp with
          | none => rw [hc] at h; cases h
          | some w =>
            obtain ⟨rv1, h1⟩ := w
            rw [hc] at h
            dsimp only at h
            have hk := ih _ _ _ _ _ _ _ h hD _ _ _ _ _ _ _ _ _ _ _ _ C hend
            obtain ⟨hdec, hlt, hlen, htg⟩ := jn_fe hD hf
            rcases js_calls hf hg with ⟨idx, rfl, hy, hrc, hst, hcall⟩ | ⟨idx, rfl, hy, hb2, hst, hcall⟩
            · have hnx : pc + 3 = nx := by
                rcases hlen with h9 | h9
                · cases h9
                · exact h9
              subst hnx
              obtain ⟨-, rfl, -⟩ := js_call_inv hcall
              exact js_callV ih C (by rw [hdec, Nat.add_sub_cancel_left]) hy hrc hst hcall hc hk
            · have hnx : pc + 3 = nx := by
                rcases hlen with h9 | h9
                · cases h9
                · exact h9
              subst hnx
              obtain ⟨-, rfl, -⟩ := js_call_inv hcall
              exact js_callS ih C (by rw [hdec, Nat.add_sub_cancel_left]) hy hb2 hst hcall hc hk
