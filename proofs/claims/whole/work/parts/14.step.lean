section Stp
variable {p : Program} {l : Launch} {e : Env} {R : Room} {s : State} {m : MethodId} {args : Array Value} {below : List Frame} {meth : Method} {c : Code} {cells slots : Nat} {Q : State → Prop} {D : va_G} {cy : Nat → ClassId} {ad : Nat → Nat} {x pc : Nat} {A : List jm_V} {hp : jm_H}
theorem js_bif_n {α : Type} {b : Bool} {o : Option α} {w : α} (h : (bif b then o else none) = some w) : b = true ∧ o = some w := by
  cases b with
  | false => cases h
  | true => exact ⟨rfl, h⟩
theorem js_mth {idx y nx pc' : Nat} {A' st st' : List jm_V} {hp' : jm_H} (C : js_Cx p R s m args c cells slots D cy ad x) (hd : decode (jn_y x).2.1 pc = .ok (.invokestatic idx, 3)) (hnx : nx = pc + 3) (hl : Cond.methodLink (jn_own (jm_me x).1) idx (jn_y y).1 ∈ lw_tbl) (hg : jm_mth x y nx A st hp = some (.inl (pc', A', st', hp'))) (k : js_G p l e R s m args below meth c cells slots Q D cy ad x pc' A' st' hp') : js_G p l e R s m args below meth c cells slots Q D cy ad x pc A st hp := by
  subst hnx
  unfold jm_mth at hg
  split at hg
  · rename_i b r
    cases h0 : Nat.beq y 0 with
    | true =>
      have := Nat.eq_of_beq_eq_true h0
      subst this
      rw [h0] at hg
      obtain ⟨hc, hg⟩ := js_bif_n (show (bif _ then _ else none) = some _ from hg)
      obtain ⟨c1, c2⟩ := (Bool.and_eq_true _ _).mp hc
      cases hg
      exact js_mabs C hd hl (Nat.le_of_ble_eq_true c1) (Nat.le_of_ble_eq_true c2) k
    | false =>
      rw [h0] at hg
      dsimp only [cond_false] at hg
      split at hg
      · rename_i a r3
        obtain ⟨hc, hg⟩ := js_bif_n hg
        obtain ⟨c1, c2⟩ := (Bool.and_eq_true _ _).mp hc
        cases h1 : Nat.beq y 1 with
        | true =>
          have := Nat.eq_of_beq_eq_true h1
          subst this
          rw [h1] at hg
          cases hg
          exact js_mmax C hd hl (Nat.le_of_ble_eq_true c1) (Nat.le_of_ble_eq_true c2) k
        | false =>
          rw [h1] at hg
          obtain ⟨h2, hg⟩ := js_bif_n (show (bif Nat.beq y 2 then _ else none) = some _ from hg)
          have := Nat.eq_of_beq_eq_true h2
          subst this
          cases hg
          exact js_mmin C hd hl (Nat.le_of_ble_eq_true c1) (Nat.le_of_ble_eq_true c2) k
      · cases hg
  · cases hg
theorem js_okF_inv {v : jm_V} {z : Int} (h : jm_okF v = some z) : ∃ b : Nat, v = jF b ∧ z = (b : Int) := by
  rcases v with a | a | a | a | a
  · cases h
  · cases h
  · cases h; exact ⟨a, rfl, rfl⟩
  · cases h
  · cases h
theorem js_okI_inv {v : jm_V} {z : Int} (h : jm_okI v = some z) : v = jI z := by
  rcases v with a | a | a | a | a
  · cases h; rfl
  all_goals (cases h)
theorem js_okL_inv {v : jm_V} {z : Int} (h : jm_okL v = some z) : v = jL z := by
  rcases v with a | a | a | a | a
  · cases h
  · cases h; rfl
  all_goals (cases h)
theorem js_okZ_inv {v : jm_V} {z : Int} (h : jm_okZ v = some z) : v = jI z ∧ (z = 0 ∨ z = 1) := by
  rcases v with a | a | a | a | a
  · unfold jm_okZ at h
    dsimp only at h
    cases hc : (decide (a = 0) || decide (a = 1)) with
    | false => rw [hc] at h; cases h
    | true => rw [hc] at h; cases h; exact ⟨rfl, by simpa using hc⟩
  all_goals (cases h)
theorem js_call_no {y nx : Nat} {st : List jm_V} {o : jm_C} (h : jm_call x y st nx = some (.inl o)) : False := by
  unfold jm_call at h
  cases (js_bif_n h).2
set_option maxHeartbeats 8000000 in
theorem js_step {i : Instr} {nx tg rk pc' : Nat} {A' st st' : List jm_V} {hp' : jm_H} (C : js_Cx p R s m args c cells slots D cy ad x) (hD : jn_okD x) (hf : jm_fe x pc = some (i, nx, tg)) (hg : jm_in x (jm_me x).1 rk pc i nx tg A st hp = some (.inl (pc', A', st', hp'))) (k : js_G p l e R s m args below meth c cells slots Q D cy ad x pc' A' st' hp') : js_G p l e R s m args below meth c cells slots Q D cy ad x pc A st hp := by
  obtain ⟨hdec, hlt, hlen, htg⟩ := jn_fe hD hf
  have hdl : jn_len i ≠ 0 → decode (jn_y x).2.1 pc = .ok (i, jn_len i) ∧ nx = pc + jn_len i := by
    intro h0
    rcases hlen with h | h
    · exact absurd h h0
    · refine ⟨?_, h.symm⟩
      rw [hdec, ← h, Nat.add_sub_cancel_left]
  cases i
  case iconst n => obtain ⟨hd, rfl⟩ := hdl (Nat.succ_ne_zero _); cases hg; exact js_iconst C hd k
  case bipush n => obtain ⟨hd, rfl⟩ := hdl (Nat.succ_ne_zero _); cases hg; exact js_bipush C hd (by simpa [jn_tgt] using htg) k
  case sipush n => obtain ⟨hd, rfl⟩ := hdl (Nat.succ_ne_zero _); cases hg; exact js_sipush C hd (by simpa [jn_tgt] using htg) k
  case lconst n => obtain ⟨hd, rfl⟩ := hdl (Nat.succ_ne_zero _); cases hg; exact js_lconst C hd k
  case fconst n => obtain ⟨hd, rfl⟩ := hdl (Nat.succ_ne_zero _); cases hg; exact js_fconst C hd k
  case iload j =>
    obtain ⟨hd, rfl⟩ := hdl (Nat.succ_ne_zero _)
    obtain ⟨v, hA, hs, ho, hv⟩ := js_ld_inv hg
    cases ho
    rcases hv with ⟨-, z, rfl⟩ | ⟨h, -⟩ | ⟨h, -⟩ | ⟨h, -⟩
    · exact js_iload C hd hA k
    all_goals (cases h)
  case iload_n j =>
    obtain ⟨hd, rfl⟩ := hdl (Nat.succ_ne_zero _)
    obtain ⟨v, hA, hs, ho, hv⟩ := js_ld_inv hg
    cases ho
    rcases hv with ⟨-, z, rfl⟩ | ⟨h, -⟩ | ⟨h, -⟩ | ⟨h, -⟩
    · exact js_iload_n C hd hA k
    all_goals (cases h)
  case lload j =>
    obtain ⟨hd, rfl⟩ := hdl (Nat.succ_ne_zero _)
    obtain ⟨v, hA, hs, ho, hv⟩ := js_ld_inv hg
    cases ho
    rcases hv with ⟨h, -⟩ | ⟨-, z, rfl⟩ | ⟨h, -⟩ | ⟨h, -⟩
    · cases h
    · exact js_lload C hd hA k
    all_goals (cases h)
  case lload_n j =>
    obtain ⟨hd, rfl⟩ := hdl (Nat.succ_ne_zero _)
    obtain ⟨v, hA, hs, ho, hv⟩ := js_ld_inv hg
    cases ho
    rcases hv with ⟨h, -⟩ | ⟨-, z, rfl⟩ | ⟨h, -⟩ | ⟨h, -⟩
    · cases h
    · exact js_lload_n C hd hA k
    all_goals (cases h)
  case fload j =>
    obtain ⟨hd, rfl⟩ := hdl (Nat.succ_ne_zero _)
    obtain ⟨v, hA, hs, ho, hv⟩ := js_ld_inv hg
    cases ho
    rcases hv with ⟨h, -⟩ | ⟨h, -⟩ | ⟨-, z, rfl⟩ | ⟨h, -⟩
    · cases h
    · cases h
    · exact js_fload C hd hA k
    · cases h
  case fload_n j =>
    obtain ⟨hd, rfl⟩ := hdl (Nat.succ_ne_zero _)
    obtain ⟨v, hA, hs, ho, hv⟩ := js_ld_inv hg
    cases ho
    rcases hv with ⟨h, -⟩ | ⟨h, -⟩ | ⟨-, z, rfl⟩ | ⟨h, -⟩
    · cases h
    · cases h
    · exact js_fload_n C hd hA k
    · cases h
  case aload j =>
    obtain ⟨hd, rfl⟩ := hdl (Nat.succ_ne_zero _)
    obtain ⟨v, hA, hs, ho, hv⟩ := js_ld_inv hg
    cases ho
    rcases hv with ⟨h, -⟩ | ⟨h, -⟩ | ⟨h, -⟩ | ⟨-, z, rfl⟩
    · cases h
    · cases h
    · cases h
    · exact js_aload C hd hA k
  case aload_n j =>
    obtain ⟨hd, rfl⟩ := hdl (Nat.succ_ne_zero _)
    obtain ⟨v, hA, hs, ho, hv⟩ := js_ld_inv hg
    cases ho
    rcases hv with ⟨h, -⟩ | ⟨h, -⟩ | ⟨h, -⟩ | ⟨-, z, rfl⟩
    · cases h
    · cases h
    · cases h
    · exact js_aload_n C hd hA k
  case istore j =>
    obtain ⟨hd, rfl⟩ := hdl (Nat.succ_ne_zero _)
    obtain ⟨v, B, r, rfl, ho, hv⟩ := js_sv_inv hg
    cases ho
    rcases hv with ⟨-, ⟨z, rfl⟩, hB⟩ | ⟨h, -⟩ | ⟨h, -⟩
    · exact js_istore C hd hB k
    all_goals (cases h)
  case istore_n j =>
    obtain ⟨hd, rfl⟩ := hdl (Nat.succ_ne_zero _)
    obtain ⟨v, B, r, rfl, ho, hv⟩ := js_sv_inv hg
    cases ho
    rcases hv with ⟨-, ⟨z, rfl⟩, hB⟩ | ⟨h, -⟩ | ⟨h, -⟩
    · exact js_istore_n C hd hB k
    all_goals (cases h)
  case lstore j =>
    obtain ⟨hd, rfl⟩ := hdl (Nat.succ_ne_zero _)
    obtain ⟨v, B, r, rfl, ho, hv⟩ := js_sv_inv hg
    cases ho
    rcases hv with ⟨h, -⟩ | ⟨-, ⟨z, rfl⟩, hB⟩ | ⟨h, -⟩
    · cases h
    · exact js_lstore C hd hB k
    · cases h
  case lstore_n j =>
    obtain ⟨hd, rfl⟩ := hdl (Nat.succ_ne_zero _)
    obtain ⟨v, B, r, rfl, ho, hv⟩ := js_sv_inv hg
    cases ho
    rcases hv with ⟨h, -⟩ | ⟨-, ⟨z, rfl⟩, hB⟩ | ⟨h, -⟩
    · cases h
    · exact js_lstore_n C hd hB k
    · cases h
  case fstore j =>
    obtain ⟨hd, rfl⟩ := hdl (Nat.succ_ne_zero _)
    obtain ⟨v, B, r, rfl, ho, hv⟩ := js_sv_inv hg
    cases ho
    rcases hv with ⟨h, -⟩ | ⟨h, -⟩ | ⟨-, ⟨z, rfl⟩, hB⟩
    · cases h
    · cases h
    · exact js_fstore C hd hB k
  case fstore_n j =>
    obtain ⟨hd, rfl⟩ := hdl (Nat.succ_ne_zero _)
    obtain ⟨v, B, r, rfl, ho, hv⟩ := js_sv_inv hg
    cases ho
    rcases hv with ⟨h, -⟩ | ⟨h, -⟩ | ⟨-, ⟨z, rfl⟩, hB⟩
    · cases h
    · cases h
    · exact js_fstore_n C hd hB k
  case iinc j n =>
    obtain ⟨hd, rfl⟩ := hdl (Nat.succ_ne_zero _)
    dsimp only [jm_in] at hg
    split at hg
    · rename_i z hA
      cases hB : jm_so A j (jI (z + n)) with
      | none => rw [hB] at hg; cases hg
      | some B => rw [hB] at hg; cases hg; exact js_iinc C hd hA hB k
    · cases hg
  case goto o => obtain ⟨hd, rfl⟩ := hdl (Nat.succ_ne_zero _); cases hg; exact js_goto C hd (by simpa [jn_tgt] using htg) k
  case if_icmp cd o =>
    obtain ⟨hd, rfl⟩ := hdl (Nat.succ_ne_zero _)
    dsimp only [jm_in] at hg
    split at hg
    · cases hg; exact js_icmp C hd (by simpa [jn_tgt] using htg) k
    · cases hg
  case ifCond cd o =>
    obtain ⟨hd, rfl⟩ := hdl (Nat.succ_ne_zero _)
    dsimp only [jm_in] at hg
    split at hg
    · cases hg; exact js_ifc C hd (by simpa [jn_tgt] using htg) k
    · cases hg
  case tableswitch d lo hi offs =>
    dsimp only [jm_in] at hg
    split at hg
    · rename_i a r
      cases hq : jm_tsw d lo hi offs pc (jm_w32 a) with
      | none => rw [hq] at hg; cases hg
      | some q => rw [hq] at hg; cases hg; exact js_tsw C hdec htg hq k
    · cases hg
  case lookupswitch d ps =>
    dsimp only [jm_in] at hg
    split at hg
    · cases hg; exact js_lsw C hdec htg k
    · cases hg
  case lcmp => obtain ⟨hd, rfl⟩ := hdl (Nat.succ_ne_zero _); dsimp only [jm_in] at hg; split at hg <;> cases hg; exact js_lcmp C hd k
  case fcmp op => obtain ⟨hd, rfl⟩ := hdl (Nat.succ_ne_zero _); dsimp only [jm_in] at hg; split at hg <;> cases hg; exact js_fcmp C hd k
  case i2l => obtain ⟨hd, rfl⟩ := hdl (Nat.succ_ne_zero _); dsimp only [jm_in] at hg; split at hg <;> cases hg; exact js_i2l C hd k
  case l2i => obtain ⟨hd, rfl⟩ := hdl (Nat.succ_ne_zero _); dsimp only [jm_in] at hg; split at hg <;> cases hg; exact js_l2i C hd k
  case i2c => obtain ⟨hd, rfl⟩ := hdl (Nat.succ_ne_zero _); dsimp only [jm_in] at hg; split at hg <;> cases hg; exact js_i2c C hd k
  case i2b => obtain ⟨hd, rfl⟩ := hdl (Nat.succ_ne_zero _); dsimp only [jm_in] at hg; split at hg <;> cases hg; exact js_i2b C hd k
  case i2f => obtain ⟨hd, rfl⟩ := hdl (Nat.succ_ne_zero _); dsimp only [jm_in] at hg; split at hg <;> cases hg; exact js_i2f C hd k
  case f2i => obtain ⟨hd, rfl⟩ := hdl (Nat.succ_ne_zero _); dsimp only [jm_in] at hg; split at hg <;> cases hg; exact js_f2i C hd k
  case ineg => obtain ⟨hd, rfl⟩ := hdl (Nat.succ_ne_zero _); dsimp only [jm_in] at hg; split at hg <;> cases hg; exact js_ineg C hd k
  case lshl => obtain ⟨hd, rfl⟩ := hdl (Nat.succ_ne_zero _); dsimp only [jm_in] at hg; split at hg <;> cases hg; exact js_lshl C hd k
  case lushr => obtain ⟨hd, rfl⟩ := hdl (Nat.succ_ne_zero _); dsimp only [jm_in] at hg; split at hg <;> cases hg; exact js_lushr C hd k
  case dup =>
    obtain ⟨hd, rfl⟩ := hdl (Nat.succ_ne_zero _)
    dsimp only [jm_in] at hg
    split at hg
    · rename_i v r
      cases hb : Nat.beq (jm_cat v) 1 with
      | false => rw [hb] at hg; cases hg
      | true => rw [hb] at hg; cases hg; exact js_dup C hd (Nat.eq_of_beq_eq_true hb) k
    · cases hg
  case dup2 =>
    obtain ⟨hd, rfl⟩ := hdl (Nat.succ_ne_zero _)
    dsimp only [jm_in] at hg
    split at hg
    · rename_i v w r
      cases hb : (Nat.beq (jm_cat v) 1 && Nat.beq (jm_cat w) 1) with
      | false => rw [hb] at hg; cases hg
      | true =>
        rw [hb] at hg; cases hg
        obtain ⟨b1, b2⟩ := (Bool.and_eq_true _ _).mp hb
        exact js_dup2 C hd (Nat.eq_of_beq_eq_true b1) (Nat.eq_of_beq_eq_true b2) k
    · cases hg
  case pop =>
    obtain ⟨hd, rfl⟩ := hdl (Nat.succ_ne_zero _)
    dsimp only [jm_in] at hg
    split at hg
    · rename_i v r
      cases hb : Nat.beq (jm_cat v) 1 with
      | false => rw [hb] at hg; cases hg
      | true => rw [hb] at hg; cases hg; exact js_pop C hd (Nat.eq_of_beq_eq_true hb) k
    · cases hg
  case arraylength =>
    obtain ⟨hd, rfl⟩ := hdl (Nat.succ_ne_zero _)
    dsimp only [jm_in] at hg
    split at hg
    · rename_i q r
      cases hb : jm_le hp q with
      | none => rw [hb] at hg; cases hg
      | some n =>
        rw [hb] at hg; cases hg
        exact js_alen C hd hb k
    · cases hg
  case getfield idx =>
    obtain ⟨hd, rfl⟩ := hdl (Nat.succ_ne_zero _)
    obtain ⟨ci, j, q, r, fs, t, v, hF, rfl, hs, ht, ho, hv⟩ := js_getf_inv hg
    cases ho
    rcases js_lt_o hs with hk | rfl
    · refine js_getf C hd hF hk hs ht ?_ k
      rcases hv with ⟨q, rfl, rfl⟩ | ⟨rfl, rfl⟩ | ⟨rfl, rfl⟩ | ⟨u, rfl, h1, h10, rfl⟩
      · rfl
      · rfl
      · exfalso
        obtain ⟨q, -, -, h9⟩ := js_shape hk hs
        have := (h9 j 10 ht).2.2
        omega
      · unfold js_fv; dsimp only; rw [if_neg h1]; rfl
    · cases hs
      refine js_getS C hd hF ?_ k
      match j, ht with
      | 0, ht =>
        cases ht
        rcases hv with ⟨q, h, -⟩ | ⟨h, -⟩ | ⟨-, rfl⟩ | ⟨u, h, -, h10, -⟩
        · cases h
        · cases h
        · exact Or.inl ⟨rfl, rfl⟩
        · cases h; exact absurd rfl h10
      | 1, ht =>
        cases ht
        rcases hv with ⟨q, h, rfl⟩ | ⟨h, -⟩ | ⟨h, -⟩ | ⟨u, h, -⟩
        · cases h; exact Or.inr ⟨rfl, rfl⟩
        · cases h
        · cases h
        · cases h
      | j + 2, ht => cases ht
  case putfield idx =>
    obtain ⟨hd, rfl⟩ := hdl (Nat.succ_ne_zero _)
    obtain ⟨ci, j, q, r, fs, t, v, z, hF, rfl, hs, ht, ho, hv⟩ := js_putf_inv hg
    cases ho
    rcases js_lt_o hs with hk | rfl
    · exact js_putf C hd hF hk hs ht hv k
    · exfalso
      cases hs
      match j, ht with
      | 0, ht => cases ht; rcases hv with ⟨h, -⟩ | ⟨h, -⟩ | ⟨h, -⟩ <;> cases h
      | 1, ht => cases ht
      | j + 2, ht => cases ht
  case getstatic idx =>
    obtain ⟨hd, rfl⟩ := hdl (Nat.succ_ne_zero _)
    obtain ⟨w, hw, ho⟩ := js_kV_inv hg
    cases ho
    exact js_gets C hd hw k
  case ldc idx =>
    obtain ⟨hd, rfl⟩ := hdl (Nat.succ_ne_zero _)
    obtain ⟨w, hw, ho⟩ := js_kV_inv hg
    cases ho
    exact js_ldc C hd hw k
  case ldc_w idx =>
    obtain ⟨hd, rfl⟩ := hdl (Nat.succ_ne_zero _)
    obtain ⟨w, hw, ho⟩ := js_kV_inv hg
    cases ho
    exact js_ldc_w C hd hw k
  case ldc2_w idx =>
    obtain ⟨hd, rfl⟩ := hdl (Nat.succ_ne_zero _)
    obtain ⟨w, hw, ho⟩ := js_kV_inv hg
    cases ho
    exact js_ldc2 C hd hw k
  case iaload =>
    obtain ⟨hd, rfl⟩ := hdl (Nat.succ_ne_zero _)
    obtain ⟨i, q, r, n, f, rfl, ha, hr, ho⟩ := js_ald_inv hg
    cases ho
    exact js_iald C hd ha hr k
  case laload =>
    obtain ⟨hd, rfl⟩ := hdl (Nat.succ_ne_zero _)
    obtain ⟨i, q, r, n, f, rfl, ha, hr, ho⟩ := js_ald_inv hg
    cases ho
    exact js_lald C hd ha hr k
  case faload =>
    obtain ⟨hd, rfl⟩ := hdl (Nat.succ_ne_zero _)
    obtain ⟨i, q, r, n, f, rfl, ha, hr, ho⟩ := js_ald_inv (t := 2) (mk := fun z => jF z.toNat) hg
    cases ho
    exact js_fald C hd ha hr k
  case baload =>
    obtain ⟨hd, rfl⟩ := hdl (Nat.succ_ne_zero _)
    dsimp only [jm_in] at hg
    split at hg
    · rename_i o h1
      cases hg
      obtain ⟨i, q, r, n, f, rfl, ha, hr, ho⟩ := js_ald_inv h1
      cases ho
      exact js_zald C hd ha hr k
    · obtain ⟨i, q, r, n, f, rfl, ha, hr, ho⟩ := js_ald_inv hg
      cases ho
      exact js_bald C hd ha hr k
  case iastore =>
    obtain ⟨hd, rfl⟩ := hdl (Nat.succ_ne_zero _)
    obtain ⟨v, i, q, r, n, z, rfl, hs, hz, hr, ho⟩ := js_ast_inv hg
    cases ho
    rw [js_okI_inv hz]
    exact js_iast C hd hs hr k
  case lastore =>
    obtain ⟨hd, rfl⟩ := hdl (Nat.succ_ne_zero _)
    obtain ⟨v, i, q, r, n, z, rfl, hs, hz, hr, ho⟩ := js_ast_inv hg
    cases ho
    rw [js_okL_inv hz]
    exact js_last C hd hs hr k
  case fastore =>
    obtain ⟨hd, rfl⟩ := hdl (Nat.succ_ne_zero _)
    obtain ⟨v, i, q, r, n, z, rfl, hs, hz, hr, ho⟩ := js_ast_inv hg
    cases ho
    obtain ⟨b, rfl, rfl⟩ := js_okF_inv hz
    exact js_fast C hd hs hr k
  case bastore =>
    obtain ⟨hd, rfl⟩ := hdl (Nat.succ_ne_zero _)
    obtain ⟨v, i, q, r, n, z, rfl, hs, hz, hr, ho⟩ := js_ast_inv hg
    cases ho
    obtain ⟨rfl, h01⟩ := js_okZ_inv hz
    exact js_zast C hd hs h01 hr k
  case invokevirtual idx =>
    exfalso
    dsimp only [jm_in] at hg
    split at hg
    · exact js_call_no (js_bif_n hg).2
    · cases hg
  case invokestatic idx =>
    obtain ⟨hd, rfl⟩ := hdl (Nat.succ_ne_zero _)
    dsimp only [jm_in] at hg
    split at hg
    · rename_i y hy
      cases hb : Nat.ble y 2 with
      | true =>
        rw [hb] at hg
        have hL := jn_pL (jm_me x).1 _ (jn_pf_mem hy)
        exact js_mth C hd rfl (hL.2.2 (Nat.le_of_ble_eq_true hb)) hg k
      | false =>
        rw [hb] at hg
        exact absurd (js_bif_n (show (bif _ then _ else none) = some _ from hg)).2 js_call_no
    · cases hg
  case ireturn =>
    exfalso
    dsimp only [jm_in] at hg
    unfold jm_retI at hg
    split at hg
    · cases (js_bif_n hg).2
    · cases hg
  case lreturn =>
    exfalso
    dsimp only [jm_in] at hg
    split at hg
    · cases (js_bif_n hg).2
    · cases hg
  case freturn =>
    exfalso
    dsimp only [jm_in] at hg
    split at hg
    · cases (js_bif_n hg).2
    · cases hg
  case return_ =>
    exfalso
    dsimp only [jm_in] at hg
    split at hg
    · cases (js_bif_n hg).2
    · cases hg
  all_goals (obtain ⟨hd, rfl⟩ := hdl (Nat.succ_ne_zero _); exact js_ar2 C hd rfl hg k)
end Stp
