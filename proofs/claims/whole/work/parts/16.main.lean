set_option maxHeartbeats 16000000 in
theorem js_keep {x pc nx tg pc' rk : Nat} {i : Instr} {A st A' st' : List jm_V} {hp hp' : jm_H} (hf : jm_fe x pc = some (i, nx, tg)) (hg : jm_in x (jm_me x).1 rk pc i nx tg A st hp = some (.inl (pc', A', st', hp'))) : ∀ q, 78 ≤ q → hp' q = hp q := by
  intro q hq
  cases i
  case putfield idx =>
    obtain ⟨ci, j, k, r, fs, t, v, z, hF, rfl, hs, ht, ho, hv⟩ := js_putf_inv hg
    cases ho
    rcases js_lt_o hs with hk | rfl
    · exact js_hs_ne (by omega)
    · exfalso
      cases hs
      match j, ht with
      | 0, ht => cases ht; rcases hv with ⟨h, -⟩ | ⟨h, -⟩ | ⟨h, -⟩ <;> cases h
      | 1, ht => cases ht
      | j + 2, ht => cases ht
  case iastore => obtain ⟨v, i, k, r, n, z, rfl, hs, hz, hr, ho⟩ := js_ast_inv hg; cases ho; have := js_lt_a hs (by decide); exact js_hs_ne (by omega)
  case lastore => obtain ⟨v, i, k, r, n, z, rfl, hs, hz, hr, ho⟩ := js_ast_inv hg; cases ho; have := js_lt_a hs (by decide); exact js_hs_ne (by omega)
  case fastore => obtain ⟨v, i, k, r, n, z, rfl, hs, hz, hr, ho⟩ := js_ast_inv hg; cases ho; have := js_lt_a hs (by decide); exact js_hs_ne (by omega)
  case bastore => obtain ⟨v, i, k, r, n, z, rfl, hs, hz, hr, ho⟩ := js_ast_inv hg; cases ho; have := js_lt_a hs (by decide); exact js_hs_ne (by omega)
  case baload =>
    dsimp only [jm_in] at hg
    split at hg
    · rename_i o h1
      cases hg
      obtain ⟨_, _, _, _, _, _, _, _, ho⟩ := js_ald_inv h1
      cases ho; rfl
    · obtain ⟨_, _, _, _, _, _, _, _, ho⟩ := js_ald_inv hg
      cases ho; rfl
  case faload => obtain ⟨_, _, _, _, _, _, _, _, ho⟩ := js_ald_inv (t := 2) (mk := fun z => jF z.toNat) hg; cases ho; rfl
  case iaload => obtain ⟨_, _, _, _, _, _, _, _, ho⟩ := js_ald_inv hg; cases ho; rfl
  case laload => obtain ⟨_, _, _, _, _, _, _, _, ho⟩ := js_ald_inv hg; cases ho; rfl
  case getfield idx => obtain ⟨_, _, _, _, _, _, _, _, _, _, _, ho, _⟩ := js_getf_inv hg; cases ho; rfl
  case invokevirtual idx =>
    exfalso
    dsimp only [jm_in] at hg
    split at hg
    · exact js_call_no (js_bif_n hg).2
    · cases hg
  case invokestatic idx =>
    dsimp only [jm_in] at hg
    split at hg
    · rename_i y hy
      cases hb : Nat.ble y 2 with
      | true =>
        rw [hb] at hg
        have hg : jm_mth x y nx A st hp = some (.inl (pc', A', st', hp')) := hg
        unfold jm_mth at hg
        split at hg
        · rename_i b r
          cases h0 : Nat.beq y 0 with
          | true => rw [h0] at hg; cases (js_bif_n2 (show (bif _ then _ else none) = some _ from hg)).2; rfl
          | false =>
            rw [h0] at hg
            dsimp only [cond_false] at hg
            split at hg
            · obtain ⟨-, hg⟩ := js_bif_n2 hg
              cases h1 : Nat.beq y 1 with
              | true => rw [h1] at hg; cases hg; rfl
              | false => rw [h1] at hg; cases (js_bif_n2 (show (bif Nat.beq y 2 then _ else none) = some _ from hg)).2; rfl
            · cases hg
        · cases hg
      | false =>
        rw [hb] at hg
        exact absurd (js_bif_n (show (bif _ then _ else none) = some _ from hg)).2 js_call_no
    · cases hg
  case ireturn =>
    exfalso
    have hg : jm_retI rk st = some (.inl (pc', A', st', hp')) := hg
    unfold jm_retI at hg
    split at hg
    · cases (js_bif_n hg).2
    · cases hg
  all_goals first
    | (cases hg <;> rfl)
    | (obtain ⟨_, _, _, ho, _⟩ := js_ld_inv hg; cases ho; rfl)
    | (obtain ⟨_, _, _, _, ho, _⟩ := js_sv_inv hg; cases ho; rfl)
    | (obtain ⟨_, _, ho⟩ := js_kV_inv hg; cases ho; rfl)
    | (exact js_ar2_keep (A := A) (st := st) (hp := hp) hf hg q)
    | (dsimp only [jm_in] at hg; split at hg <;> first | (cases hg <;> rfl) | (cases (js_bif_n2 hg).2 <;> rfl) | (split at hg <;> (cases hg <;> rfl)))
theorem js_run_keep : ∀ (n x pc : Nat) (A st : List jm_V) (hp : jm_H) (rv : Option jm_V) (hp' : jm_H), jm_run n x pc A st hp = some (rv, hp') → ∀ q, 78 ≤ q → hp' q = hp q := by
  intro n
  induction n with
  | zero => intro x pc A st hp rv hp' h; cases h
  | succ n ih =>
    intro x pc A st hp rv hp' h q hq
    rw [jm_run] at h
    cases hg : jm_go x pc A st hp with
    | none => rw [hg] at h; cases h
    | some o =>
      rw [hg] at h
      rcases o with ⟨p1, A1, s1, h1⟩ | rv1 | ⟨y, vs, r, nx⟩
      · rw [ih _ _ _ _ _ _ _ h q hq]
        unfold jm_go at hg
        cases hf : jm_fe x pc with
        | none => rw [hf] at hg; cases hg
        | some w =>
          obtain ⟨i, nx, tg⟩ := w
          rw [hf] at hg
          exact js_keep hf hg q hq
      · cases h; rfl
      · dsimp only at h
        cases hc : jm_run n y 0 (jm_en y vs) [] hp with
        | none => rw [hc] at h; cases h
        | some w =>
          obtain ⟨rv1, h1⟩ := w
          rw [hc] at h
          rw [ih _ _ _ _ _ _ _ h q hq, ih _ _ _ _ _ _ _ hc q hq]
theorem js_Sc_eq {ad : Nat → Nat} {hp hp' : jm_H} {s : State} (h82 : hp' 82 = hp 82) (h85 : hp' 85 = hp 85) (h : js_Sc ad hp s) : js_Sc ad hp' s := by
  unfold js_Sc at *
  rw [h82, h85]
  exact h
/-- a method's contract out of its run -/
theorem js_met {l : Launch} {D : va_G} {cy : Nat → ClassId} {ad : Nat → Nat} {n y : Nat} {vs : List jm_V} {hp : jm_H} {rv : Option jm_V} {hp' : jm_H} (hPn : js_P l D cy ad n) (hinj : js_inj ad) (hM : jn_okM y) (hD : jn_okD y) (hl : (jm_lay vs).length ≤ (jm_me y).2.2.2.1) (hr : jm_run n y 0 (jm_en y vs) [] hp = some (rv, hp')) :
    Met l (jn_y y).1 (js_wd y) (js_rm y) (va_Pc (vs.map (js_v ad)) (js_B D cy ad hp)) (js_Qc D cy ad rv hp') 0 0 (js_A ad) := by
  refine Met.ofW (cc := (jn_y y).2.1) (maxL := (jm_me y).2.2.2.1) (ret := (jn_y y).2.2) hM.1.2.2.2.1 rfl ?_
  intro p e s m args below meth c s₁ B hml hv
  obtain ⟨rfl, hP, hK, ⟨hS0, hN⟩, hSc⟩ := hv
  have hx := B.exec
  have hb := B.bytes
  have hret := B.returns
  have hts := atoms_spec (ws := js_wd y) B.pre
  have hown : s.vm.findClass (jn_y y).1.cls = some m.cls := findClass_of_methodNamed B.named
  have hlocks := B.notSynchronized
  have hT : ∀ w ∈ js_T, w.before (vs.map (js_v ad)).toArray s = true := by
    intro w hw
    obtain ⟨h1, h2⟩ := List.mem_filter.mp hw
    rcases (Bool.or_eq_true _ _).mp h2 with h3 | h3
    · exact hts w (List.mem_cons_of_mem _ (js_tg h1 h3))
    · exact va_Nw.use (by cases w <;> first | rfl | cases h3) (hN w h1 h3)
  rw [hM.1.2.2.1] at hown
  have C : js_Cx p (js_rm y) s m (vs.map (js_v ad)).toArray c 0 0 D cy ad y := ⟨hx, hb, hml, hown, hT, hK, hinj, ⟨hS0, hN⟩, Nat.le_refl _, Nat.le_refl _, Nat.le_refl _, Nat.le_refl _⟩
  have hl2 : (lg_sl (vs.map (js_v ad))).length ≤ (jm_me y).2.2.2.1 := by rw [js_lay_len]; exact hl
  have hlv := lv_entry (vs.map (js_v ad)) hl2
  rw [lg_entry_eq]
  generalize (lg_sl (vs.map (js_v ad)) ++ List.replicate ((jm_me y).2.2.2.1 - (lg_sl (vs.map (js_v ad))).length) Slot.unset).toArray = ls at hlv ⊢
  have hh : lv_has ls (jm_me y).2.2.2.1 (js_lv ad (jm_en y vs)) := js_has_of hlv (fun j v hj hs => by
    have := js_en_mem ad _ vs 0 j v hj hs
    rwa [Nat.zero_add] at this)
  have hlen : (jm_en y vs).length = (jm_me y).2.2.2.1 := by
    unfold jm_en
    rw [List.length_append, List.length_replicate]
    omega
  exact hPn y 0 (jm_en y vs) [] hp rv hp' hr hD p e _ s m _ below meth c 0 0 _ C (fun pc' A' st' H' locs' ls' g1 g2 g3 => js_ends hD hx hb hret hlocks g1 g2 g3) s.heap [] ls hh hlen hP va_S.rf hSc
