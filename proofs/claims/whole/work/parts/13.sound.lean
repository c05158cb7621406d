section Snd
variable {p : Program} {l : Launch} {e : Env} {R : Room} {s : State} {m : MethodId} {args : Array Value} {below : List Frame} {meth : Method} {c : Code} {cells slots : Nat} {Q : State → Prop} {D : va_G} {cy : Nat → ClassId} {ad : Nat → Nat} {x pc : Nat} {A : List jm_V} {hp : jm_H}
theorem js_sum (r : List jm_V) : ((r.map (js_v ad)).map fun v => v.category).sum = (r.map jm_cat).sum := by
  rw [List.map_map]
  congr 1
  apply List.map_congr_left
  intro v _
  exact js_cat ad v
theorem js_mabs {r : List jm_V} {b : Int} {idx : Nat} (C : js_Cx p R s m args c cells slots D cy ad x) (hd : decode (jn_y x).2.1 pc = .ok (.invokestatic idx, 3)) (hl : Cond.methodLink (jn_own (jm_me x).1) idx (jn_y 0).1 ∈ lw_tbl) (h1 : 1 ≤ (jm_me x).2.2.2.2.2.1) (h2 : (r.map jm_cat).sum + 13 ≤ (jm_me x).2.2.2.2.2.2) (k : js_G p l e R s m args below meth c cells slots Q D cy ad x (pc + 3) A (jI (bif decide (0 ≤ jm_w32 b) then b else 0 - b) :: r) hp) : js_G p l e R s m args below meth c cells slots Q D cy ad x pc A (jI b :: r) hp := by
  intro H locs ls g1 g2 g3 g4 g5
  have K := k H locs ls g1 g2 g3 g4 g5
  obtain ⟨hx, hb, hml, hown, hts, hK, hinj, ⟨hS0, hN⟩, hR1, hR2, hR3, hR4⟩ := C
  refine va_mabs hx hb (by rw [hml]; exact g1.1.symm) hown (hts _ (js_t hl rfl)) (hts _ (js_t (jn_m3 97 rfl) rfl)) (hts _ (js_t (jn_m1 12 rfl) rfl)) (hts _ (js_t (jn_m3 98 (by first | rfl | decide +kernel)) rfl)) (by omega) (by rw [js_sum]; omega) hR3 hR4 hd ?_
  have e1 : js_v ad (jI (bif decide (0 ≤ jm_w32 b) then b else 0 - b)) = .int (if 0 ≤ Int32.ofInt b then Int32.ofInt b else 0 - Int32.ofInt b) := by
    by_cases q : 0 ≤ jm_w32 b
    · rw [js_bif_t _ q, if_pos (show (0 : Int32) ≤ Int32.ofInt b from (js_leI 0 b).mpr q)]; rfl
    · rw [js_bif_f _ q, if_neg (show ¬ (0 : Int32) ≤ Int32.ofInt b from fun w => q ((js_leI 0 b).mp w))]; exact congrArg Value.int (Int32.ofInt_sub 0 b)
  rw [List.map_cons, e1] at K
  exact K
theorem js_mmax {r : List jm_V} {a b : Int} {idx : Nat} (C : js_Cx p R s m args c cells slots D cy ad x) (hd : decode (jn_y x).2.1 pc = .ok (.invokestatic idx, 3)) (hl : Cond.methodLink (jn_own (jm_me x).1) idx (jn_y 1).1 ∈ lw_tbl) (h1 : 1 ≤ (jm_me x).2.2.2.2.2.1) (h2 : (r.map jm_cat).sum + 13 ≤ (jm_me x).2.2.2.2.2.2) (k : js_G p l e R s m args below meth c cells slots Q D cy ad x (pc + 3) A (jI (bif decide (jm_w32 a < jm_w32 b) then b else a) :: r) hp) : js_G p l e R s m args below meth c cells slots Q D cy ad x pc A (jI b :: jI a :: r) hp := by
  intro H locs ls g1 g2 g3 g4 g5
  have K := k H locs ls g1 g2 g3 g4 g5
  obtain ⟨hx, hb, hml, hown, hts, hK, hinj, ⟨hS0, hN⟩, hR1, hR2, hR3, hR4⟩ := C
  refine va_mmax hx hb (by rw [hml]; exact g1.1.symm) hown (hts _ (js_t hl rfl)) (hts _ (js_t (jn_m2 68 rfl) rfl)) (hts _ (js_t (jn_m1 12 rfl) rfl)) (hts _ (js_t (jn_m2 69 (by first | rfl | decide +kernel)) rfl)) (by omega) (by rw [js_sum]; omega) hR3 hR4 hd ?_
  have e1 : js_v ad (jI (bif decide (jm_w32 a < jm_w32 b) then b else a)) = .int (if Int32.ofInt a < Int32.ofInt b then Int32.ofInt b else Int32.ofInt a) := by
    by_cases q : jm_w32 a < jm_w32 b
    · rw [js_bif_t _ q, if_pos ((js_ltI a b).mpr q)]; rfl
    · rw [js_bif_f _ q, if_neg (fun w => q ((js_ltI a b).mp w))]; rfl
  rw [List.map_cons, e1] at K
  exact K
theorem js_mmin {r : List jm_V} {a b : Int} {idx : Nat} (C : js_Cx p R s m args c cells slots D cy ad x) (hd : decode (jn_y x).2.1 pc = .ok (.invokestatic idx, 3)) (hl : Cond.methodLink (jn_own (jm_me x).1) idx (jn_y 2).1 ∈ lw_tbl) (h1 : 1 ≤ (jm_me x).2.2.2.2.2.1) (h2 : (r.map jm_cat).sum + 13 ≤ (jm_me x).2.2.2.2.2.2) (k : js_G p l e R s m args below meth c cells slots Q D cy ad x (pc + 3) A (jI (bif decide (jm_w32 b < jm_w32 a) then b else a) :: r) hp) : js_G p l e R s m args below meth c cells slots Q D cy ad x pc A (jI b :: jI a :: r) hp := by
  intro H locs ls g1 g2 g3 g4 g5
  have K := k H locs ls g1 g2 g3 g4 g5
  obtain ⟨hx, hb, hml, hown, hts, hK, hinj, ⟨hS0, hN⟩, hR1, hR2, hR3, hR4⟩ := C
  refine va_mmin hx hb (by rw [hml]; exact g1.1.symm) hown (hts _ (js_t hl rfl)) (hts _ (js_t (jn_m2 71 rfl) rfl)) (hts _ (js_t (jn_m1 12 rfl) rfl)) (hts _ (js_t (jn_m2 72 (by first | rfl | decide +kernel)) rfl)) (by omega) (by rw [js_sum]; omega) hR3 hR4 hd ?_
  have e1 : js_v ad (jI (bif decide (jm_w32 b < jm_w32 a) then b else a)) = .int (if Int32.ofInt b < Int32.ofInt a then Int32.ofInt b else Int32.ofInt a) := by
    by_cases q : jm_w32 b < jm_w32 a
    · rw [js_bif_t _ q, if_pos ((js_ltI b a).mpr q)]; rfl
    · rw [js_bif_f _ q, if_neg (fun w => q ((js_ltI b a).mp w))]; rfl
  rw [List.map_cons, e1] at K
  exact K
theorem js_ar2 {i : Instr} {nx pc' : Nat} {A' st st' : List jm_V} {hp' : jm_H} (C : js_Cx p R s m args c cells slots D cy ad x) (hd : decode (jn_y x).2.1 pc = .ok (i, 1)) (hnx : nx = pc + 1) (hg : jm_ar2 i nx A st hp = some (.inl (pc', A', st', hp'))) (k : js_G p l e R s m args below meth c cells slots Q D cy ad x pc' A' st' hp') : js_G p l e R s m args below meth c cells slots Q D cy ad x pc A st hp := by
  subst hnx
  unfold jm_ar2 at hg
  split at hg
  · rename_i b a r
    cases hz : jm_i2 i a b with
    | none => rw [hz] at hg; cases hg
    | some z => rw [hz] at hg; cases hg; exact js_i2 C hd hz k
  · rename_i b a r
    cases hz : jm_l2 i a b with
    | none => rw [hz] at hg; cases hg
    | some z => rw [hz] at hg; cases hg; exact js_l2 C hd hz k
  · rename_i b a r
    cases hz : jm_f2 i a b with
    | none => rw [hz] at hg; cases hg
    | some z => rw [hz] at hg; cases hg; exact js_f2 C hd hz k
  · cases hg
theorem js_ar2_no {i : Instr} {nx : Nat} {st : List jm_V} {o : Option jm_V ⊕ (Nat × List jm_V × List jm_V × Nat)} (hg : jm_ar2 i nx A st hp = some (.inr o)) : False := by
  unfold jm_ar2 at hg
  split at hg
  · split at hg <;> cases hg
  · split at hg <;> cases hg
  · split at hg <;> cases hg
  · cases hg
theorem js_ld_inv {t j nx : Nat} {st : List jm_V} {o : jm_O} (h : jm_ld t A j nx st hp = some o) : ∃ v, A[j]? = some v ∧ v ≠ jU ∧ o = .inl (nx, A, v :: st, hp) ∧ ((t = 0 ∧ ∃ z, v = jI z) ∨ (t = 1 ∧ ∃ z, v = jL z) ∨ (t = 2 ∧ ∃ z, v = jF z) ∨ (t = 3 ∧ ∃ z, v = jR z)) := by
  unfold jm_ld at h
  split at h
  · rename_i z hA
    cases hb : Nat.beq t 0 with
    | false => rw [hb] at h; cases h
    | true => rw [hb] at h; cases h; exact ⟨_, hA, (fun e => by cases e), rfl, Or.inl ⟨Nat.eq_of_beq_eq_true hb, _, rfl⟩⟩
  · rename_i z hA
    cases hb : Nat.beq t 1 with
    | false => rw [hb] at h; cases h
    | true => rw [hb] at h; cases h; exact ⟨_, hA, (fun e => by cases e), rfl, Or.inr (Or.inl ⟨Nat.eq_of_beq_eq_true hb, _, rfl⟩)⟩
  · rename_i z hA
    cases hb : Nat.beq t 2 with
    | false => rw [hb] at h; cases h
    | true => rw [hb] at h; cases h; exact ⟨_, hA, (fun e => by cases e), rfl, Or.inr (Or.inr (Or.inl ⟨Nat.eq_of_beq_eq_true hb, _, rfl⟩))⟩
  · rename_i z hA
    cases hb : Nat.beq t 3 with
    | false => rw [hb] at h; cases h
    | true => rw [hb] at h; cases h; exact ⟨_, hA, (fun e => by cases e), rfl, Or.inr (Or.inr (Or.inr ⟨Nat.eq_of_beq_eq_true hb, _, rfl⟩))⟩
  · cases h
theorem js_sv_inv {t j nx : Nat} {st : List jm_V} {o : jm_O} (h : jm_sv t A j nx st hp = some o) : ∃ v B r, st = v :: r ∧ o = .inl (nx, B, r, hp) ∧ ((t = 0 ∧ (∃ z, v = jI z) ∧ jm_so A j v = some B) ∨ (t = 1 ∧ (∃ z, v = jL z) ∧ jm_so2 A j v = some B) ∨ (t = 2 ∧ (∃ z, v = jF z) ∧ jm_so A j v = some B)) := by
  unfold jm_sv at h
  split at h
  · rename_i z r
    cases hb : Nat.beq t 0 with
    | false => rw [hb] at h; cases h
    | true =>
      rw [hb] at h
      cases hs : jm_so A j (jI z) with
      | none => rw [hs] at h; cases h
      | some B => rw [hs] at h; cases h; exact ⟨_, B, r, rfl, rfl, Or.inl ⟨Nat.eq_of_beq_eq_true hb, ⟨_, rfl⟩, hs⟩⟩
  · rename_i z r
    cases hb : Nat.beq t 1 with
    | false => rw [hb] at h; cases h
    | true =>
      rw [hb] at h
      cases hs : jm_so2 A j (jL z) with
      | none => rw [hs] at h; cases h
      | some B => rw [hs] at h; cases h; exact ⟨_, B, r, rfl, rfl, Or.inr (Or.inl ⟨Nat.eq_of_beq_eq_true hb, ⟨_, rfl⟩, hs⟩)⟩
  · rename_i z r
    cases hb : Nat.beq t 2 with
    | false => rw [hb] at h; cases h
    | true =>
      rw [hb] at h
      cases hs : jm_so A j (jF z) with
      | none => rw [hs] at h; cases h
      | some B => rw [hs] at h; cases h; exact ⟨_, B, r, rfl, rfl, Or.inr (Or.inr ⟨Nat.eq_of_beq_eq_true hb, ⟨_, rfl⟩, hs⟩)⟩
  · cases h
theorem js_ald_inv {t nx : Nat} {mk : Int → jm_V} {st : List jm_V} {o : jm_O} (h : jm_ald t mk nx A st hp = some o) : ∃ i q r n f, st = jI i :: jR q :: r ∧ jm_ar hp q t = some (n, f) ∧ (0 ≤ jm_w32 i ∧ jm_w32 i < n) ∧ o = .inl (nx, A, mk (f (jm_w32 i)) :: r, hp) := by
  unfold jm_ald at h
  split at h
  · rename_i i q r
    cases hs : jm_ar hp q t with
    | none => rw [hs] at h; cases h
    | some w =>
      obtain ⟨n, f⟩ := w
      rw [hs] at h
      dsimp only at h
      by_cases hr : 0 ≤ jm_w32 i ∧ jm_w32 i < n
      · rw [js_bif_t _ hr] at h; cases h; exact ⟨i, q, r, n, f, rfl, hs, hr, rfl⟩
      · rw [js_bif_f _ hr] at h; cases h
  · cases h
theorem js_ast_inv {t nx : Nat} {ok : jm_V → Option Int} {st : List jm_V} {o : jm_O} (h : jm_ast t ok nx A st hp = some o) : ∃ v i q r n z, st = v :: jI i :: jR q :: r ∧ jm_sh q = .inr (t, n) ∧ ok v = some z ∧ (0 ≤ jm_w32 i ∧ jm_w32 i < n) ∧ o = .inl (nx, A, r, jm_hs hp q (jm_w32 i) z) := by
  unfold jm_ast at h
  split at h
  · rename_i v i q r
    split at h
    · rename_i u n z hs hz
      cases hb : Nat.beq u t with
      | false => rw [hb] at h; cases h
      | true =>
        rw [hb, Bool.true_and] at h
        by_cases hr : 0 ≤ jm_w32 i ∧ jm_w32 i < n
        · rw [js_bif_t _ hr] at h; cases h; exact ⟨v, i, q, r, n, z, rfl, by rw [hs, Nat.eq_of_beq_eq_true hb], hz, hr, rfl⟩
        · rw [js_bif_f _ hr] at h; cases h
    · cases h
  · cases h
theorem js_kV_inv {nx : Nat} {v : Option jm_V} {st : List jm_V} {o : jm_O} (h : jm_kV v nx A st hp = some o) : ∃ w, v = some w ∧ o = .inl (nx, A, w :: st, hp) := by
  unfold jm_kV at h
  cases v with
  | none => cases h
  | some w => cases h; exact ⟨w, rfl, rfl⟩
theorem js_getf_inv {nx : Nat} {f : Option (Nat × Nat)} {st : List jm_V} {o : jm_O} (h : jm_getf f nx A st hp = some o) : ∃ ci j k r fs t v, f = some (ci, j) ∧ st = jR k :: r ∧ jm_sh k = .inl (ci, fs) ∧ fs[j]? = some t ∧ o = .inl (nx, A, v :: r, hp) ∧ ((∃ q, t = .inr q ∧ v = jR q) ∨ (t = .inl 1 ∧ v = jL (hp k j)) ∨ (t = .inl 10 ∧ v = jI 0) ∨ (∃ u, t = .inl u ∧ u ≠ 1 ∧ u ≠ 10 ∧ v = jI (hp k j))) := by
  unfold jm_getf at h
  cases f with
  | none => cases h
  | some f =>
    obtain ⟨ci, j⟩ := f
    dsimp only at h
    split at h
    · rename_i k r
      cases hs : jm_sh k with
      | inr w => rw [hs] at h; cases h
      | inl w =>
        obtain ⟨c0, fs⟩ := w
        rw [hs] at h
        dsimp only at h
        cases hb : Nat.beq c0 ci with
        | false => rw [hb] at h; cases h
        | true =>
          have hc := Nat.eq_of_beq_eq_true hb
          subst hc
          rw [hb] at h
          cases hj : fs[j]? with
          | none => rw [hj] at h; cases h
          | some t =>
            rw [hj] at h
            rcases t with u | q
            · dsimp only [cond] at h
              cases h1 : Nat.beq u 1 with
              | true =>
                rw [h1] at h; cases h
                have := Nat.eq_of_beq_eq_true h1
                subst this
                exact ⟨c0, j, k, r, fs, _, _, rfl, rfl, hs, hj, rfl, Or.inr (Or.inl ⟨rfl, rfl⟩)⟩
              | false =>
                rw [h1] at h
                cases h2 : Nat.beq u 10 with
                | true =>
                  rw [h2] at h; cases h
                  have := Nat.eq_of_beq_eq_true h2
                  subst this
                  exact ⟨c0, j, k, r, fs, _, _, rfl, rfl, hs, hj, rfl, Or.inr (Or.inr (Or.inl ⟨rfl, rfl⟩))⟩
                | false =>
                  rw [h2] at h; cases h
                  exact ⟨c0, j, k, r, fs, _, _, rfl, rfl, hs, hj, rfl, Or.inr (Or.inr (Or.inr ⟨u, rfl, (fun e => by rw [e] at h1; cases h1), (fun e => by rw [e] at h2; cases h2), rfl⟩))⟩
            · cases h; exact ⟨c0, j, k, r, fs, _, _, rfl, rfl, hs, hj, rfl, Or.inl ⟨q, rfl, rfl⟩⟩
    · cases h
theorem js_putf_inv {nx : Nat} {f : Option (Nat × Nat)} {st : List jm_V} {o : jm_O} (h : jm_putf f nx A st hp = some o) : ∃ ci j k r fs t v z, f = some (ci, j) ∧ st = v :: jR k :: r ∧ jm_sh k = .inl (ci, fs) ∧ fs[j]? = some (.inl t) ∧ o = .inl (nx, A, r, jm_hs hp k j z) ∧ ((t = 0 ∧ v = jI z) ∨ (t = 3 ∧ v = jI z ∧ (z = 0 ∨ z = 1)) ∨ (t = 1 ∧ v = jL z)) := by
  unfold jm_putf at h
  cases f with
  | none => cases h
  | some f =>
    obtain ⟨ci, j⟩ := f
    dsimp only at h
    split at h
    · rename_i v k r
      cases hs : jm_sh k with
      | inr w => rw [hs] at h; cases h
      | inl w =>
        obtain ⟨c0, fs⟩ := w
        rw [hs] at h
        dsimp only at h
        cases hb : Nat.beq c0 ci with
        | false => rw [hb] at h; cases h
        | true =>
          have hc := Nat.eq_of_beq_eq_true hb
          subst hc
          rw [hb] at h
          cases hj : fs[j]? with
          | none => rw [hj] at h; cases h
          | some t =>
            rw [hj] at h
            rcases t with u | q
            · rcases v with z | z | z | z | z
              · dsimp only [cond] at h
                cases h1 : (Nat.beq u 0 || (Nat.beq u 3 && (decide (z = 0) || decide (z = 1)))) with
                | false => rw [h1] at h; cases h
                | true =>
                  rw [h1] at h; cases h
                  refine ⟨c0, j, k, r, fs, u, _, z, rfl, rfl, hs, hj, rfl, ?_⟩
                  rcases (Bool.or_eq_true _ _).mp h1 with a | a
                  · exact Or.inl ⟨Nat.eq_of_beq_eq_true a, rfl⟩
                  · obtain ⟨a1, a2⟩ := (Bool.and_eq_true _ _).mp a
                    exact Or.inr (Or.inl ⟨Nat.eq_of_beq_eq_true a1, rfl, by simpa using a2⟩)
              · dsimp only [cond] at h
                cases h1 : Nat.beq u 1 with
                | false => rw [h1] at h; cases h
                | true =>
                  rw [h1] at h; cases h
                  exact ⟨c0, j, k, r, fs, u, _, z, rfl, rfl, hs, hj, rfl, Or.inr (Or.inr ⟨Nat.eq_of_beq_eq_true h1, rfl⟩)⟩
              · cases h
              · cases h
              · cases h
            · cases h
    · cases h
end Snd
