section Rows4
variable {p : Program} {l : Launch} {e : Env} {R : Room} {s : State} {m : MethodId} {args : Array Value} {below : List Frame} {meth : Method} {c : Code} {cells slots : Nat} {Q : State → Prop} {D : va_G} {cy : Nat → ClassId} {ad : Nat → Nat} {x pc : Nat} {A : List jm_V} {hp : jm_H}
theorem js_Sc_hs {k : Nat} {j v : Int} (hk : k < 78) (h : js_Sc ad hp s) : js_Sc ad (jm_hs hp k j v) s := by
  unfold js_Sc at *
  rw [js_hs_ne (show 85 ≠ k by omega), js_hs_ne (show 82 ≠ k by omega)]
  exact h
theorem js_upd {α : Type} {i : Int} {g : Int → α} {v : α} (h0 : 0 ≤ jm_w32 i) : (fun j : Nat => if j = (Int32.ofInt i).toNatClampNeg then v else g j) = (fun j : Nat => if (j : Int) = jm_w32 i then v else g j) := by
  have h1 := js_ix h0
  funext j
  by_cases hj : (j : Int) = jm_w32 i
  · rw [if_pos (by omega), if_pos hj]
  · rw [if_neg (by omega), if_neg hj]
theorem js_hsf {α : Type} (mk : Int → α) {q : Nat} {i z : Int} : (fun j : Nat => mk (jm_hs hp q i z q j)) = (fun j : Nat => if (j : Int) = i then mk z else mk (hp q j)) := by
  funext j
  rw [js_hs_eq]
  by_cases h : (j : Int) = i <;> simp [h]
theorem js_iast {r : List jm_V} {i n z : Int} {q : Nat} (C : js_Cx p R s m args c cells slots D cy ad x) (hd : decode (jn_y x).2.1 pc = .ok (.iastore, 1)) (hs : jm_sh q = .inr (0, n)) (hr : 0 ≤ jm_w32 i ∧ jm_w32 i < n) (k : js_G p l e R s m args below meth c cells slots Q D cy ad x (pc + 1) A r (jm_hs hp q (jm_w32 i) z)) : js_G p l e R s m args below meth c cells slots Q D cy ad x pc A (jI z :: jI i :: jR q :: r) hp := by
  intro H locs ls h1 h2 h3 h4 h5
  obtain ⟨hx, hb, hml, hown, hts, hK, hinj, ⟨hS0, hN⟩, hR⟩ := C
  have hq : q < 78 := js_lt_a hs (by decide)
  have ha : (js_ws cy ad hp)[q]? = some (ad q, .inl (cy 0, n.toNat, .inl (fun j => Int32.ofInt (hp q j)))) := by rw [js_ws_at hq, js_ce_i hs]
  refine va_iast hx hb hK h3 (js_D hinj) h4 q 0 ha rfl (js_in (js_rng hr)) hd (fun H1 locs1 g1 g2 g3 => ?_)
  rw [js_ws_set (j := jm_w32 i) (v := z) (by
    rw [js_ce_i hs, js_hsf (fun z => Int32.ofInt z)]
    unfold upd
    rw [js_upd (g := fun z => Int32.ofInt (hp q z)) hr.1])] at g1
  exact k H1 locs1 ls h1 h2 g1 g3 (js_Sc_hs hq h5)
theorem js_nz {z : Int} (h : z = 0 ∨ z = 1) : vp_nar .boolean (Int32.ofInt z) = Int32.ofInt z := by
  rcases h with rfl | rfl <;> rfl
theorem js_zast {r : List jm_V} {i n z : Int} {q : Nat} (C : js_Cx p R s m args c cells slots D cy ad x) (hd : decode (jn_y x).2.1 pc = .ok (.bastore, 1)) (hs : jm_sh q = .inr (3, n)) (hz : z = 0 ∨ z = 1) (hr : 0 ≤ jm_w32 i ∧ jm_w32 i < n) (k : js_G p l e R s m args below meth c cells slots Q D cy ad x (pc + 1) A r (jm_hs hp q (jm_w32 i) z)) : js_G p l e R s m args below meth c cells slots Q D cy ad x pc A (jI z :: jI i :: jR q :: r) hp := by
  intro H locs ls h1 h2 h3 h4 h5
  obtain ⟨hx, hb, hml, hown, hts, hK, hinj, ⟨hS0, hN⟩, hR⟩ := C
  have hq : q < 78 := js_lt_a hs (by decide)
  have ha : (js_ws cy ad hp)[q]? = some (ad q, .inl (cy 3, n.toNat, .inl (fun j => Int32.ofInt (hp q j)))) := by rw [js_ws_at hq, js_ce_z hs]
  refine va_zast hx hb hK h3 (js_D hinj) h4 q 3 ha rfl (js_in (js_rng hr)) hd (fun H1 locs1 g1 g2 g3 => ?_)
  rw [js_ws_set (j := jm_w32 i) (v := z) (by
    rw [js_ce_z hs, js_hsf (fun z => Int32.ofInt z), js_nz hz]
    unfold upd
    rw [js_upd (g := fun z => Int32.ofInt (hp q z)) hr.1])] at g1
  exact k H1 locs1 ls h1 h2 g1 g3 (js_Sc_hs hq h5)
theorem js_last {r : List jm_V} {i n z : Int} {q : Nat} (C : js_Cx p R s m args c cells slots D cy ad x) (hd : decode (jn_y x).2.1 pc = .ok (.lastore, 1)) (hs : jm_sh q = .inr (1, n)) (hr : 0 ≤ jm_w32 i ∧ jm_w32 i < n) (k : js_G p l e R s m args below meth c cells slots Q D cy ad x (pc + 1) A r (jm_hs hp q (jm_w32 i) z)) : js_G p l e R s m args below meth c cells slots Q D cy ad x pc A (jL z :: jI i :: jR q :: r) hp := by
  intro H locs ls h1 h2 h3 h4 h5
  obtain ⟨hx, hb, hml, hown, hts, hK, hinj, ⟨hS0, hN⟩, hR⟩ := C
  have hq : q < 78 := js_lt_a hs (by decide)
  have ha : (js_ws cy ad hp)[q]? = some (ad q, .inl (cy 1, n.toNat, .inr (.inl (fun j => Int64.ofInt (hp q j))))) := by rw [js_ws_at hq, js_ce_l hs]
  refine va_last hx hb hK h3 (js_D hinj) h4 q 1 ha rfl (js_in (js_rng hr)) hd (fun H1 locs1 g1 g2 g3 => ?_)
  rw [js_ws_set (j := jm_w32 i) (v := z) (by
    rw [js_ce_l hs, js_hsf (fun z => Int64.ofInt z)]
    first | unfold vp_updL | unfold vf_upd
    rw [js_upd (g := fun z => Int64.ofInt (hp q z)) hr.1])] at g1
  exact k H1 locs1 ls h1 h2 g1 g3 (js_Sc_hs hq h5)
theorem js_fast {r : List jm_V} {i n : Int} {z : Nat} {q : Nat} (C : js_Cx p R s m args c cells slots D cy ad x) (hd : decode (jn_y x).2.1 pc = .ok (.fastore, 1)) (hs : jm_sh q = .inr (2, n)) (hr : 0 ≤ jm_w32 i ∧ jm_w32 i < n) (k : js_G p l e R s m args below meth c cells slots Q D cy ad x (pc + 1) A r (jm_hs hp q (jm_w32 i) (z : Int))) : js_G p l e R s m args below meth c cells slots Q D cy ad x pc A (jF z :: jI i :: jR q :: r) hp := by
  intro H locs ls h1 h2 h3 h4 h5
  obtain ⟨hx, hb, hml, hown, hts, hK, hinj, ⟨hS0, hN⟩, hR⟩ := C
  have hq : q < 78 := js_lt_a hs (by decide)
  have ha : (js_ws cy ad hp)[q]? = some (ad q, .inl (cy 2, n.toNat, .inr (.inr (.inl (fun j => UInt32.ofNat (hp q j).toNat))))) := by rw [js_ws_at hq, js_ce_f hs]
  refine va_fast hx hb hK h3 (js_D hinj) h4 q 2 ha rfl (js_in (js_rng hr)) hd (fun H1 locs1 g1 g2 g3 => ?_)
  rw [js_ws_set (j := jm_w32 i) (v := (z : Int)) (by
    rw [js_ce_f hs, js_hsf (fun z => UInt32.ofNat z.toNat)]
    unfold vf_upd
    rw [js_upd (g := fun z => UInt32.ofNat (hp q z).toNat) hr.1]
    rfl)] at g1
  exact k H1 locs1 ls h1 h2 g1 g3 (js_Sc_hs hq h5)
/-- lengths of the world's arrays are no negative ones, tags are four -/
theorem js_tag {q t : Nat} {n : Int} (hq : q < 78) (hs : jm_sh q = .inr (t, n)) : t < 4 ∧ 0 ≤ n := by
  have hall : (List.range 78).all (fun k => match jm_sh k with | .inr (t, n) => Nat.blt t 4 && decide (0 ≤ n) | _ => true) = true := by decide +kernel
  have h9 := List.all_eq_true.mp hall q (List.mem_range.mpr hq)
  rw [hs] at h9
  simpa using h9
theorem js_ofNat {n : Int} (h : 0 ≤ n) : Int32.ofNat n.toNat = Int32.ofInt n := by
  rw [← Int32.ofInt_eq_ofNat]
  congr 1
  omega
theorem js_alen {r : List jm_V} {n : Int} {q : Nat} (C : js_Cx p R s m args c cells slots D cy ad x) (hd : decode (jn_y x).2.1 pc = .ok (.arraylength, 1)) (hk : jm_le hp q = some n) (k : js_G p l e R s m args below meth c cells slots Q D cy ad x (pc + 1) A (jI n :: r) hp) : js_G p l e R s m args below meth c cells slots Q D cy ad x pc A (jR q :: r) hp := by
  intro H locs ls h1 h2 h3 h4 h5
  have K := k H locs ls h1 h2 h3 h4 h5
  obtain ⟨hx, hb, hml, hown, hts, hK, hinj, ⟨hS0, hN⟩, hR⟩ := C
  unfold jm_le at hk
  cases hs : jm_sh q with
  | inl o => rw [hs] at hk; cases hk
  | inr o =>
    obtain ⟨u, n0⟩ := o
    rw [hs] at hk
    dsimp only at hk
    by_cases hq : q < 78
    · obtain ⟨ht, hn⟩ := js_tag hq hs
      have hu : Nat.beq u 11 = false := by
        cases hb : Nat.beq u 11 with
        | false => rfl
        | true => have := Nat.eq_of_beq_eq_true hb; omega
      have hv : Nat.blt u 50 = true := by simp only [Nat.blt_eq]; omega
      rw [hu, hv] at hk
      cases hk
      have hce : js_ce cy ad hp q = .inl (cy u, n.toNat, js_ar hp q u) := by unfold js_ce; rw [hs]
      have ha : (js_ws cy ad hp)[q]? = some (ad q, .inl (cy u, n.toNat, js_ar hp q u)) := by rw [js_ws_at hq, hce]
      have : u = 0 ∨ u = 1 ∨ u = 2 ∨ u = 3 := by omega
      rcases this with rfl | rfl | rfl | rfl
      · exact va_alen hx hb hK h3 q 0 ha (ty := .int) rfl (js_ofNat hn) hd K
      · exact va_alen hx hb hK h3 q 1 ha (ty := .long) rfl (js_ofNat hn) hd K
      · exact va_alen hx hb hK h3 q 2 ha (ty := .float) rfl (js_ofNat hn) hd K
      · exact va_alen hx hb hK h3 q 3 ha (ty := .boolean) rfl (js_ofNat hn) hd K
    · have : q = 78 ∨ q = 79 ∨ q = 80 ∨ q = 81 ∨ q = 82 ∨ q = 83 ∨ q = 84 := by
        by_cases h85 : q < 85
        · omega
        · have h9 : jm_sh q = .inr (99, 0) := by
            unfold jm_sh
            rw [List.getD_eq_getElem?_getD, List.getElem?_eq_none (by show 85 ≤ q; omega)]
            rfl
          rw [h9] at hs; cases hs; cases hk
      rcases this with rfl | rfl | rfl | rfl | rfl | rfl | rfl
      · cases hs; cases hk; exact va_tlen hx hb (hS0.2.1 78 (by omega) (by omega)) h4 rfl hd K
      · cases hs; cases hk; exact va_tlen hx hb (hS0.2.1 79 (by omega) (by omega)) h4 rfl hd K
      · cases hs; cases hk; exact va_tlen hx hb (hS0.2.1 80 (by omega) (by omega)) h4 rfl hd K
      · cases hs; cases hk; exact va_tlen hx hb (hS0.2.1 81 (by omega) (by omega)) h4 rfl hd K
      · cases hs; cases hk; obtain ⟨z1, z2, z3⟩ := h5; exact va_tlen hx hb z3 h4 (js_ofNat z1) hd K
      · cases hs
      · cases hs; cases hk; exact va_tlen hx hb hS0.2.2.2.2.2.2 h4 rfl hd K
/-- the shapes' objects are those of the classes -/
def js_shk : Bool := (List.range 78).all (fun k => match jm_sh k with
  | .inl (c, fs) => (match jn_cl[c]? with
    | some q => Nat.beq fs.length q.2.2 && (List.range fs.length).all (fun j => match fs[j]? with
      | some (.inl t) => decide (parseFieldDescriptor (q.2.1 j).2.2.1 = some (if t = 1 then .long else if t = 3 then .boolean else .int)) && !((q.2.1 j).2.2.2) && (Nat.beq t 0 || Nat.beq t 1 || Nat.beq t 3)
      | some (.inr _) => true
      | none => false)
    | none => false)
  | .inr _ => true)
theorem js_shk_ok : js_shk = true := by decide +kernel
theorem js_shape {k ci : Nat} {fs : List (Nat ⊕ Nat)} (hk : k < 78) (hs : jm_sh k = .inl (ci, fs)) : ∃ q, jn_cl[ci]? = some q ∧ fs.length = q.2.2 ∧ ∀ j t, fs[j]? = some (.inl t) → parseFieldDescriptor (q.2.1 j).2.2.1 = some (if t = 1 then .long else if t = 3 then .boolean else .int) ∧ (q.2.1 j).2.2.2 = false ∧ (t = 0 ∨ t = 1 ∨ t = 3) := by
  have h9 := List.all_eq_true.mp js_shk_ok k (List.mem_range.mpr hk)
  rw [hs] at h9
  dsimp only at h9
  cases hq : jn_cl[ci]? with
  | none => rw [hq] at h9; cases h9
  | some q =>
    rw [hq] at h9
    dsimp only at h9
    obtain ⟨a1, a2⟩ := (Bool.and_eq_true _ _).mp h9
    refine ⟨q, rfl, Nat.eq_of_beq_eq_true a1, fun j t hj => ?_⟩
    have hl : j < fs.length := (List.getElem?_eq_some_iff.mp hj).1
    have a3 := List.all_eq_true.mp a2 j (List.mem_range.mpr hl)
    rw [hj] at a3
    dsimp only at a3
    simp only [Bool.and_eq_true, decide_eq_true_eq, Bool.not_eq_true', Bool.or_eq_true] at a3
    refine ⟨a3.1.1, a3.1.2, ?_⟩
    rcases a3.2 with (b | b) | b
    · exact Or.inl (Nat.eq_of_beq_eq_true b)
    · exact Or.inr (Or.inl (Nat.eq_of_beq_eq_true b))
    · exact Or.inr (Or.inr (Nat.eq_of_beq_eq_true b))
theorem js_fs_at {k j : Nat} {fs : List (Nat ⊕ Nat)} {t : Nat ⊕ Nat} (h : fs[j]? = some t) : (js_fs ad hp k fs)[j]? = some (js_fv ad hp k j t) := by
  have hl : j < fs.length := (List.getElem?_eq_some_iff.mp h).1
  unfold js_fs
  rw [List.getElem?_map, List.getElem?_range hl]
  show some (js_fv ad hp k j (fs.getD j (.inl 0))) = _
  rw [List.getD_eq_getElem?_getD, h]
  rfl
theorem js_fs_len {k : Nat} {fs : List (Nat ⊕ Nat)} : (js_fs ad hp k fs).length = fs.length := by simp [js_fs]
theorem js_wsall (ci : Nat) (q : vw_C) (h : jn_cl[ci]? = some q) : ∀ w ∈ u_ws q.1 q.2.1 q.2.2, w ∈ lw_tbl := by
  match ci, h with
  | 0, h => cases h; exact jn_ws0
  | 1, h => cases h; exact jn_ws1
  | 2, h => cases h; exact jn_ws2
  | 3, h => cases h; exact jn_ws3
  | 4, h => cases h; exact jn_ws4
  | 5, h => cases h; exact jn_ws5
  | 6, h => cases h; exact jn_ws6
  | 7, h => cases h; exact jn_ws7
  | 8, h => cases h; exact jn_ws8
  | n + 9, h => simp [jn_cl] at h
theorem js_wsT (ci : Nat) (q : vw_C) (h : jn_cl[ci]? = some q) : ∀ w ∈ u_ws q.1 q.2.1 q.2.2, w ∈ js_T := by
  intro w hw
  refine js_t (js_wsall ci q h w hw) ?_
  obtain ⟨k, -, rfl⟩ := List.mem_map.mp hw
  unfold u_lay
  split <;> rfl
theorem js_tyall (ci : Nat) (q : vw_C) (h : jn_cl[ci]? = some q) : ∃ ty : Nat → FieldType, (∀ k, k < q.2.2 → parseFieldDescriptor (q.2.1 k).2.2.1 = some (ty k)) ∧ (∀ a, a < q.2.2 → ∀ b, b < q.2.2 → a ≠ b → (q.2.1 a).2.1 ≠ (q.2.1 b).2.1) := by
  match ci, h with
  | 0, h => cases h; exact ⟨_, jn_tyok0, jn_nm0⟩
  | 1, h => cases h; exact ⟨_, jn_tyok1, jn_nm1⟩
  | 2, h => cases h; exact ⟨_, jn_tyok2, jn_nm2⟩
  | 3, h => cases h; exact ⟨_, jn_tyok3, jn_nm3⟩
  | 4, h => cases h; exact ⟨_, jn_tyok4, jn_nm4⟩
  | 5, h => cases h; exact ⟨_, jn_tyok5, jn_nm5⟩
  | 6, h => cases h; exact ⟨_, jn_tyok6, jn_nm6⟩
  | 7, h => cases h; exact ⟨_, jn_tyok7, jn_nm7⟩
  | 8, h => cases h; exact ⟨_, jn_tyok8, jn_nm8⟩
  | n + 9, h => simp [jn_cl] at h
/-- a field of an object of the world is read -/
theorem js_getf {r : List jm_V} {idx ci j k : Nat} {fs : List (Nat ⊕ Nat)} {t : Nat ⊕ Nat} {v : jm_V} (C : js_Cx p R s m args c cells slots D cy ad x) (hd : decode (jn_y x).2.1 pc = .ok (.getfield idx, 3)) (hf : jm_pf jm_FL (jm_me x).1 idx = some (ci, j)) (hk : k < 78) (hs : jm_sh k = .inl (ci, fs)) (ht : fs[j]? = some t) (hv : js_fv ad hp k j t = js_v ad v) (kk : js_G p l e R s m args below meth c cells slots Q D cy ad x (pc + 3) A (v :: r) hp) : js_G p l e R s m args below meth c cells slots Q D cy ad x pc A (jR k :: r) hp := by
  intro H locs ls h1 h2 h3 h4 h5
  have K := kk H locs ls h1 h2 h3 h4 h5
  obtain ⟨hx, hb, hml, hown, hts, hK, hinj, ⟨hS0, hN⟩, hR⟩ := C
  have hF := jn_pF (jm_me x).1 _ (jn_pf_mem hf)
  obtain ⟨⟨Cn, T, N⟩, hcl, hlen, -⟩ := js_shape hk hs
  unfold jn_okF at hF
  rw [hcl] at hF
  obtain ⟨hj, hdecl, hl⟩ := hF
  dsimp only at hj hdecl hl
  have ha : (js_ws cy ad hp)[k]? = some (ad k, .inr (ci, js_fs ad hp k fs)) := by rw [js_ws_at hk, js_ce_o hs]
  have hat : (js_fs ad hp k fs)[j]? = some (js_v ad v) := by rw [js_fs_at ht, hv]
  rcases hl with hl | ⟨host, hl⟩
  · exact va_get hx hb hts (js_wsT ci _ hcl) hown hK h3 k ha hcl j hj (hts _ (js_t hl rfl)) (fun y hy => by rw [hdecl] at hy; exact hy) hat hd K
  · exact va_getN hx hb hts (js_wsT ci _ hcl) hown hK h3 k ha hcl j hj (hts _ (js_t hl rfl)) (fun y hy => by rw [hdecl] at hy; exact hy) hat hd K
theorem js_getS {r : List jm_V} {idx j : Nat} {v : jm_V} (C : js_Cx p R s m args c cells slots D cy ad x) (hd : decode (jn_y x).2.1 pc = .ok (.getfield idx, 3)) (hf : jm_pf jm_FL (jm_me x).1 idx = some (10, j)) (hv : (j = 0 ∧ v = jI 0) ∨ (j = 1 ∧ v = jR 84)) (kk : js_G p l e R s m args below meth c cells slots Q D cy ad x (pc + 3) A (v :: r) hp) : js_G p l e R s m args below meth c cells slots Q D cy ad x pc A (jR 83 :: r) hp := by
  intro H locs ls h1 h2 h3 h4 h5
  have K := kk H locs ls h1 h2 h3 h4 h5
  obtain ⟨hx, hb, hml, hown, hts, hK, hinj, ⟨hS0, hN⟩, hR⟩ := C
  have hF := jn_pF (jm_me x).1 _ (jn_pf_mem hf)
  obtain ⟨-, hF⟩ : (10 : Nat) = 10 ∧ ((j = 0 ∧ Cond.fieldLink (jn_own (jm_me x).1) idx "java/lang/String" "coder" "B" ∈ lw_tbl) ∨ (j = 1 ∧ Cond.fieldLink (jn_own (jm_me x).1) idx "java/lang/String" "value" "[B" ∈ lw_tbl)) := hF
  rcases hv with ⟨rfl, rfl⟩ | ⟨rfl, rfl⟩
  · rcases hF with ⟨-, hF⟩ | ⟨h9, -⟩
    · exact vk_getf hx hb hS0.2.2.2.2.1 h4 hown (hts _ (js_t hF rfl)) (fun _ h => h) hd K
    · cases h9
  · rcases hF with ⟨h9, -⟩ | ⟨-, hF⟩
    · cases h9
    · exact vk_getf hx hb hS0.2.2.2.2.2.1 h4 hown (hts _ (js_t hF rfl)) (fun _ h => h) hd K
theorem js_fs_set {k j : Nat} {fs : List (Nat ⊕ Nat)} {t : Nat} {z : Int} (h : fs[j]? = some (.inl t)) : (js_fs ad hp k fs).set j (if t = 1 then .long (Int64.ofInt z) else .int (Int32.ofInt z)) = js_fs ad (jm_hs hp k j z) k fs := by
  have hl : j < fs.length := (List.getElem?_eq_some_iff.mp h).1
  apply List.ext_getElem?
  intro i
  by_cases hi : i < fs.length
  · obtain ⟨u, hu⟩ : ∃ u, fs[i]? = some u := ⟨fs[i], List.getElem?_eq_getElem hi⟩
    rw [js_fs_at hu]
    by_cases hij : i = j
    · subst hij
      rw [List.getElem?_set_self (by rw [js_fs_len]; exact hi)]
      rw [h] at hu
      cases hu
      unfold js_fv
      dsimp only
      rw [js_hs_eq, if_pos rfl]
    · rw [List.getElem?_set_ne (fun e => hij e.symm), js_fs_at hu]
      rcases u with u | u
      · unfold js_fv
        dsimp only
        rw [js_hs_eq, if_neg (show ¬ ((i : Int) = (j : Int)) by omega)]
      · rfl
  · rw [List.getElem?_eq_none (by rw [List.length_set, js_fs_len]; omega), List.getElem?_eq_none (by rw [js_fs_len]; omega)]
/-- a field of an object of the world is written -/
theorem js_putf {r : List jm_V} {idx ci j k t : Nat} {fs : List (Nat ⊕ Nat)} {z : Int} {v : jm_V} (C : js_Cx p R s m args c cells slots D cy ad x) (hd : decode (jn_y x).2.1 pc = .ok (.putfield idx, 3)) (hf : jm_pf jm_FL (jm_me x).1 idx = some (ci, j)) (hk : k < 78) (hs : jm_sh k = .inl (ci, fs)) (ht : fs[j]? = some (.inl t)) (hv : (t = 0 ∧ v = jI z) ∨ (t = 3 ∧ v = jI z ∧ (z = 0 ∨ z = 1)) ∨ (t = 1 ∧ v = jL z)) (kk : js_G p l e R s m args below meth c cells slots Q D cy ad x (pc + 3) A r (jm_hs hp k j z)) : js_G p l e R s m args below meth c cells slots Q D cy ad x pc A (v :: jR k :: r) hp := by
  intro H locs ls h1 h2 h3 h4 h5
  obtain ⟨hx, hb, hml, hown, hts, hK, hinj, ⟨hS0, hN⟩, hR⟩ := C
  have hF := jn_pF (jm_me x).1 _ (jn_pf_mem hf)
  obtain ⟨⟨Cn, T, N⟩, hcl, hlen, hty⟩ := js_shape hk hs
  obtain ⟨d1, d2, -⟩ := hty j t ht
  dsimp only at d1 d2
  unfold jn_okF at hF
  rw [hcl] at hF
  obtain ⟨hj, hdecl, hl⟩ := hF
  dsimp only at hj hdecl hl
  obtain ⟨ty0, hty0, hnm⟩ := js_tyall ci _ hcl
  have ha : (js_ws cy ad hp)[k]? = some (ad k, .inr (ci, js_fs ad hp k fs)) := by rw [js_ws_at hk, js_ce_o hs]
  have hval : js_v ad v = (if t = 1 then .long (Int64.ofInt z) else .int (Int32.ofInt z)) := by
    rcases hv with ⟨rfl, rfl⟩ | ⟨rfl, rfl, -⟩ | ⟨rfl, rfl⟩ <;> rfl
  have hn : narrow (if t = 1 then .long else if t = 3 then .boolean else .int) (js_v ad v) = js_v ad v := by
    rcases hv with ⟨rfl, rfl⟩ | ⟨rfl, rfl, rfl | rfl⟩ | ⟨rfl, rfl⟩ <;> rfl
  have hfit : fits (if t = 1 then .long else if t = 3 then .boolean else .int) (js_v ad v) = true := by
    rcases hv with ⟨rfl, rfl⟩ | ⟨rfl, rfl, rfl | rfl⟩ | ⟨rfl, rfl⟩ <;> rfl
  have hlj : j < (js_fs ad hp k fs).length := by rw [js_fs_len]; exact (List.getElem?_eq_some_iff.mp ht).1
  have fin : ∀ (H1 : Heap) (locs1 : List Loc), va_P D jn_cl ((js_ws cy ad hp).set k (ad k, .inr (ci, (js_fs ad hp k fs).set j (js_v ad v)))) H1 → va_S (js_A ad) s.heap H1 locs1 → W p l e R s m args below meth c H1 locs1 cells slots Q (F0 m (pc + 3) ls (r.map (js_v ad))) := by
    intro H1 locs1 g1 g3
    rw [js_ws_set (j := (j : Int)) (v := z) (by rw [js_ce_o hs, hval, js_fs_set ht])] at g1
    exact kk H1 locs1 ls h1 h2 g1 g3 (js_Sc_hs hk h5)
  rcases hl with hl | ⟨host, hl⟩
  · exact va_put hx hb hts (js_wsT ci _ hcl) ty0 hty0 hnm hown hK h3 (js_D hinj) h4 k ha hcl j hj (hts _ (js_t hl rfl)) (fun y hy => by rw [hdecl] at hy; exact hy) d2 d1 hn hfit hlj hd (fun H1 locs1 g1 g2 g3 => fin H1 locs1 g1 g3)
  · exact va_putN hx hb hts (js_wsT ci _ hcl) ty0 hty0 hnm hown hK h3 (js_D hinj) h4 k ha hcl j hj (hts _ (js_t hl rfl)) (fun y hy => by rw [hdecl] at hy; exact hy) d2 d1 hn hfit hlj hd (fun H1 locs1 g1 g2 g3 => fin H1 locs1 g1 g3)
/-- statics -/
theorem js_gets {r : List jm_V} {idx : Nat} {v : jm_V} (C : js_Cx p R s m args c cells slots D cy ad x) (hd : decode (jn_y x).2.1 pc = .ok (.getstatic idx, 3)) (hf : jm_pf jm_ST (jm_me x).1 idx = some v) (kk : js_G p l e R s m args below meth c cells slots Q D cy ad x (pc + 3) A (v :: r) hp) : js_G p l e R s m args below meth c cells slots Q D cy ad x pc A r hp := by
  intro H locs ls h1 h2 h3 h4 h5
  have K := kk H locs ls h1 h2 h3 h4 h5
  obtain ⟨hx, hb, hml, hown, hts, hK, hinj, ⟨hS0, hN⟩, hR⟩ := C
  obtain ⟨Cn, n, d, hl, hm⟩ := jn_pS (jm_me x).1 _ (jn_pf_mem hf)
  exact va_gets hx hb (hS0.1 _ hm) h4 hown (hts _ (js_t hl rfl)) (fun _ h => h) hd K
/-- ldc_w of a float constant -/
theorem js_ldcwF {T : State} {locs : List Loc} (X : Stand p l e R s m args below meth c T locs cells slots) (hexec : p.tables.exec = Jvm.exec) {own : String} {index : Nat} {v : UInt32} (hown : s.vm.findClass own = some m.cls)
    (hconst : (Cond.constantFloat own index v).before args s = true) {g : JFrame} (hg : g.method = m) (hdg : decode c.code g.pc = .ok (.ldc_w index, 3)) :
    ∀ target, Steps p.tables e below (T.setTop { g with pc := g.pc + 3, stack := .float v :: g.stack }) target → Steps p.tables e below (T.setTop g) target := by
  obtain ⟨k, cf, hk, hcf, hcp⟩ := Cond.constantFloat_spec hown hconst
  obtain ⟨k', hk', he⟩ := X.warmed.alike.2.2 _ _ hk
  intro target hrest
  subst hg
  jvm_step X.here [hexec, hdg, ldc_w.wp_float (s := T) (f := g) X.here.top hk' (by rw [he]; exact hcf) hcp]
  exact hrest
theorem js_ldc {r : List jm_V} {idx : Nat} {v : jm_V} (C : js_Cx p R s m args c cells slots D cy ad x) (hd : decode (jn_y x).2.1 pc = .ok (.ldc idx, 2)) (hf : jm_k1 (jm_pf jm_CS (jm_me x).1 idx) = some v) (kk : js_G p l e R s m args below meth c cells slots Q D cy ad x (pc + 2) A (v :: r) hp) : js_G p l e R s m args below meth c cells slots Q D cy ad x pc A r hp := by
  intro H locs ls h1 h2 h3 h4 h5
  have K := kk H locs ls h1 h2 h3 h4 h5
  obtain ⟨hx, hb, hml, hown, hts, hK, hinj, ⟨hS0, hN⟩, hR⟩ := C
  cases hq : jm_pf jm_CS (jm_me x).1 idx with
  | none => rw [hq] at hf; cases hf
  | some w =>
    rw [hq] at hf
    have hc := jn_pC (jm_me x).1 _ (jn_pf_mem hq)
    rcases w with z | z | z | z | z
    · cases hf; exact lv_ldc hx hb hown (hts _ (js_t hc rfl)) hd K
    · cases hf
    · cases hf; exact lv_ldcf hx hb hown (hts _ (js_t hc rfl)) hd K
    · cases hf
      obtain ⟨c1, c2, c3⟩ := hc
      dsimp only at c2 c3
      subst c2; subst c3
      rw [c1] at hown
      exact va_ldcS hx hb hown hS0.2.2.1 hd K
    · cases hf
theorem js_ldc_w {r : List jm_V} {idx : Nat} {v : jm_V} (C : js_Cx p R s m args c cells slots D cy ad x) (hd : decode (jn_y x).2.1 pc = .ok (.ldc_w idx, 3)) (hf : jm_k3 (jm_pf jm_CS (jm_me x).1 idx) = some v) (kk : js_G p l e R s m args below meth c cells slots Q D cy ad x (pc + 3) A (v :: r) hp) : js_G p l e R s m args below meth c cells slots Q D cy ad x pc A r hp := by
  intro H locs ls h1 h2 h3 h4 h5
  have K := kk H locs ls h1 h2 h3 h4 h5
  obtain ⟨hx, hb, hml, hown, hts, hK, hinj, ⟨hS0, hN⟩, hR⟩ := C
  cases hq : jm_pf jm_CS (jm_me x).1 idx with
  | none => rw [hq] at hf; cases hf
  | some w =>
    rw [hq] at hf
    have hc := jn_pC (jm_me x).1 _ (jn_pf_mem hq)
    rcases w with z | z | z | z | z
    · cases hf; exact lv_ldcw hx hb hown (hts _ (js_t hc rfl)) hd K
    · cases hf
    · cases hf
      intro T hT X
      obtain ⟨t, a1, b1⟩ := K T hT X
      exact ⟨t, js_ldcwF X hx hown (hts _ (js_t hc rfl)) (g := F0 m pc ls (r.map (js_v ad))) rfl (by rw [hb]; exact hd) t a1, b1⟩
    · cases hf
    · cases hf
theorem js_ldc2 {r : List jm_V} {idx : Nat} {v : jm_V} (C : js_Cx p R s m args c cells slots D cy ad x) (hd : decode (jn_y x).2.1 pc = .ok (.ldc2_w idx, 3)) (hf : jm_k2 (jm_pf jm_CS (jm_me x).1 idx) = some v) (kk : js_G p l e R s m args below meth c cells slots Q D cy ad x (pc + 3) A (v :: r) hp) : js_G p l e R s m args below meth c cells slots Q D cy ad x pc A r hp := by
  intro H locs ls h1 h2 h3 h4 h5
  have K := kk H locs ls h1 h2 h3 h4 h5
  obtain ⟨hx, hb, hml, hown, hts, hK, hinj, ⟨hS0, hN⟩, hR⟩ := C
  cases hq : jm_pf jm_CS (jm_me x).1 idx with
  | none => rw [hq] at hf; cases hf
  | some w =>
    rw [hq] at hf
    have hc := jn_pC (jm_me x).1 _ (jn_pf_mem hq)
    rcases w with z | z | z | z | z
    · cases hf
    · cases hf; exact lv_ldc2 hx hb hown (hts _ (js_t hc rfl)) hd K
    · cases hf
    · cases hf
    · cases hf
end Rows4
