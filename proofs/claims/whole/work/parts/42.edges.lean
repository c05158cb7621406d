/-! edges and what is gone, as bits -/
theorem jI32_r (z : Int32) : jR32 z.toInt := ⟨Int32.le_toInt _, by have := Int32.toInt_lt z; omega⟩
def jbit (v w : Int) : Bool := decide ((Int32.ofInt (Int32.ofInt v >>> (Int32.ofInt w &&& 31)).toInt &&& Int32.ofInt 1).toInt = 1)
def jeb (a b c d : Bool) : Int := jb (d && !b) + 2 * jb (c && !d) + 4 * jb (a && !c) + 8 * jb (b && !a)
theorem jbit_jeb : ∀ (w : Fin 4) (a b c d : Bool), jbit (jeb a b c d) (w.val : Int) = jbo w a b c d := by decide +kernel
theorem jeb_r (a b c d : Bool) : 0 ≤ jeb a b c d ∧ jeb a b c d ≤ 15 := by cases a <;> cases b <;> cases c <;> cases d <;> decide
theorem jbit_0 : ∀ w : Fin 4, jbit 0 (w.val : Int) = false := by decide +kernel
def jor (v w : Int) : Int := (Int32.ofInt v ||| Int32.ofInt (Int32.ofInt 1 <<< (Int32.ofInt w &&& 31)).toInt).toInt
theorem jor_b : ∀ (v : Fin 16) (w u : Fin 4), jbit (jor (v.val : Int) (w.val : Int)) (u.val : Int) = (jbit (v.val : Int) (u.val : Int) || decide (u = w)) := by decide +kernel
theorem jor_rb : ∀ (v : Fin 16) (w : Fin 4), 0 ≤ jor (v.val : Int) (w.val : Int) ∧ jor (v.val : Int) (w.val : Int) ≤ 15 := by decide +kernel
theorem jv16 {v : Int} (h0 : 0 ≤ v) (h1 : v ≤ 15) : ∃ f : Fin 16, v = (f.val : Int) := ⟨⟨v.toNat, by omega⟩, by dsimp only; omega⟩
theorem jor_bit {v w u : Int} (h0 : 0 ≤ v) (h1 : v ≤ 15) (w0 : 0 ≤ w) (w1 : w ≤ 3) (u0 : 0 ≤ u) (u1 : u ≤ 3) : jbit (jor v w) u = (jbit v u || decide (u = w)) := by
  obtain ⟨f, rfl⟩ := jv16 h0 h1
  obtain ⟨g, rfl⟩ := jw4 w0 w1
  obtain ⟨e, rfl⟩ := jw4 u0 u1
  rw [jor_b]
  have : (e = g) ↔ ((e.val : Int) = (g.val : Int)) := ⟨fun h => by rw [h], fun h => Fin.ext (by omega)⟩
  simp only [this]
theorem jor_r {v w : Int} (h0 : 0 ≤ v) (h1 : v ≤ 15) (w0 : 0 ≤ w) (w1 : w ≤ 3) : 0 ≤ jor v w ∧ jor v w ≤ 15 := by
  obtain ⟨f, rfl⟩ := jv16 h0 h1
  obtain ⟨g, rfl⟩ := jw4 w0 w1
  exact jor_rb f g
/-- two of six by six -/
theorem j66 {x y x' y' : Int} (h : y * 6 + x = y' * 6 + x') (h0 : 0 ≤ x) (h1 : x ≤ 5) (g0 : 0 ≤ x') (g1 : x' ≤ 5) : x = x' ∧ y = y' := by omega
theorem c_o_begins_29 (hp : jm_H) (x y w : Int) (hx : 0 ≤ x ∧ x ≤ 5) (hy : 0 ≤ y ∧ y ≤ 5) (hw : 0 ≤ w ∧ w ≤ 3) : jm_Ev 50 0 [jR 29, jI x, jI y, jI w, jU] [] hp (jK (some (jI (jb (jbit (hp 29 (y * 6 + x)) w)))) hp) := by
  refine jm_Ev.bl 7 (pc' := 9) (A' := [jR 29, jI x, jI y, jI w, jI ((y * 6) + x)]) (st' := [jI x]) (hp' := hp) rfl ?_
  refine jE_if_lt rfl (by omega) (fun c9 => ?_) (fun c9 => ?_)
  · omega
  · refine jm_Ev.bl 1 (pc' := 13) (A' := [jR 29, jI x, jI y, jI w, jI ((y * 6) + x)]) (st' := [jI y]) (hp' := hp) rfl ?_
    refine jE_if_lt rfl (by omega) (fun c13 => ?_) (fun c13 => ?_)
    · omega
    · refine jm_Ev.bl 2 (pc' := 19) (A' := [jR 29, jI x, jI y, jI w, jI ((y * 6) + x)]) (st' := [jI 6, jI x]) (hp' := hp) rfl ?_
      refine jE_icmp_ge rfl (by omega) (by omega) (fun c19 => ?_) (fun c19 => ?_)
      · omega
      · refine jm_Ev.bl 3 (pc' := 26) (A' := [jR 29, jI x, jI y, jI w, jI ((y * 6) + x)]) (st' := [jI 36, jI ((y * 6) + x)]) (hp' := hp) rfl ?_
        refine jE_icmp_ge rfl (by omega) (by omega) (fun c26 => ?_) (fun c26 => ?_)
        · omega
        · refine jm_Ev.bl 2 (pc' := 32) (A' := [jR 29, jI x, jI y, jI w, jI ((y * 6) + x)]) (st' := [jI ((y * 6) + x), jR 29]) (hp' := hp) rfl ?_
          refine jE_iald (n := 36) (f := hp 29) rfl rfl (by omega) ?_
          refine jm_Ev.bl 5 (pc' := 38) (A' := [jR 29, jI x, jI y, jI w, jI ((y * 6) + x)]) (st' := [jI 1, jI ((Int32.ofInt ((Int32.ofInt (hp 29 ((y * 6) + x)) >>> (Int32.ofInt w &&& 31)).toInt) &&& Int32.ofInt 1).toInt)]) (hp' := hp) rfl ?_
          refine jE_icmp_ne rfl (by first | exact jI32_r _ | omega) (by first | exact jI32_r _ | omega) (fun c38 => ?_) (fun c38 => ?_)
          · refine jm_Ev.bl 1 (pc' := 46) (A' := [jR 29, jI x, jI y, jI w, jI ((y * 6) + x)]) (st' := [jI 0]) (hp' := hp) rfl ?_
            exact jE_ret rfl ⟨jr0 c38, rfl⟩
          · refine jm_Ev.bl 2 (pc' := 46) (A' := [jR 29, jI x, jI y, jI w, jI ((y * 6) + x)]) (st' := [jI 1]) (hp' := hp) rfl ?_
            exact jE_ret rfl ⟨jr1 c38, rfl⟩
theorem c_o_begins_30 (hp : jm_H) (x y w : Int) (hx : 0 ≤ x ∧ x ≤ 5) (hy : 0 ≤ y ∧ y ≤ 5) (hw : 0 ≤ w ∧ w ≤ 3) : jm_Ev 50 0 [jR 30, jI x, jI y, jI w, jU] [] hp (jK (some (jI (jb (jbit (hp 30 (y * 6 + x)) w)))) hp) := by
  refine jm_Ev.bl 7 (pc' := 9) (A' := [jR 30, jI x, jI y, jI w, jI ((y * 6) + x)]) (st' := [jI x]) (hp' := hp) rfl ?_
  refine jE_if_lt rfl (by omega) (fun c9 => ?_) (fun c9 => ?_)
  · omega
  · refine jm_Ev.bl 1 (pc' := 13) (A' := [jR 30, jI x, jI y, jI w, jI ((y * 6) + x)]) (st' := [jI y]) (hp' := hp) rfl ?_
    refine jE_if_lt rfl (by omega) (fun c13 => ?_) (fun c13 => ?_)
    · omega
    · refine jm_Ev.bl 2 (pc' := 19) (A' := [jR 30, jI x, jI y, jI w, jI ((y * 6) + x)]) (st' := [jI 6, jI x]) (hp' := hp) rfl ?_
      refine jE_icmp_ge rfl (by omega) (by omega) (fun c19 => ?_) (fun c19 => ?_)
      · omega
      · refine jm_Ev.bl 3 (pc' := 26) (A' := [jR 30, jI x, jI y, jI w, jI ((y * 6) + x)]) (st' := [jI 36, jI ((y * 6) + x)]) (hp' := hp) rfl ?_
        refine jE_icmp_ge rfl (by omega) (by omega) (fun c26 => ?_) (fun c26 => ?_)
        · omega
        · refine jm_Ev.bl 2 (pc' := 32) (A' := [jR 30, jI x, jI y, jI w, jI ((y * 6) + x)]) (st' := [jI ((y * 6) + x), jR 30]) (hp' := hp) rfl ?_
          refine jE_iald (n := 36) (f := hp 30) rfl rfl (by omega) ?_
          refine jm_Ev.bl 5 (pc' := 38) (A' := [jR 30, jI x, jI y, jI w, jI ((y * 6) + x)]) (st' := [jI 1, jI ((Int32.ofInt ((Int32.ofInt (hp 30 ((y * 6) + x)) >>> (Int32.ofInt w &&& 31)).toInt) &&& Int32.ofInt 1).toInt)]) (hp' := hp) rfl ?_
          refine jE_icmp_ne rfl (by first | exact jI32_r _ | omega) (by first | exact jI32_r _ | omega) (fun c38 => ?_) (fun c38 => ?_)
          · refine jm_Ev.bl 1 (pc' := 46) (A' := [jR 30, jI x, jI y, jI w, jI ((y * 6) + x)]) (st' := [jI 0]) (hp' := hp) rfl ?_
            exact jE_ret rfl ⟨jr0 c38, rfl⟩
          · refine jm_Ev.bl 2 (pc' := 46) (A' := [jR 30, jI x, jI y, jI w, jI ((y * 6) + x)]) (st' := [jI 1]) (hp' := hp) rfl ?_
            exact jE_ret rfl ⟨jr1 c38, rfl⟩
theorem c_o_begins_52 (hp : jm_H) (x y w : Int) (hx : 0 ≤ x ∧ x ≤ 5) (hy : 0 ≤ y ∧ y ≤ 5) (hw : 0 ≤ w ∧ w ≤ 3) : jm_Ev 50 0 [jR 52, jI x, jI y, jI w, jU] [] hp (jK (some (jI (jb (jbit (hp 52 (y * 6 + x)) w)))) hp) := by
  refine jm_Ev.bl 7 (pc' := 9) (A' := [jR 52, jI x, jI y, jI w, jI ((y * 6) + x)]) (st' := [jI x]) (hp' := hp) rfl ?_
  refine jE_if_lt rfl (by omega) (fun c9 => ?_) (fun c9 => ?_)
  · omega
  · refine jm_Ev.bl 1 (pc' := 13) (A' := [jR 52, jI x, jI y, jI w, jI ((y * 6) + x)]) (st' := [jI y]) (hp' := hp) rfl ?_
    refine jE_if_lt rfl (by omega) (fun c13 => ?_) (fun c13 => ?_)
    · omega
    · refine jm_Ev.bl 2 (pc' := 19) (A' := [jR 52, jI x, jI y, jI w, jI ((y * 6) + x)]) (st' := [jI 6, jI x]) (hp' := hp) rfl ?_
      refine jE_icmp_ge rfl (by omega) (by omega) (fun c19 => ?_) (fun c19 => ?_)
      · omega
      · refine jm_Ev.bl 3 (pc' := 26) (A' := [jR 52, jI x, jI y, jI w, jI ((y * 6) + x)]) (st' := [jI 36, jI ((y * 6) + x)]) (hp' := hp) rfl ?_
        refine jE_icmp_ge rfl (by omega) (by omega) (fun c26 => ?_) (fun c26 => ?_)
        · omega
        · refine jm_Ev.bl 2 (pc' := 32) (A' := [jR 52, jI x, jI y, jI w, jI ((y * 6) + x)]) (st' := [jI ((y * 6) + x), jR 52]) (hp' := hp) rfl ?_
          refine jE_iald (n := 36) (f := hp 52) rfl rfl (by omega) ?_
          refine jm_Ev.bl 5 (pc' := 38) (A' := [jR 52, jI x, jI y, jI w, jI ((y * 6) + x)]) (st' := [jI 1, jI ((Int32.ofInt ((Int32.ofInt (hp 52 ((y * 6) + x)) >>> (Int32.ofInt w &&& 31)).toInt) &&& Int32.ofInt 1).toInt)]) (hp' := hp) rfl ?_
          refine jE_icmp_ne rfl (by first | exact jI32_r _ | omega) (by first | exact jI32_r _ | omega) (fun c38 => ?_) (fun c38 => ?_)
          · refine jm_Ev.bl 1 (pc' := 46) (A' := [jR 52, jI x, jI y, jI w, jI ((y * 6) + x)]) (st' := [jI 0]) (hp' := hp) rfl ?_
            exact jE_ret rfl ⟨jr0 c38, rfl⟩
          · refine jm_Ev.bl 2 (pc' := 46) (A' := [jR 52, jI x, jI y, jI w, jI ((y * 6) + x)]) (st' := [jI 1]) (hp' := hp) rfl ?_
            exact jE_ret rfl ⟨jr1 c38, rfl⟩
theorem c_o_begins_53 (hp : jm_H) (x y w : Int) (hx : 0 ≤ x ∧ x ≤ 5) (hy : 0 ≤ y ∧ y ≤ 5) (hw : 0 ≤ w ∧ w ≤ 3) : jm_Ev 50 0 [jR 53, jI x, jI y, jI w, jU] [] hp (jK (some (jI (jb (jbit (hp 53 (y * 6 + x)) w)))) hp) := by
  refine jm_Ev.bl 7 (pc' := 9) (A' := [jR 53, jI x, jI y, jI w, jI ((y * 6) + x)]) (st' := [jI x]) (hp' := hp) rfl ?_
  refine jE_if_lt rfl (by omega) (fun c9 => ?_) (fun c9 => ?_)
  · omega
  · refine jm_Ev.bl 1 (pc' := 13) (A' := [jR 53, jI x, jI y, jI w, jI ((y * 6) + x)]) (st' := [jI y]) (hp' := hp) rfl ?_
    refine jE_if_lt rfl (by omega) (fun c13 => ?_) (fun c13 => ?_)
    · omega
    · refine jm_Ev.bl 2 (pc' := 19) (A' := [jR 53, jI x, jI y, jI w, jI ((y * 6) + x)]) (st' := [jI 6, jI x]) (hp' := hp) rfl ?_
      refine jE_icmp_ge rfl (by omega) (by omega) (fun c19 => ?_) (fun c19 => ?_)
      · omega
      · refine jm_Ev.bl 3 (pc' := 26) (A' := [jR 53, jI x, jI y, jI w, jI ((y * 6) + x)]) (st' := [jI 36, jI ((y * 6) + x)]) (hp' := hp) rfl ?_
        refine jE_icmp_ge rfl (by omega) (by omega) (fun c26 => ?_) (fun c26 => ?_)
        · omega
        · refine jm_Ev.bl 2 (pc' := 32) (A' := [jR 53, jI x, jI y, jI w, jI ((y * 6) + x)]) (st' := [jI ((y * 6) + x), jR 53]) (hp' := hp) rfl ?_
          refine jE_iald (n := 36) (f := hp 53) rfl rfl (by omega) ?_
          refine jm_Ev.bl 5 (pc' := 38) (A' := [jR 53, jI x, jI y, jI w, jI ((y * 6) + x)]) (st' := [jI 1, jI ((Int32.ofInt ((Int32.ofInt (hp 53 ((y * 6) + x)) >>> (Int32.ofInt w &&& 31)).toInt) &&& Int32.ofInt 1).toInt)]) (hp' := hp) rfl ?_
          refine jE_icmp_ne rfl (by first | exact jI32_r _ | omega) (by first | exact jI32_r _ | omega) (fun c38 => ?_) (fun c38 => ?_)
          · refine jm_Ev.bl 1 (pc' := 46) (A' := [jR 53, jI x, jI y, jI w, jI ((y * 6) + x)]) (st' := [jI 0]) (hp' := hp) rfl ?_
            exact jE_ret rfl ⟨jr0 c38, rfl⟩
          · refine jm_Ev.bl 2 (pc' := 46) (A' := [jR 53, jI x, jI y, jI w, jI ((y * 6) + x)]) (st' := [jI 1]) (hp' := hp) rfl ?_
            exact jE_ret rfl ⟨jr1 c38, rfl⟩
theorem c_o_fe_T_20 {Q : Option jm_V → jm_H → Prop} (h : jm_H) (i x y : Int) (a b c d : Bool) (z : jm_V) (hi : 0 ≤ i ∧ i < 36) (k : ∀ a1 a2 a3 a4 a5 : jm_V, jm_Ev 49 2 [jR 20, jR 3, jI (i + 1), jI x, jI y, a1, a2, a3, a4, a5] [] (jm_hs (jm_hs h 29 i (jeb a b c d)) 30 i 0) Q) : jm_Ev 49 63 [jR 20, jR 3, jI i, jI x, jI y, jI (jb a), jI (jb b), jI (jb c), jI (jb d), z] [] h Q := by
  cases a <;> cases b <;> cases c <;> cases d
  · refine jm_Ev.bl 4 (pc' := 70) (A' := [jR 20, jR 3, jI i, jI x, jI y, jI 0, jI 0, jI 0, jI 0, jI 0]) (st' := [jI 0, jI 0]) (hp' := h) rfl ?_
    refine jE_if_eq rfl (by omega) (fun _ => ?_) (fun c70 => absurd c70 (by omega))
    refine jm_Ev.bl 5 (pc' := 90) (A' := [jR 20, jR 3, jI i, jI x, jI y, jI 0, jI 0, jI 0, jI 0, jI ((Int32.ofInt 0 ||| Int32.ofInt 0).toInt)]) (st' := [jI 0, jI ((Int32.ofInt 0 ||| Int32.ofInt 0).toInt)]) (hp' := h) rfl ?_
    refine jE_if_eq rfl (by omega) (fun _ => ?_) (fun c90 => absurd c90 (by omega))
    refine jm_Ev.bl 5 (pc' := 110) (A' := [jR 20, jR 3, jI i, jI x, jI y, jI 0, jI 0, jI 0, jI 0, jI ((Int32.ofInt ((Int32.ofInt 0 ||| Int32.ofInt 0).toInt) ||| Int32.ofInt 0).toInt)]) (st' := [jI 0, jI ((Int32.ofInt ((Int32.ofInt 0 ||| Int32.ofInt 0).toInt) ||| Int32.ofInt 0).toInt)]) (hp' := h) rfl ?_
    refine jE_if_eq rfl (by omega) (fun _ => ?_) (fun c110 => absurd c110 (by omega))
    refine jm_Ev.bl 5 (pc' := 130) (A' := [jR 20, jR 3, jI i, jI x, jI y, jI 0, jI 0, jI 0, jI 0, jI ((Int32.ofInt ((Int32.ofInt ((Int32.ofInt 0 ||| Int32.ofInt 0).toInt) ||| Int32.ofInt 0).toInt) ||| Int32.ofInt 0).toInt)]) (st' := [jI 0, jI ((Int32.ofInt ((Int32.ofInt ((Int32.ofInt 0 ||| Int32.ofInt 0).toInt) ||| Int32.ofInt 0).toInt) ||| Int32.ofInt 0).toInt)]) (hp' := h) rfl ?_
    refine jE_if_eq rfl (by omega) (fun _ => ?_) (fun c130 => absurd c130 (by omega))
    refine jm_Ev.bl 7 (pc' := 154) (A' := [jR 20, jR 3, jI i, jI x, jI y, jI 0, jI 0, jI 0, jI 0, jI ((Int32.ofInt ((Int32.ofInt ((Int32.ofInt ((Int32.ofInt 0 ||| Int32.ofInt 0).toInt) ||| Int32.ofInt 0).toInt) ||| Int32.ofInt 0).toInt) ||| Int32.ofInt 0).toInt)]) (st' := [jI ((Int32.ofInt ((Int32.ofInt ((Int32.ofInt ((Int32.ofInt 0 ||| Int32.ofInt 0).toInt) ||| Int32.ofInt 0).toInt) ||| Int32.ofInt 0).toInt) ||| Int32.ofInt 0).toInt), jI i, jR 29]) (hp' := h) rfl ?_
    refine jE_iast (n := 36) rfl rfl (by omega) ?_
    refine jm_Ev.bl 4 (pc' := 161) (A' := [jR 20, jR 3, jI i, jI x, jI y, jI 0, jI 0, jI 0, jI 0, jI ((Int32.ofInt ((Int32.ofInt ((Int32.ofInt ((Int32.ofInt 0 ||| Int32.ofInt 0).toInt) ||| Int32.ofInt 0).toInt) ||| Int32.ofInt 0).toInt) ||| Int32.ofInt 0).toInt)]) (st' := [jI 0, jI i, jR 30]) (hp' := (jm_hs h 29 i ((Int32.ofInt ((Int32.ofInt ((Int32.ofInt ((Int32.ofInt 0 ||| Int32.ofInt 0).toInt) ||| Int32.ofInt 0).toInt) ||| Int32.ofInt 0).toInt) ||| Int32.ofInt 0).toInt))) rfl ?_
    refine jE_iast (n := 36) rfl rfl (by omega) ?_
    refine jm_Ev.bl 2 (pc' := 2) (A' := [jR 20, jR 3, jI (i + 1), jI x, jI y, jI 0, jI 0, jI 0, jI 0, jI ((Int32.ofInt ((Int32.ofInt ((Int32.ofInt ((Int32.ofInt 0 ||| Int32.ofInt 0).toInt) ||| Int32.ofInt 0).toInt) ||| Int32.ofInt 0).toInt) ||| Int32.ofInt 0).toInt)]) (st' := []) (hp' := (jm_hs (jm_hs h 29 i ((Int32.ofInt ((Int32.ofInt ((Int32.ofInt ((Int32.ofInt 0 ||| Int32.ofInt 0).toInt) ||| Int32.ofInt 0).toInt) ||| Int32.ofInt 0).toInt) ||| Int32.ofInt 0).toInt)) 30 i 0)) rfl ?_
    rw [show ((Int32.ofInt ((Int32.ofInt ((Int32.ofInt ((Int32.ofInt 0 ||| Int32.ofInt 0).toInt) ||| Int32.ofInt 0).toInt) ||| Int32.ofInt 0).toInt) ||| Int32.ofInt 0).toInt) = jeb false false false false by decide]
    exact k _ _ _ _ _
  · refine jm_Ev.bl 4 (pc' := 70) (A' := [jR 20, jR 3, jI i, jI x, jI y, jI 0, jI 0, jI 0, jI 1, jI 0]) (st' := [jI 1, jI 0]) (hp' := h) rfl ?_
    refine jE_if_eq rfl (by omega) (fun c70 => absurd c70 (by omega)) (fun _ => ?_)
    refine jm_Ev.bl 1 (pc' := 75) (A' := [jR 20, jR 3, jI i, jI x, jI y, jI 0, jI 0, jI 0, jI 1, jI 0]) (st' := [jI 0, jI 0]) (hp' := h) rfl ?_
    refine jE_if_ne rfl (by omega) (fun c75 => absurd c75 (by omega)) (fun _ => ?_)
    refine jm_Ev.bl 6 (pc' := 90) (A' := [jR 20, jR 3, jI i, jI x, jI y, jI 0, jI 0, jI 0, jI 1, jI ((Int32.ofInt 0 ||| Int32.ofInt 1).toInt)]) (st' := [jI 0, jI ((Int32.ofInt 0 ||| Int32.ofInt 1).toInt)]) (hp' := h) rfl ?_
    refine jE_if_eq rfl (by omega) (fun _ => ?_) (fun c90 => absurd c90 (by omega))
    refine jm_Ev.bl 5 (pc' := 110) (A' := [jR 20, jR 3, jI i, jI x, jI y, jI 0, jI 0, jI 0, jI 1, jI ((Int32.ofInt ((Int32.ofInt 0 ||| Int32.ofInt 1).toInt) ||| Int32.ofInt 0).toInt)]) (st' := [jI 0, jI ((Int32.ofInt ((Int32.ofInt 0 ||| Int32.ofInt 1).toInt) ||| Int32.ofInt 0).toInt)]) (hp' := h) rfl ?_
    refine jE_if_eq rfl (by omega) (fun _ => ?_) (fun c110 => absurd c110 (by omega))
    refine jm_Ev.bl 5 (pc' := 130) (A' := [jR 20, jR 3, jI i, jI x, jI y, jI 0, jI 0, jI 0, jI 1, jI ((Int32.ofInt ((Int32.ofInt ((Int32.ofInt 0 ||| Int32.ofInt 1).toInt) ||| Int32.ofInt 0).toInt) ||| Int32.ofInt 0).toInt)]) (st' := [jI 0, jI ((Int32.ofInt ((Int32.ofInt ((Int32.ofInt 0 ||| Int32.ofInt 1).toInt) ||| Int32.ofInt 0).toInt) ||| Int32.ofInt 0).toInt)]) (hp' := h) rfl ?_
    refine jE_if_eq rfl (by omega) (fun _ => ?_) (fun c130 => absurd c130 (by omega))
    refine jm_Ev.bl 7 (pc' := 154) (A' := [jR 20, jR 3, jI i, jI x, jI y, jI 0, jI 0, jI 0, jI 1, jI ((Int32.ofInt ((Int32.ofInt ((Int32.ofInt ((Int32.ofInt 0 ||| Int32.ofInt 1).toInt) ||| Int32.ofInt 0).toInt) ||| Int32.ofInt 0).toInt) ||| Int32.ofInt 0).toInt)]) (st' := [jI ((Int32.ofInt ((Int32.ofInt ((Int32.ofInt ((Int32.ofInt 0 ||| Int32.ofInt 1).toInt) ||| Int32.ofInt 0).toInt) ||| Int32.ofInt 0).toInt) ||| Int32.ofInt 0).toInt), jI i, jR 29]) (hp' := h) rfl ?_
    refine jE_iast (n := 36) rfl rfl (by omega) ?_
    refine jm_Ev.bl 4 (pc' := 161) (A' := [jR 20, jR 3, jI i, jI x, jI y, jI 0, jI 0, jI 0, jI 1, jI ((Int32.ofInt ((Int32.ofInt ((Int32.ofInt ((Int32.ofInt 0 ||| Int32.ofInt 1).toInt) ||| Int32.ofInt 0).toInt) ||| Int32.ofInt 0).toInt) ||| Int32.ofInt 0).toInt)]) (st' := [jI 0, jI i, jR 30]) (hp' := (jm_hs h 29 i ((Int32.ofInt ((Int32.ofInt ((Int32.ofInt ((Int32.ofInt 0 ||| Int32.ofInt 1).toInt) ||| Int32.ofInt 0).toInt) ||| Int32.ofInt 0).toInt) ||| Int32.ofInt 0).toInt))) rfl ?_
    refine jE_iast (n := 36) rfl rfl (by omega) ?_
    refine jm_Ev.bl 2 (pc' := 2) (A' := [jR 20, jR 3, jI (i + 1), jI x, jI y, jI 0, jI 0, jI 0, jI 1, jI ((Int32.ofInt ((Int32.ofInt ((Int32.ofInt ((Int32.ofInt 0 ||| Int32.ofInt 1).toInt) ||| Int32.ofInt 0).toInt) ||| Int32.ofInt 0).toInt) ||| Int32.ofInt 0).toInt)]) (st' := []) (hp' := (jm_hs (jm_hs h 29 i ((Int32.ofInt ((Int32.ofInt ((Int32.ofInt ((Int32.ofInt 0 ||| Int32.ofInt 1).toInt) ||| Int32.ofInt 0).toInt) ||| Int32.ofInt 0).toInt) ||| Int32.ofInt 0).toInt)) 30 i 0)) rfl ?_
    rw [show ((Int32.ofInt ((Int32.ofInt ((Int32.ofInt ((Int32.ofInt 0 ||| Int32.ofInt 1).toInt) ||| Int32.ofInt 0).toInt) ||| Int32.ofInt 0).toInt) ||| Int32.ofInt 0).toInt) = jeb false false false true by decide]
    exact k _ _ _ _ _
  · refine jm_Ev.bl 4 (pc' := 70) (A' := [jR 20, jR 3, jI i, jI x, jI y, jI 0, jI 0, jI 1, jI 0, jI 0]) (st' := [jI 0, jI 0]) (hp' := h) rfl ?_
    refine jE_if_eq rfl (by omega) (fun _ => ?_) (fun c70 => absurd c70 (by omega))
    refine jm_Ev.bl 5 (pc' := 90) (A' := [jR 20, jR 3, jI i, jI x, jI y, jI 0, jI 0, jI 1, jI 0, jI ((Int32.ofInt 0 ||| Int32.ofInt 0).toInt)]) (st' := [jI 1, jI ((Int32.ofInt 0 ||| Int32.ofInt 0).toInt)]) (hp' := h) rfl ?_
    refine jE_if_eq rfl (by omega) (fun c90 => absurd c90 (by omega)) (fun _ => ?_)
    refine jm_Ev.bl 1 (pc' := 95) (A' := [jR 20, jR 3, jI i, jI x, jI y, jI 0, jI 0, jI 1, jI 0, jI ((Int32.ofInt 0 ||| Int32.ofInt 0).toInt)]) (st' := [jI 0, jI ((Int32.ofInt 0 ||| Int32.ofInt 0).toInt)]) (hp' := h) rfl ?_
    refine jE_if_ne rfl (by omega) (fun c95 => absurd c95 (by omega)) (fun _ => ?_)
    refine jm_Ev.bl 6 (pc' := 110) (A' := [jR 20, jR 3, jI i, jI x, jI y, jI 0, jI 0, jI 1, jI 0, jI ((Int32.ofInt ((Int32.ofInt 0 ||| Int32.ofInt 0).toInt) ||| Int32.ofInt 2).toInt)]) (st' := [jI 0, jI ((Int32.ofInt ((Int32.ofInt 0 ||| Int32.ofInt 0).toInt) ||| Int32.ofInt 2).toInt)]) (hp' := h) rfl ?_
    refine jE_if_eq rfl (by omega) (fun _ => ?_) (fun c110 => absurd c110 (by omega))
    refine jm_Ev.bl 5 (pc' := 130) (A' := [jR 20, jR 3, jI i, jI x, jI y, jI 0, jI 0, jI 1, jI 0, jI ((Int32.ofInt ((Int32.ofInt ((Int32.ofInt 0 ||| Int32.ofInt 0).toInt) ||| Int32.ofInt 2).toInt) ||| Int32.ofInt 0).toInt)]) (st' := [jI 0, jI ((Int32.ofInt ((Int32.ofInt ((Int32.ofInt 0 ||| Int32.ofInt 0).toInt) ||| Int32.ofInt 2).toInt) ||| Int32.ofInt 0).toInt)]) (hp' := h) rfl ?_
    refine jE_if_eq rfl (by omega) (fun _ => ?_) (fun c130 => absurd c130 (by omega))
    refine jm_Ev.bl 7 (pc' := 154) (A' := [jR 20, jR 3, jI i, jI x, jI y, jI 0, jI 0, jI 1, jI 0, jI ((Int32.ofInt ((Int32.ofInt ((Int32.ofInt ((Int32.ofInt 0 ||| Int32.ofInt 0).toInt) ||| Int32.ofInt 2).toInt) ||| Int32.ofInt 0).toInt) ||| Int32.ofInt 0).toInt)]) (st' := [jI ((Int32.ofInt ((Int32.ofInt ((Int32.ofInt ((Int32.ofInt 0 ||| Int32.ofInt 0).toInt) ||| Int32.ofInt 2).toInt) ||| Int32.ofInt 0).toInt) ||| Int32.ofInt 0).toInt), jI i, jR 29]) (hp' := h) rfl ?_
    refine jE_iast (n := 36) rfl rfl (by omega) ?_
    refine jm_Ev.bl 4 (pc' := 161) (A' := [jR 20, jR 3, jI i, jI x, jI y, jI 0, jI 0, jI 1, jI 0, jI ((Int32.ofInt ((Int32.ofInt ((Int32.ofInt ((Int32.ofInt 0 ||| Int32.ofInt 0).toInt) ||| Int32.ofInt 2).toInt) ||| Int32.ofInt 0).toInt) ||| Int32.ofInt 0).toInt)]) (st' := [jI 0, jI i, jR 30]) (hp' := (jm_hs h 29 i ((Int32.ofInt ((Int32.ofInt ((Int32.ofInt ((Int32.ofInt 0 ||| Int32.ofInt 0).toInt) ||| Int32.ofInt 2).toInt) ||| Int32.ofInt 0).toInt) ||| Int32.ofInt 0).toInt))) rfl ?_
    refine jE_iast (n := 36) rfl rfl (by omega) ?_
    refine jm_Ev.bl 2 (pc' := 2) (A' := [jR 20, jR 3, jI (i + 1), jI x, jI y, jI 0, jI 0, jI 1, jI 0, jI ((Int32.ofInt ((Int32.ofInt ((Int32.ofInt ((Int32.ofInt 0 ||| Int32.ofInt 0).toInt) ||| Int32.ofInt 2).toInt) ||| Int32.ofInt 0).toInt) ||| Int32.ofInt 0).toInt)]) (st' := []) (hp' := (jm_hs (jm_hs h 29 i ((Int32.ofInt ((Int32.ofInt ((Int32.ofInt ((Int32.ofInt 0 ||| Int32.ofInt 0).toInt) ||| Int32.ofInt 2).toInt) ||| Int32.ofInt 0).toInt) ||| Int32.ofInt 0).toInt)) 30 i 0)) rfl ?_
    rw [show ((Int32.ofInt ((Int32.ofInt ((Int32.ofInt ((Int32.ofInt 0 ||| Int32.ofInt 0).toInt) ||| Int32.ofInt 2).toInt) ||| Int32.ofInt 0).toInt) ||| Int32.ofInt 0).toInt) = jeb false false true false by decide]
    exact k _ _ _ _ _
  · refine jm_Ev.bl 4 (pc' := 70) (A' := [jR 20, jR 3, jI i, jI x, jI y, jI 0, jI 0, jI 1, jI 1, jI 0]) (st' := [jI 1, jI 0]) (hp' := h) rfl ?_
    refine jE_if_eq rfl (by omega) (fun c70 => absurd c70 (by omega)) (fun _ => ?_)
    refine jm_Ev.bl 1 (pc' := 75) (A' := [jR 20, jR 3, jI i, jI x, jI y, jI 0, jI 0, jI 1, jI 1, jI 0]) (st' := [jI 0, jI 0]) (hp' := h) rfl ?_
    refine jE_if_ne rfl (by omega) (fun c75 => absurd c75 (by omega)) (fun _ => ?_)
    refine jm_Ev.bl 6 (pc' := 90) (A' := [jR 20, jR 3, jI i, jI x, jI y, jI 0, jI 0, jI 1, jI 1, jI ((Int32.ofInt 0 ||| Int32.ofInt 1).toInt)]) (st' := [jI 1, jI ((Int32.ofInt 0 ||| Int32.ofInt 1).toInt)]) (hp' := h) rfl ?_
    refine jE_if_eq rfl (by omega) (fun c90 => absurd c90 (by omega)) (fun _ => ?_)
    refine jm_Ev.bl 1 (pc' := 95) (A' := [jR 20, jR 3, jI i, jI x, jI y, jI 0, jI 0, jI 1, jI 1, jI ((Int32.ofInt 0 ||| Int32.ofInt 1).toInt)]) (st' := [jI 1, jI ((Int32.ofInt 0 ||| Int32.ofInt 1).toInt)]) (hp' := h) rfl ?_
    refine jE_if_ne rfl (by omega) (fun _ => ?_) (fun c95 => absurd c95 (by omega))
    refine jm_Ev.bl 5 (pc' := 110) (A' := [jR 20, jR 3, jI i, jI x, jI y, jI 0, jI 0, jI 1, jI 1, jI ((Int32.ofInt ((Int32.ofInt 0 ||| Int32.ofInt 1).toInt) ||| Int32.ofInt 0).toInt)]) (st' := [jI 0, jI ((Int32.ofInt ((Int32.ofInt 0 ||| Int32.ofInt 1).toInt) ||| Int32.ofInt 0).toInt)]) (hp' := h) rfl ?_
    refine jE_if_eq rfl (by omega) (fun _ => ?_) (fun c110 => absurd c110 (by omega))
    refine jm_Ev.bl 5 (pc' := 130) (A' := [jR 20, jR 3, jI i, jI x, jI y, jI 0, jI 0, jI 1, jI 1, jI ((Int32.ofInt ((Int32.ofInt ((Int32.ofInt 0 ||| Int32.ofInt 1).toInt) ||| Int32.ofInt 0).toInt) ||| Int32.ofInt 0).toInt)]) (st' := [jI 0, jI ((Int32.ofInt ((Int32.ofInt ((Int32.ofInt 0 ||| Int32.ofInt 1).toInt) ||| Int32.ofInt 0).toInt) ||| Int32.ofInt 0).toInt)]) (hp' := h) rfl ?_
    refine jE_if_eq rfl (by omega) (fun _ => ?_) (fun c130 => absurd c130 (by omega))
    refine jm_Ev.bl 7 (pc' := 154) (A' := [jR 20, jR 3, jI i, jI x, jI y, jI 0, jI 0, jI 1, jI 1, jI ((Int32.ofInt ((Int32.ofInt ((Int32.ofInt ((Int32.ofInt 0 ||| Int32.ofInt 1).toInt) ||| Int32.ofInt 0).toInt) ||| Int32.ofInt 0).toInt) ||| Int32.ofInt 0).toInt)]) (st' := [jI ((Int32.ofInt ((Int32.ofInt ((Int32.ofInt ((Int32.ofInt 0 ||| Int32.ofInt 1).toInt) ||| Int32.ofInt 0).toInt) ||| Int32.ofInt 0).toInt) ||| Int32.ofInt 0).toInt), jI i, jR 29]) (hp' := h) rfl ?_
    refine jE_iast (n := 36) rfl rfl (by omega) ?_
    refine jm_Ev.bl 4 (pc' := 161) (A' := [jR 20, jR 3, jI i, jI x, jI y, jI 0, jI 0, jI 1, jI 1, jI ((Int32.ofInt ((Int32.ofInt ((Int32.ofInt ((Int32.ofInt 0 ||| Int32.ofInt 1).toInt) ||| Int32.ofInt 0).toInt) ||| Int32.ofInt 0).toInt) ||| Int32.ofInt 0).toInt)]) (st' := [jI 0, jI i, jR 30]) (hp' := (jm_hs h 29 i ((Int32.ofInt ((Int32.ofInt ((Int32.ofInt ((Int32.ofInt 0 ||| Int32.ofInt 1).toInt) ||| Int32.ofInt 0).toInt) ||| Int32.ofInt 0).toInt) ||| Int32.ofInt 0).toInt))) rfl ?_
    refine jE_iast (n := 36) rfl rfl (by omega) ?_
    refine jm_Ev.bl 2 (pc' := 2) (A' := [jR 20, jR 3, jI (i + 1), jI x, jI y, jI 0, jI 0, jI 1, jI 1, jI ((Int32.ofInt ((Int32.ofInt ((Int32.ofInt ((Int32.ofInt 0 ||| Int32.ofInt 1).toInt) ||| Int32.ofInt 0).toInt) ||| Int32.ofInt 0).toInt) ||| Int32.ofInt 0).toInt)]) (st' := []) (hp' := (jm_hs (jm_hs h 29 i ((Int32.ofInt ((Int32.ofInt ((Int32.ofInt ((Int32.ofInt 0 ||| Int32.ofInt 1).toInt) ||| Int32.ofInt 0).toInt) ||| Int32.ofInt 0).toInt) ||| Int32.ofInt 0).toInt)) 30 i 0)) rfl ?_
    rw [show ((Int32.ofInt ((Int32.ofInt ((Int32.ofInt ((Int32.ofInt 0 ||| Int32.ofInt 1).toInt) ||| Int32.ofInt 0).toInt) ||| Int32.ofInt 0).toInt) ||| Int32.ofInt 0).toInt) = jeb false false true true by decide]
    exact k _ _ _ _ _
  · refine jm_Ev.bl 4 (pc' := 70) (A' := [jR 20, jR 3, jI i, jI x, jI y, jI 0, jI 1, jI 0, jI 0, jI 0]) (st' := [jI 0, jI 0]) (hp' := h) rfl ?_
    refine jE_if_eq rfl (by omega) (fun _ => ?_) (fun c70 => absurd c70 (by omega))
    refine jm_Ev.bl 5 (pc' := 90) (A' := [jR 20, jR 3, jI i, jI x, jI y, jI 0, jI 1, jI 0, jI 0, jI ((Int32.ofInt 0 ||| Int32.ofInt 0).toInt)]) (st' := [jI 0, jI ((Int32.ofInt 0 ||| Int32.ofInt 0).toInt)]) (hp' := h) rfl ?_
    refine jE_if_eq rfl (by omega) (fun _ => ?_) (fun c90 => absurd c90 (by omega))
    refine jm_Ev.bl 5 (pc' := 110) (A' := [jR 20, jR 3, jI i, jI x, jI y, jI 0, jI 1, jI 0, jI 0, jI ((Int32.ofInt ((Int32.ofInt 0 ||| Int32.ofInt 0).toInt) ||| Int32.ofInt 0).toInt)]) (st' := [jI 0, jI ((Int32.ofInt ((Int32.ofInt 0 ||| Int32.ofInt 0).toInt) ||| Int32.ofInt 0).toInt)]) (hp' := h) rfl ?_
    refine jE_if_eq rfl (by omega) (fun _ => ?_) (fun c110 => absurd c110 (by omega))
    refine jm_Ev.bl 5 (pc' := 130) (A' := [jR 20, jR 3, jI i, jI x, jI y, jI 0, jI 1, jI 0, jI 0, jI ((Int32.ofInt ((Int32.ofInt ((Int32.ofInt 0 ||| Int32.ofInt 0).toInt) ||| Int32.ofInt 0).toInt) ||| Int32.ofInt 0).toInt)]) (st' := [jI 1, jI ((Int32.ofInt ((Int32.ofInt ((Int32.ofInt 0 ||| Int32.ofInt 0).toInt) ||| Int32.ofInt 0).toInt) ||| Int32.ofInt 0).toInt)]) (hp' := h) rfl ?_
    refine jE_if_eq rfl (by omega) (fun c130 => absurd c130 (by omega)) (fun _ => ?_)
    refine jm_Ev.bl 1 (pc' := 135) (A' := [jR 20, jR 3, jI i, jI x, jI y, jI 0, jI 1, jI 0, jI 0, jI ((Int32.ofInt ((Int32.ofInt ((Int32.ofInt 0 ||| Int32.ofInt 0).toInt) ||| Int32.ofInt 0).toInt) ||| Int32.ofInt 0).toInt)]) (st' := [jI 0, jI ((Int32.ofInt ((Int32.ofInt ((Int32.ofInt 0 ||| Int32.ofInt 0).toInt) ||| Int32.ofInt 0).toInt) ||| Int32.ofInt 0).toInt)]) (hp' := h) rfl ?_
    refine jE_if_ne rfl (by omega) (fun c135 => absurd c135 (by omega)) (fun _ => ?_)
    refine jm_Ev.bl 8 (pc' := 154) (A' := [jR 20, jR 3, jI i, jI x, jI y, jI 0, jI 1, jI 0, jI 0, jI ((Int32.ofInt ((Int32.ofInt ((Int32.ofInt ((Int32.ofInt 0 ||| Int32.ofInt 0).toInt) ||| Int32.ofInt 0).toInt) ||| Int32.ofInt 0).toInt) ||| Int32.ofInt 8).toInt)]) (st' := [jI ((Int32.ofInt ((Int32.ofInt ((Int32.ofInt ((Int32.ofInt 0 ||| Int32.ofInt 0).toInt) ||| Int32.ofInt 0).toInt) ||| Int32.ofInt 0).toInt) ||| Int32.ofInt 8).toInt), jI i, jR 29]) (hp' := h) rfl ?_
    refine jE_iast (n := 36) rfl rfl (by omega) ?_
    refine jm_Ev.bl 4 (pc' := 161) (A' := [jR 20, jR 3, jI i, jI x, jI y, jI 0, jI 1, jI 0, jI 0, jI ((Int32.ofInt ((Int32.ofInt ((Int32.ofInt ((Int32.ofInt 0 ||| Int32.ofInt 0).toInt) ||| Int32.ofInt 0).toInt) ||| Int32.ofInt 0).toInt) ||| Int32.ofInt 8).toInt)]) (st' := [jI 0, jI i, jR 30]) (hp' := (jm_hs h 29 i ((Int32.ofInt ((Int32.ofInt ((Int32.ofInt ((Int32.ofInt 0 ||| Int32.ofInt 0).toInt) ||| Int32.ofInt 0).toInt) ||| Int32.ofInt 0).toInt) ||| Int32.ofInt 8).toInt))) rfl ?_
    refine jE_iast (n := 36) rfl rfl (by omega) ?_
    refine jm_Ev.bl 2 (pc' := 2) (A' := [jR 20, jR 3, jI (i + 1), jI x, jI y, jI 0, jI 1, jI 0, jI 0, jI ((Int32.ofInt ((Int32.ofInt ((Int32.ofInt ((Int32.ofInt 0 ||| Int32.ofInt 0).toInt) ||| Int32.ofInt 0).toInt) ||| Int32.ofInt 0).toInt) ||| Int32.ofInt 8).toInt)]) (st' := []) (hp' := (jm_hs (jm_hs h 29 i ((Int32.ofInt ((Int32.ofInt ((Int32.ofInt ((Int32.ofInt 0 ||| Int32.ofInt 0).toInt) ||| Int32.ofInt 0).toInt) ||| Int32.ofInt 0).toInt) ||| Int32.ofInt 8).toInt)) 30 i 0)) rfl ?_
    rw [show ((Int32.ofInt ((Int32.ofInt ((Int32.ofInt ((Int32.ofInt 0 ||| Int32.ofInt 0).toInt) ||| Int32.ofInt 0).toInt) ||| Int32.ofInt 0).toInt) ||| Int32.ofInt 8).toInt) = jeb false true false false by decide]
    exact k _ _ _ _ _
  · refine jm_Ev.bl 4 (pc' := 70) (A' := [jR 20, jR 3, jI i, jI x, jI y, jI 0, jI 1, jI 0, jI 1, jI 0]) (st' := [jI 1, jI 0]) (hp' := h) rfl ?_
    refine jE_if_eq rfl (by omega) (fun c70 => absurd c70 (by omega)) (fun _ => ?_)
    refine jm_Ev.bl 1 (pc' := 75) (A' := [jR 20, jR 3, jI i, jI x, jI y, jI 0, jI 1, jI 0, jI 1, jI 0]) (st' := [jI 1, jI 0]) (hp' := h) rfl ?_
    refine jE_if_ne rfl (by omega) (fun _ => ?_) (fun c75 => absurd c75 (by omega))
    refine jm_Ev.bl 5 (pc' := 90) (A' := [jR 20, jR 3, jI i, jI x, jI y, jI 0, jI 1, jI 0, jI 1, jI ((Int32.ofInt 0 ||| Int32.ofInt 0).toInt)]) (st' := [jI 0, jI ((Int32.ofInt 0 ||| Int32.ofInt 0).toInt)]) (hp' := h) rfl ?_
    refine jE_if_eq rfl (by omega) (fun _ => ?_) (fun c90 => absurd c90 (by omega))
    refine jm_Ev.bl 5 (pc' := 110) (A' := [jR 20, jR 3, jI i, jI x, jI y, jI 0, jI 1, jI 0, jI 1, jI ((Int32.ofInt ((Int32.ofInt 0 ||| Int32.ofInt 0).toInt) ||| Int32.ofInt 0).toInt)]) (st' := [jI 0, jI ((Int32.ofInt ((Int32.ofInt 0 ||| Int32.ofInt 0).toInt) ||| Int32.ofInt 0).toInt)]) (hp' := h) rfl ?_
    refine jE_if_eq rfl (by omega) (fun _ => ?_) (fun c110 => absurd c110 (by omega))
    refine jm_Ev.bl 5 (pc' := 130) (A' := [jR 20, jR 3, jI i, jI x, jI y, jI 0, jI 1, jI 0, jI 1, jI ((Int32.ofInt ((Int32.ofInt ((Int32.ofInt 0 ||| Int32.ofInt 0).toInt) ||| Int32.ofInt 0).toInt) ||| Int32.ofInt 0).toInt)]) (st' := [jI 1, jI ((Int32.ofInt ((Int32.ofInt ((Int32.ofInt 0 ||| Int32.ofInt 0).toInt) ||| Int32.ofInt 0).toInt) ||| Int32.ofInt 0).toInt)]) (hp' := h) rfl ?_
    refine jE_if_eq rfl (by omega) (fun c130 => absurd c130 (by omega)) (fun _ => ?_)
    refine jm_Ev.bl 1 (pc' := 135) (A' := [jR 20, jR 3, jI i, jI x, jI y, jI 0, jI 1, jI 0, jI 1, jI ((Int32.ofInt ((Int32.ofInt ((Int32.ofInt 0 ||| Int32.ofInt 0).toInt) ||| Int32.ofInt 0).toInt) ||| Int32.ofInt 0).toInt)]) (st' := [jI 0, jI ((Int32.ofInt ((Int32.ofInt ((Int32.ofInt 0 ||| Int32.ofInt 0).toInt) ||| Int32.ofInt 0).toInt) ||| Int32.ofInt 0).toInt)]) (hp' := h) rfl ?_
    refine jE_if_ne rfl (by omega) (fun c135 => absurd c135 (by omega)) (fun _ => ?_)
    refine jm_Ev.bl 8 (pc' := 154) (A' := [jR 20, jR 3, jI i, jI x, jI y, jI 0, jI 1, jI 0, jI 1, jI ((Int32.ofInt ((Int32.ofInt ((Int32.ofInt ((Int32.ofInt 0 ||| Int32.ofInt 0).toInt) ||| Int32.ofInt 0).toInt) ||| Int32.ofInt 0).toInt) ||| Int32.ofInt 8).toInt)]) (st' := [jI ((Int32.ofInt ((Int32.ofInt ((Int32.ofInt ((Int32.ofInt 0 ||| Int32.ofInt 0).toInt) ||| Int32.ofInt 0).toInt) ||| Int32.ofInt 0).toInt) ||| Int32.ofInt 8).toInt), jI i, jR 29]) (hp' := h) rfl ?_
    refine jE_iast (n := 36) rfl rfl (by omega) ?_
    refine jm_Ev.bl 4 (pc' := 161) (A' := [jR 20, jR 3, jI i, jI x, jI y, jI 0, jI 1, jI 0, jI 1, jI ((Int32.ofInt ((Int32.ofInt ((Int32.ofInt ((Int32.ofInt 0 ||| Int32.ofInt 0).toInt) ||| Int32.ofInt 0).toInt) ||| Int32.ofInt 0).toInt) ||| Int32.ofInt 8).toInt)]) (st' := [jI 0, jI i, jR 30]) (hp' := (jm_hs h 29 i ((Int32.ofInt ((Int32.ofInt ((Int32.ofInt ((Int32.ofInt 0 ||| Int32.ofInt 0).toInt) ||| Int32.ofInt 0).toInt) ||| Int32.ofInt 0).toInt) ||| Int32.ofInt 8).toInt))) rfl ?_
    refine jE_iast (n := 36) rfl rfl (by omega) ?_
    refine jm_Ev.bl 2 (pc' := 2) (A' := [jR 20, jR 3, jI (i + 1), jI x, jI y, jI 0, jI 1, jI 0, jI 1, jI ((Int32.ofInt ((Int32.ofInt ((Int32.ofInt ((Int32.ofInt 0 ||| Int32.ofInt 0).toInt) ||| Int32.ofInt 0).toInt) ||| Int32.ofInt 0).toInt) ||| Int32.ofInt 8).toInt)]) (st' := []) (hp' := (jm_hs (jm_hs h 29 i ((Int32.ofInt ((Int32.ofInt ((Int32.ofInt ((Int32.ofInt 0 ||| Int32.ofInt 0).toInt) ||| Int32.ofInt 0).toInt) ||| Int32.ofInt 0).toInt) ||| Int32.ofInt 8).toInt)) 30 i 0)) rfl ?_
    rw [show ((Int32.ofInt ((Int32.ofInt ((Int32.ofInt ((Int32.ofInt 0 ||| Int32.ofInt 0).toInt) ||| Int32.ofInt 0).toInt) ||| Int32.ofInt 0).toInt) ||| Int32.ofInt 8).toInt) = jeb false true false true by decide]
    exact k _ _ _ _ _
  · refine jm_Ev.bl 4 (pc' := 70) (A' := [jR 20, jR 3, jI i, jI x, jI y, jI 0, jI 1, jI 1, jI 0, jI 0]) (st' := [jI 0, jI 0]) (hp' := h) rfl ?_
    refine jE_if_eq rfl (by omega) (fun _ => ?_) (fun c70 => absurd c70 (by omega))
    refine jm_Ev.bl 5 (pc' := 90) (A' := [jR 20, jR 3, jI i, jI x, jI y, jI 0, jI 1, jI 1, jI 0, jI ((Int32.ofInt 0 ||| Int32.ofInt 0).toInt)]) (st' := [jI 1, jI ((Int32.ofInt 0 ||| Int32.ofInt 0).toInt)]) (hp' := h) rfl ?_
    refine jE_if_eq rfl (by omega) (fun c90 => absurd c90 (by omega)) (fun _ => ?_)
    refine jm_Ev.bl 1 (pc' := 95) (A' := [jR 20, jR 3, jI i, jI x, jI y, jI 0, jI 1, jI 1, jI 0, jI ((Int32.ofInt 0 ||| Int32.ofInt 0).toInt)]) (st' := [jI 0, jI ((Int32.ofInt 0 ||| Int32.ofInt 0).toInt)]) (hp' := h) rfl ?_
    refine jE_if_ne rfl (by omega) (fun c95 => absurd c95 (by omega)) (fun _ => ?_)
    refine jm_Ev.bl 6 (pc' := 110) (A' := [jR 20, jR 3, jI i, jI x, jI y, jI 0, jI 1, jI 1, jI 0, jI ((Int32.ofInt ((Int32.ofInt 0 ||| Int32.ofInt 0).toInt) ||| Int32.ofInt 2).toInt)]) (st' := [jI 0, jI ((Int32.ofInt ((Int32.ofInt 0 ||| Int32.ofInt 0).toInt) ||| Int32.ofInt 2).toInt)]) (hp' := h) rfl ?_
    refine jE_if_eq rfl (by omega) (fun _ => ?_) (fun c110 => absurd c110 (by omega))
    refine jm_Ev.bl 5 (pc' := 130) (A' := [jR 20, jR 3, jI i, jI x, jI y, jI 0, jI 1, jI 1, jI 0, jI ((Int32.ofInt ((Int32.ofInt ((Int32.ofInt 0 ||| Int32.ofInt 0).toInt) ||| Int32.ofInt 2).toInt) ||| Int32.ofInt 0).toInt)]) (st' := [jI 1, jI ((Int32.ofInt ((Int32.ofInt ((Int32.ofInt 0 ||| Int32.ofInt 0).toInt) ||| Int32.ofInt 2).toInt) ||| Int32.ofInt 0).toInt)]) (hp' := h) rfl ?_
    refine jE_if_eq rfl (by omega) (fun c130 => absurd c130 (by omega)) (fun _ => ?_)
    refine jm_Ev.bl 1 (pc' := 135) (A' := [jR 20, jR 3, jI i, jI x, jI y, jI 0, jI 1, jI 1, jI 0, jI ((Int32.ofInt ((Int32.ofInt ((Int32.ofInt 0 ||| Int32.ofInt 0).toInt) ||| Int32.ofInt 2).toInt) ||| Int32.ofInt 0).toInt)]) (st' := [jI 0, jI ((Int32.ofInt ((Int32.ofInt ((Int32.ofInt 0 ||| Int32.ofInt 0).toInt) ||| Int32.ofInt 2).toInt) ||| Int32.ofInt 0).toInt)]) (hp' := h) rfl ?_
    refine jE_if_ne rfl (by omega) (fun c135 => absurd c135 (by omega)) (fun _ => ?_)
    refine jm_Ev.bl 8 (pc' := 154) (A' := [jR 20, jR 3, jI i, jI x, jI y, jI 0, jI 1, jI 1, jI 0, jI ((Int32.ofInt ((Int32.ofInt ((Int32.ofInt ((Int32.ofInt 0 ||| Int32.ofInt 0).toInt) ||| Int32.ofInt 2).toInt) ||| Int32.ofInt 0).toInt) ||| Int32.ofInt 8).toInt)]) (st' := [jI ((Int32.ofInt ((Int32.ofInt ((Int32.ofInt ((Int32.ofInt 0 ||| Int32.ofInt 0).toInt) ||| Int32.ofInt 2).toInt) ||| Int32.ofInt 0).toInt) ||| Int32.ofInt 8).toInt), jI i, jR 29]) (hp' := h) rfl ?_
    refine jE_iast (n := 36) rfl rfl (by omega) ?_
    refine jm_Ev.bl 4 (pc' := 161) (A' := [jR 20, jR 3, jI i, jI x, jI y, jI 0, jI 1, jI 1, jI 0, jI ((Int32.ofInt ((Int32.ofInt ((Int32.ofInt ((Int32.ofInt 0 ||| Int32.ofInt 0).toInt) ||| Int32.ofInt 2).toInt) ||| Int32.ofInt 0).toInt) ||| Int32.ofInt 8).toInt)]) (st' := [jI 0, jI i, jR 30]) (hp' := (jm_hs h 29 i ((Int32.ofInt ((Int32.ofInt ((Int32.ofInt ((Int32.ofInt 0 ||| Int32.ofInt 0).toInt) ||| Int32.ofInt 2).toInt) ||| Int32.ofInt 0).toInt) ||| Int32.ofInt 8).toInt))) rfl ?_
    refine jE_iast (n := 36) rfl rfl (by omega) ?_
    refine jm_Ev.bl 2 (pc' := 2) (A' := [jR 20, jR 3, jI (i + 1), jI x, jI y, jI 0, jI 1, jI 1, jI 0, jI ((Int32.ofInt ((Int32.ofInt ((Int32.ofInt ((Int32.ofInt 0 ||| Int32.ofInt 0).toInt) ||| Int32.ofInt 2).toInt) ||| Int32.ofInt 0).toInt) ||| Int32.ofInt 8).toInt)]) (st' := []) (hp' := (jm_hs (jm_hs h 29 i ((Int32.ofInt ((Int32.ofInt ((Int32.ofInt ((Int32.ofInt 0 ||| Int32.ofInt 0).toInt) ||| Int32.ofInt 2).toInt) ||| Int32.ofInt 0).toInt) ||| Int32.ofInt 8).toInt)) 30 i 0)) rfl ?_
    rw [show ((Int32.ofInt ((Int32.ofInt ((Int32.ofInt ((Int32.ofInt 0 ||| Int32.ofInt 0).toInt) ||| Int32.ofInt 2).toInt) ||| Int32.ofInt 0).toInt) ||| Int32.ofInt 8).toInt) = jeb false true true false by decide]
    exact k _ _ _ _ _
  · refine jm_Ev.bl 4 (pc' := 70) (A' := [jR 20, jR 3, jI i, jI x, jI y, jI 0, jI 1, jI 1, jI 1, jI 0]) (st' := [jI 1, jI 0]) (hp' := h) rfl ?_
    refine jE_if_eq rfl (by omega) (fun c70 => absurd c70 (by omega)) (fun _ => ?_)
    refine jm_Ev.bl 1 (pc' := 75) (A' := [jR 20, jR 3, jI i, jI x, jI y, jI 0, jI 1, jI 1, jI 1, jI 0]) (st' := [jI 1, jI 0]) (hp' := h) rfl ?_
    refine jE_if_ne rfl (by omega) (fun _ => ?_) (fun c75 => absurd c75 (by omega))
    refine jm_Ev.bl 5 (pc' := 90) (A' := [jR 20, jR 3, jI i, jI x, jI y, jI 0, jI 1, jI 1, jI 1, jI ((Int32.ofInt 0 ||| Int32.ofInt 0).toInt)]) (st' := [jI 1, jI ((Int32.ofInt 0 ||| Int32.ofInt 0).toInt)]) (hp' := h) rfl ?_
    refine jE_if_eq rfl (by omega) (fun c90 => absurd c90 (by omega)) (fun _ => ?_)
    refine jm_Ev.bl 1 (pc' := 95) (A' := [jR 20, jR 3, jI i, jI x, jI y, jI 0, jI 1, jI 1, jI 1, jI ((Int32.ofInt 0 ||| Int32.ofInt 0).toInt)]) (st' := [jI 1, jI ((Int32.ofInt 0 ||| Int32.ofInt 0).toInt)]) (hp' := h) rfl ?_
    refine jE_if_ne rfl (by omega) (fun _ => ?_) (fun c95 => absurd c95 (by omega))
    refine jm_Ev.bl 5 (pc' := 110) (A' := [jR 20, jR 3, jI i, jI x, jI y, jI 0, jI 1, jI 1, jI 1, jI ((Int32.ofInt ((Int32.ofInt 0 ||| Int32.ofInt 0).toInt) ||| Int32.ofInt 0).toInt)]) (st' := [jI 0, jI ((Int32.ofInt ((Int32.ofInt 0 ||| Int32.ofInt 0).toInt) ||| Int32.ofInt 0).toInt)]) (hp' := h) rfl ?_
    refine jE_if_eq rfl (by omega) (fun _ => ?_) (fun c110 => absurd c110 (by omega))
    refine jm_Ev.bl 5 (pc' := 130) (A' := [jR 20, jR 3, jI i, jI x, jI y, jI 0, jI 1, jI 1, jI 1, jI ((Int32.ofInt ((Int32.ofInt ((Int32.ofInt 0 ||| Int32.ofInt 0).toInt) ||| Int32.ofInt 0).toInt) ||| Int32.ofInt 0).toInt)]) (st' := [jI 1, jI ((Int32.ofInt ((Int32.ofInt ((Int32.ofInt 0 ||| Int32.ofInt 0).toInt) ||| Int32.ofInt 0).toInt) ||| Int32.ofInt 0).toInt)]) (hp' := h) rfl ?_
    refine jE_if_eq rfl (by omega) (fun c130 => absurd c130 (by omega)) (fun _ => ?_)
    refine jm_Ev.bl 1 (pc' := 135) (A' := [jR 20, jR 3, jI i, jI x, jI y, jI 0, jI 1, jI 1, jI 1, jI ((Int32.ofInt ((Int32.ofInt ((Int32.ofInt 0 ||| Int32.ofInt 0).toInt) ||| Int32.ofInt 0).toInt) ||| Int32.ofInt 0).toInt)]) (st' := [jI 0, jI ((Int32.ofInt ((Int32.ofInt ((Int32.ofInt 0 ||| Int32.ofInt 0).toInt) ||| Int32.ofInt 0).toInt) ||| Int32.ofInt 0).toInt)]) (hp' := h) rfl ?_
    refine jE_if_ne rfl (by omega) (fun c135 => absurd c135 (by omega)) (fun _ => ?_)
    refine jm_Ev.bl 8 (pc' := 154) (A' := [jR 20, jR 3, jI i, jI x, jI y, jI 0, jI 1, jI 1, jI 1, jI ((Int32.ofInt ((Int32.ofInt ((Int32.ofInt ((Int32.ofInt 0 ||| Int32.ofInt 0).toInt) ||| Int32.ofInt 0).toInt) ||| Int32.ofInt 0).toInt) ||| Int32.ofInt 8).toInt)]) (st' := [jI ((Int32.ofInt ((Int32.ofInt ((Int32.ofInt ((Int32.ofInt 0 ||| Int32.ofInt 0).toInt) ||| Int32.ofInt 0).toInt) ||| Int32.ofInt 0).toInt) ||| Int32.ofInt 8).toInt), jI i, jR 29]) (hp' := h) rfl ?_
    refine jE_iast (n := 36) rfl rfl (by omega) ?_
    refine jm_Ev.bl 4 (pc' := 161) (A' := [jR 20, jR 3, jI i, jI x, jI y, jI 0, jI 1, jI 1, jI 1, jI ((Int32.ofInt ((Int32.ofInt ((Int32.ofInt ((Int32.ofInt 0 ||| Int32.ofInt 0).toInt) ||| Int32.ofInt 0).toInt) ||| Int32.ofInt 0).toInt) ||| Int32.ofInt 8).toInt)]) (st' := [jI 0, jI i, jR 30]) (hp' := (jm_hs h 29 i ((Int32.ofInt ((Int32.ofInt ((Int32.ofInt ((Int32.ofInt 0 ||| Int32.ofInt 0).toInt) ||| Int32.ofInt 0).toInt) ||| Int32.ofInt 0).toInt) ||| Int32.ofInt 8).toInt))) rfl ?_
    refine jE_iast (n := 36) rfl rfl (by omega) ?_
    refine jm_Ev.bl 2 (pc' := 2) (A' := [jR 20, jR 3, jI (i + 1), jI x, jI y, jI 0, jI 1, jI 1, jI 1, jI ((Int32.ofInt ((Int32.ofInt ((Int32.ofInt ((Int32.ofInt 0 ||| Int32.ofInt 0).toInt) ||| Int32.ofInt 0).toInt) ||| Int32.ofInt 0).toInt) ||| Int32.ofInt 8).toInt)]) (st' := []) (hp' := (jm_hs (jm_hs h 29 i ((Int32.ofInt ((Int32.ofInt ((Int32.ofInt ((Int32.ofInt 0 ||| Int32.ofInt 0).toInt) ||| Int32.ofInt 0).toInt) ||| Int32.ofInt 0).toInt) ||| Int32.ofInt 8).toInt)) 30 i 0)) rfl ?_
    rw [show ((Int32.ofInt ((Int32.ofInt ((Int32.ofInt ((Int32.ofInt 0 ||| Int32.ofInt 0).toInt) ||| Int32.ofInt 0).toInt) ||| Int32.ofInt 0).toInt) ||| Int32.ofInt 8).toInt) = jeb false true true true by decide]
    exact k _ _ _ _ _
  · refine jm_Ev.bl 4 (pc' := 70) (A' := [jR 20, jR 3, jI i, jI x, jI y, jI 1, jI 0, jI 0, jI 0, jI 0]) (st' := [jI 0, jI 0]) (hp' := h) rfl ?_
    refine jE_if_eq rfl (by omega) (fun _ => ?_) (fun c70 => absurd c70 (by omega))
    refine jm_Ev.bl 5 (pc' := 90) (A' := [jR 20, jR 3, jI i, jI x, jI y, jI 1, jI 0, jI 0, jI 0, jI ((Int32.ofInt 0 ||| Int32.ofInt 0).toInt)]) (st' := [jI 0, jI ((Int32.ofInt 0 ||| Int32.ofInt 0).toInt)]) (hp' := h) rfl ?_
    refine jE_if_eq rfl (by omega) (fun _ => ?_) (fun c90 => absurd c90 (by omega))
    refine jm_Ev.bl 5 (pc' := 110) (A' := [jR 20, jR 3, jI i, jI x, jI y, jI 1, jI 0, jI 0, jI 0, jI ((Int32.ofInt ((Int32.ofInt 0 ||| Int32.ofInt 0).toInt) ||| Int32.ofInt 0).toInt)]) (st' := [jI 1, jI ((Int32.ofInt ((Int32.ofInt 0 ||| Int32.ofInt 0).toInt) ||| Int32.ofInt 0).toInt)]) (hp' := h) rfl ?_
    refine jE_if_eq rfl (by omega) (fun c110 => absurd c110 (by omega)) (fun _ => ?_)
    refine jm_Ev.bl 1 (pc' := 115) (A' := [jR 20, jR 3, jI i, jI x, jI y, jI 1, jI 0, jI 0, jI 0, jI ((Int32.ofInt ((Int32.ofInt 0 ||| Int32.ofInt 0).toInt) ||| Int32.ofInt 0).toInt)]) (st' := [jI 0, jI ((Int32.ofInt ((Int32.ofInt 0 ||| Int32.ofInt 0).toInt) ||| Int32.ofInt 0).toInt)]) (hp' := h) rfl ?_
    refine jE_if_ne rfl (by omega) (fun c115 => absurd c115 (by omega)) (fun _ => ?_)
    refine jm_Ev.bl 6 (pc' := 130) (A' := [jR 20, jR 3, jI i, jI x, jI y, jI 1, jI 0, jI 0, jI 0, jI ((Int32.ofInt ((Int32.ofInt ((Int32.ofInt 0 ||| Int32.ofInt 0).toInt) ||| Int32.ofInt 0).toInt) ||| Int32.ofInt 4).toInt)]) (st' := [jI 0, jI ((Int32.ofInt ((Int32.ofInt ((Int32.ofInt 0 ||| Int32.ofInt 0).toInt) ||| Int32.ofInt 0).toInt) ||| Int32.ofInt 4).toInt)]) (hp' := h) rfl ?_
    refine jE_if_eq rfl (by omega) (fun _ => ?_) (fun c130 => absurd c130 (by omega))
    refine jm_Ev.bl 7 (pc' := 154) (A' := [jR 20, jR 3, jI i, jI x, jI y, jI 1, jI 0, jI 0, jI 0, jI ((Int32.ofInt ((Int32.ofInt ((Int32.ofInt ((Int32.ofInt 0 ||| Int32.ofInt 0).toInt) ||| Int32.ofInt 0).toInt) ||| Int32.ofInt 4).toInt) ||| Int32.ofInt 0).toInt)]) (st' := [jI ((Int32.ofInt ((Int32.ofInt ((Int32.ofInt ((Int32.ofInt 0 ||| Int32.ofInt 0).toInt) ||| Int32.ofInt 0).toInt) ||| Int32.ofInt 4).toInt) ||| Int32.ofInt 0).toInt), jI i, jR 29]) (hp' := h) rfl ?_
    refine jE_iast (n := 36) rfl rfl (by omega) ?_
    refine jm_Ev.bl 4 (pc' := 161) (A' := [jR 20, jR 3, jI i, jI x, jI y, jI 1, jI 0, jI 0, jI 0, jI ((Int32.ofInt ((Int32.ofInt ((Int32.ofInt ((Int32.ofInt 0 ||| Int32.ofInt 0).toInt) ||| Int32.ofInt 0).toInt) ||| Int32.ofInt 4).toInt) ||| Int32.ofInt 0).toInt)]) (st' := [jI 0, jI i, jR 30]) (hp' := (jm_hs h 29 i ((Int32.ofInt ((Int32.ofInt ((Int32.ofInt ((Int32.ofInt 0 ||| Int32.ofInt 0).toInt) ||| Int32.ofInt 0).toInt) ||| Int32.ofInt 4).toInt) ||| Int32.ofInt 0).toInt))) rfl ?_
    refine jE_iast (n := 36) rfl rfl (by omega) ?_
    refine jm_Ev.bl 2 (pc' := 2) (A' := [jR 20, jR 3, jI (i + 1), jI x, jI y, jI 1, jI 0, jI 0, jI 0, jI ((Int32.ofInt ((Int32.ofInt ((Int32.ofInt ((Int32.ofInt 0 ||| Int32.ofInt 0).toInt) ||| Int32.ofInt 0).toInt) ||| Int32.ofInt 4).toInt) ||| Int32.ofInt 0).toInt)]) (st' := []) (hp' := (jm_hs (jm_hs h 29 i ((Int32.ofInt ((Int32.ofInt ((Int32.ofInt ((Int32.ofInt 0 ||| Int32.ofInt 0).toInt) ||| Int32.ofInt 0).toInt) ||| Int32.ofInt 4).toInt) ||| Int32.ofInt 0).toInt)) 30 i 0)) rfl ?_
    rw [show ((Int32.ofInt ((Int32.ofInt ((Int32.ofInt ((Int32.ofInt 0 ||| Int32.ofInt 0).toInt) ||| Int32.ofInt 0).toInt) ||| Int32.ofInt 4).toInt) ||| Int32.ofInt 0).toInt) = jeb true false false false by decide]
    exact k _ _ _ _ _
  · refine jm_Ev.bl 4 (pc' := 70) (A' := [jR 20, jR 3, jI i, jI x, jI y, jI 1, jI 0, jI 0, jI 1, jI 0]) (st' := [jI 1, jI 0]) (hp' := h) rfl ?_
    refine jE_if_eq rfl (by omega) (fun c70 => absurd c70 (by omega)) (fun _ => ?_)
    refine jm_Ev.bl 1 (pc' := 75) (A' := [jR 20, jR 3, jI i, jI x, jI y, jI 1, jI 0, jI 0, jI 1, jI 0]) (st' := [jI 0, jI 0]) (hp' := h) rfl ?_
    refine jE_if_ne rfl (by omega) (fun c75 => absurd c75 (by omega)) (fun _ => ?_)
    refine jm_Ev.bl 6 (pc' := 90) (A' := [jR 20, jR 3, jI i, jI x, jI y, jI 1, jI 0, jI 0, jI 1, jI ((Int32.ofInt 0 ||| Int32.ofInt 1).toInt)]) (st' := [jI 0, jI ((Int32.ofInt 0 ||| Int32.ofInt 1).toInt)]) (hp' := h) rfl ?_
    refine jE_if_eq rfl (by omega) (fun _ => ?_) (fun c90 => absurd c90 (by omega))
    refine jm_Ev.bl 5 (pc' := 110) (A' := [jR 20, jR 3, jI i, jI x, jI y, jI 1, jI 0, jI 0, jI 1, jI ((Int32.ofInt ((Int32.ofInt 0 ||| Int32.ofInt 1).toInt) ||| Int32.ofInt 0).toInt)]) (st' := [jI 1, jI ((Int32.ofInt ((Int32.ofInt 0 ||| Int32.ofInt 1).toInt) ||| Int32.ofInt 0).toInt)]) (hp' := h) rfl ?_
    refine jE_if_eq rfl (by omega) (fun c110 => absurd c110 (by omega)) (fun _ => ?_)
    refine jm_Ev.bl 1 (pc' := 115) (A' := [jR 20, jR 3, jI i, jI x, jI y, jI 1, jI 0, jI 0, jI 1, jI ((Int32.ofInt ((Int32.ofInt 0 ||| Int32.ofInt 1).toInt) ||| Int32.ofInt 0).toInt)]) (st' := [jI 0, jI ((Int32.ofInt ((Int32.ofInt 0 ||| Int32.ofInt 1).toInt) ||| Int32.ofInt 0).toInt)]) (hp' := h) rfl ?_
    refine jE_if_ne rfl (by omega) (fun c115 => absurd c115 (by omega)) (fun _ => ?_)
    refine jm_Ev.bl 6 (pc' := 130) (A' := [jR 20, jR 3, jI i, jI x, jI y, jI 1, jI 0, jI 0, jI 1, jI ((Int32.ofInt ((Int32.ofInt ((Int32.ofInt 0 ||| Int32.ofInt 1).toInt) ||| Int32.ofInt 0).toInt) ||| Int32.ofInt 4).toInt)]) (st' := [jI 0, jI ((Int32.ofInt ((Int32.ofInt ((Int32.ofInt 0 ||| Int32.ofInt 1).toInt) ||| Int32.ofInt 0).toInt) ||| Int32.ofInt 4).toInt)]) (hp' := h) rfl ?_
    refine jE_if_eq rfl (by omega) (fun _ => ?_) (fun c130 => absurd c130 (by omega))
    refine jm_Ev.bl 7 (pc' := 154) (A' := [jR 20, jR 3, jI i, jI x, jI y, jI 1, jI 0, jI 0, jI 1, jI ((Int32.ofInt ((Int32.ofInt ((Int32.ofInt ((Int32.ofInt 0 ||| Int32.ofInt 1).toInt) ||| Int32.ofInt 0).toInt) ||| Int32.ofInt 4).toInt) ||| Int32.ofInt 0).toInt)]) (st' := [jI ((Int32.ofInt ((Int32.ofInt ((Int32.ofInt ((Int32.ofInt 0 ||| Int32.ofInt 1).toInt) ||| Int32.ofInt 0).toInt) ||| Int32.ofInt 4).toInt) ||| Int32.ofInt 0).toInt), jI i, jR 29]) (hp' := h) rfl ?_
    refine jE_iast (n := 36) rfl rfl (by omega) ?_
    refine jm_Ev.bl 4 (pc' := 161) (A' := [jR 20, jR 3, jI i, jI x, jI y, jI 1, jI 0, jI 0, jI 1, jI ((Int32.ofInt ((Int32.ofInt ((Int32.ofInt ((Int32.ofInt 0 ||| Int32.ofInt 1).toInt) ||| Int32.ofInt 0).toInt) ||| Int32.ofInt 4).toInt) ||| Int32.ofInt 0).toInt)]) (st' := [jI 0, jI i, jR 30]) (hp' := (jm_hs h 29 i ((Int32.ofInt ((Int32.ofInt ((Int32.ofInt ((Int32.ofInt 0 ||| Int32.ofInt 1).toInt) ||| Int32.ofInt 0).toInt) ||| Int32.ofInt 4).toInt) ||| Int32.ofInt 0).toInt))) rfl ?_
    refine jE_iast (n := 36) rfl rfl (by omega) ?_
    refine jm_Ev.bl 2 (pc' := 2) (A' := [jR 20, jR 3, jI (i + 1), jI x, jI y, jI 1, jI 0, jI 0, jI 1, jI ((Int32.ofInt ((Int32.ofInt ((Int32.ofInt ((Int32.ofInt 0 ||| Int32.ofInt 1).toInt) ||| Int32.ofInt 0).toInt) ||| Int32.ofInt 4).toInt) ||| Int32.ofInt 0).toInt)]) (st' := []) (hp' := (jm_hs (jm_hs h 29 i ((Int32.ofInt ((Int32.ofInt ((Int32.ofInt ((Int32.ofInt 0 ||| Int32.ofInt 1).toInt) ||| Int32.ofInt 0).toInt) ||| Int32.ofInt 4).toInt) ||| Int32.ofInt 0).toInt)) 30 i 0)) rfl ?_
    rw [show ((Int32.ofInt ((Int32.ofInt ((Int32.ofInt ((Int32.ofInt 0 ||| Int32.ofInt 1).toInt) ||| Int32.ofInt 0).toInt) ||| Int32.ofInt 4).toInt) ||| Int32.ofInt 0).toInt) = jeb true false false true by decide]
    exact k _ _ _ _ _
  · refine jm_Ev.bl 4 (pc' := 70) (A' := [jR 20, jR 3, jI i, jI x, jI y, jI 1, jI 0, jI 1, jI 0, jI 0]) (st' := [jI 0, jI 0]) (hp' := h) rfl ?_
    refine jE_if_eq rfl (by omega) (fun _ => ?_) (fun c70 => absurd c70 (by omega))
    refine jm_Ev.bl 5 (pc' := 90) (A' := [jR 20, jR 3, jI i, jI x, jI y, jI 1, jI 0, jI 1, jI 0, jI ((Int32.ofInt 0 ||| Int32.ofInt 0).toInt)]) (st' := [jI 1, jI ((Int32.ofInt 0 ||| Int32.ofInt 0).toInt)]) (hp' := h) rfl ?_
    refine jE_if_eq rfl (by omega) (fun c90 => absurd c90 (by omega)) (fun _ => ?_)
    refine jm_Ev.bl 1 (pc' := 95) (A' := [jR 20, jR 3, jI i, jI x, jI y, jI 1, jI 0, jI 1, jI 0, jI ((Int32.ofInt 0 ||| Int32.ofInt 0).toInt)]) (st' := [jI 0, jI ((Int32.ofInt 0 ||| Int32.ofInt 0).toInt)]) (hp' := h) rfl ?_
    refine jE_if_ne rfl (by omega) (fun c95 => absurd c95 (by omega)) (fun _ => ?_)
    refine jm_Ev.bl 6 (pc' := 110) (A' := [jR 20, jR 3, jI i, jI x, jI y, jI 1, jI 0, jI 1, jI 0, jI ((Int32.ofInt ((Int32.ofInt 0 ||| Int32.ofInt 0).toInt) ||| Int32.ofInt 2).toInt)]) (st' := [jI 1, jI ((Int32.ofInt ((Int32.ofInt 0 ||| Int32.ofInt 0).toInt) ||| Int32.ofInt 2).toInt)]) (hp' := h) rfl ?_
    refine jE_if_eq rfl (by omega) (fun c110 => absurd c110 (by omega)) (fun _ => ?_)
    refine jm_Ev.bl 1 (pc' := 115) (A' := [jR 20, jR 3, jI i, jI x, jI y, jI 1, jI 0, jI 1, jI 0, jI ((Int32.ofInt ((Int32.ofInt 0 ||| Int32.ofInt 0).toInt) ||| Int32.ofInt 2).toInt)]) (st' := [jI 1, jI ((Int32.ofInt ((Int32.ofInt 0 ||| Int32.ofInt 0).toInt) ||| Int32.ofInt 2).toInt)]) (hp' := h) rfl ?_
    refine jE_if_ne rfl (by omega) (fun _ => ?_) (fun c115 => absurd c115 (by omega))
    refine jm_Ev.bl 5 (pc' := 130) (A' := [jR 20, jR 3, jI i, jI x, jI y, jI 1, jI 0, jI 1, jI 0, jI ((Int32.ofInt ((Int32.ofInt ((Int32.ofInt 0 ||| Int32.ofInt 0).toInt) ||| Int32.ofInt 2).toInt) ||| Int32.ofInt 0).toInt)]) (st' := [jI 0, jI ((Int32.ofInt ((Int32.ofInt ((Int32.ofInt 0 ||| Int32.ofInt 0).toInt) ||| Int32.ofInt 2).toInt) ||| Int32.ofInt 0).toInt)]) (hp' := h) rfl ?_
    refine jE_if_eq rfl (by omega) (fun _ => ?_) (fun c130 => absurd c130 (by omega))
    refine jm_Ev.bl 7 (pc' := 154) (A' := [jR 20, jR 3, jI i, jI x, jI y, jI 1, jI 0, jI 1, jI 0, jI ((Int32.ofInt ((Int32.ofInt ((Int32.ofInt ((Int32.ofInt 0 ||| Int32.ofInt 0).toInt) ||| Int32.ofInt 2).toInt) ||| Int32.ofInt 0).toInt) ||| Int32.ofInt 0).toInt)]) (st' := [jI ((Int32.ofInt ((Int32.ofInt ((Int32.ofInt ((Int32.ofInt 0 ||| Int32.ofInt 0).toInt) ||| Int32.ofInt 2).toInt) ||| Int32.ofInt 0).toInt) ||| Int32.ofInt 0).toInt), jI i, jR 29]) (hp' := h) rfl ?_
    refine jE_iast (n := 36) rfl rfl (by omega) ?_
    refine jm_Ev.bl 4 (pc' := 161) (A' := [jR 20, jR 3, jI i, jI x, jI y, jI 1, jI 0, jI 1, jI 0, jI ((Int32.ofInt ((Int32.ofInt ((Int32.ofInt ((Int32.ofInt 0 ||| Int32.ofInt 0).toInt) ||| Int32.ofInt 2).toInt) ||| Int32.ofInt 0).toInt) ||| Int32.ofInt 0).toInt)]) (st' := [jI 0, jI i, jR 30]) (hp' := (jm_hs h 29 i ((Int32.ofInt ((Int32.ofInt ((Int32.ofInt ((Int32.ofInt 0 ||| Int32.ofInt 0).toInt) ||| Int32.ofInt 2).toInt) ||| Int32.ofInt 0).toInt) ||| Int32.ofInt 0).toInt))) rfl ?_
    refine jE_iast (n := 36) rfl rfl (by omega) ?_
    refine jm_Ev.bl 2 (pc' := 2) (A' := [jR 20, jR 3, jI (i + 1), jI x, jI y, jI 1, jI 0, jI 1, jI 0, jI ((Int32.ofInt ((Int32.ofInt ((Int32.ofInt ((Int32.ofInt 0 ||| Int32.ofInt 0).toInt) ||| Int32.ofInt 2).toInt) ||| Int32.ofInt 0).toInt) ||| Int32.ofInt 0).toInt)]) (st' := []) (hp' := (jm_hs (jm_hs h 29 i ((Int32.ofInt ((Int32.ofInt ((Int32.ofInt ((Int32.ofInt 0 ||| Int32.ofInt 0).toInt) ||| Int32.ofInt 2).toInt) ||| Int32.ofInt 0).toInt) ||| Int32.ofInt 0).toInt)) 30 i 0)) rfl ?_
    rw [show ((Int32.ofInt ((Int32.ofInt ((Int32.ofInt ((Int32.ofInt 0 ||| Int32.ofInt 0).toInt) ||| Int32.ofInt 2).toInt) ||| Int32.ofInt 0).toInt) ||| Int32.ofInt 0).toInt) = jeb true false true false by decide]
    exact k _ _ _ _ _
  · refine jm_Ev.bl 4 (pc' := 70) (A' := [jR 20, jR 3, jI i, jI x, jI y, jI 1, jI 0, jI 1, jI 1, jI 0]) (st' := [jI 1, jI 0]) (hp' := h) rfl ?_
    refine jE_if_eq rfl (by omega) (fun c70 => absurd c70 (by omega)) (fun _ => ?_)
    refine jm_Ev.bl 1 (pc' := 75) (A' := [jR 20, jR 3, jI i, jI x, jI y, jI 1, jI 0, jI 1, jI 1, jI 0]) (st' := [jI 0, jI 0]) (hp' := h) rfl ?_
    refine jE_if_ne rfl (by omega) (fun c75 => absurd c75 (by omega)) (fun _ => ?_)
    refine jm_Ev.bl 6 (pc' := 90) (A' := [jR 20, jR 3, jI i, jI x, jI y, jI 1, jI 0, jI 1, jI 1, jI ((Int32.ofInt 0 ||| Int32.ofInt 1).toInt)]) (st' := [jI 1, jI ((Int32.ofInt 0 ||| Int32.ofInt 1).toInt)]) (hp' := h) rfl ?_
    refine jE_if_eq rfl (by omega) (fun c90 => absurd c90 (by omega)) (fun _ => ?_)
    refine jm_Ev.bl 1 (pc' := 95) (A' := [jR 20, jR 3, jI i, jI x, jI y, jI 1, jI 0, jI 1, jI 1, jI ((Int32.ofInt 0 ||| Int32.ofInt 1).toInt)]) (st' := [jI 1, jI ((Int32.ofInt 0 ||| Int32.ofInt 1).toInt)]) (hp' := h) rfl ?_
    refine jE_if_ne rfl (by omega) (fun _ => ?_) (fun c95 => absurd c95 (by omega))
    refine jm_Ev.bl 5 (pc' := 110) (A' := [jR 20, jR 3, jI i, jI x, jI y, jI 1, jI 0, jI 1, jI 1, jI ((Int32.ofInt ((Int32.ofInt 0 ||| Int32.ofInt 1).toInt) ||| Int32.ofInt 0).toInt)]) (st' := [jI 1, jI ((Int32.ofInt ((Int32.ofInt 0 ||| Int32.ofInt 1).toInt) ||| Int32.ofInt 0).toInt)]) (hp' := h) rfl ?_
    refine jE_if_eq rfl (by omega) (fun c110 => absurd c110 (by omega)) (fun _ => ?_)
    refine jm_Ev.bl 1 (pc' := 115) (A' := [jR 20, jR 3, jI i, jI x, jI y, jI 1, jI 0, jI 1, jI 1, jI ((Int32.ofInt ((Int32.ofInt 0 ||| Int32.ofInt 1).toInt) ||| Int32.ofInt 0).toInt)]) (st' := [jI 1, jI ((Int32.ofInt ((Int32.ofInt 0 ||| Int32.ofInt 1).toInt) ||| Int32.ofInt 0).toInt)]) (hp' := h) rfl ?_
    refine jE_if_ne rfl (by omega) (fun _ => ?_) (fun c115 => absurd c115 (by omega))
    refine jm_Ev.bl 5 (pc' := 130) (A' := [jR 20, jR 3, jI i, jI x, jI y, jI 1, jI 0, jI 1, jI 1, jI ((Int32.ofInt ((Int32.ofInt ((Int32.ofInt 0 ||| Int32.ofInt 1).toInt) ||| Int32.ofInt 0).toInt) ||| Int32.ofInt 0).toInt)]) (st' := [jI 0, jI ((Int32.ofInt ((Int32.ofInt ((Int32.ofInt 0 ||| Int32.ofInt 1).toInt) ||| Int32.ofInt 0).toInt) ||| Int32.ofInt 0).toInt)]) (hp' := h) rfl ?_
    refine jE_if_eq rfl (by omega) (fun _ => ?_) (fun c130 => absurd c130 (by omega))
    refine jm_Ev.bl 7 (pc' := 154) (A' := [jR 20, jR 3, jI i, jI x, jI y, jI 1, jI 0, jI 1, jI 1, jI ((Int32.ofInt ((Int32.ofInt ((Int32.ofInt ((Int32.ofInt 0 ||| Int32.ofInt 1).toInt) ||| Int32.ofInt 0).toInt) ||| Int32.ofInt 0).toInt) ||| Int32.ofInt 0).toInt)]) (st' := [jI ((Int32.ofInt ((Int32.ofInt ((Int32.ofInt ((Int32.ofInt 0 ||| Int32.ofInt 1).toInt) ||| Int32.ofInt 0).toInt) ||| Int32.ofInt 0).toInt) ||| Int32.ofInt 0).toInt), jI i, jR 29]) (hp' := h) rfl ?_
    refine jE_iast (n := 36) rfl rfl (by omega) ?_
    refine jm_Ev.bl 4 (pc' := 161) (A' := [jR 20, jR 3, jI i, jI x, jI y, jI 1, jI 0, jI 1, jI 1, jI ((Int32.ofInt ((Int32.ofInt ((Int32.ofInt ((Int32.ofInt 0 ||| Int32.ofInt 1).toInt) ||| Int32.ofInt 0).toInt) ||| Int32.ofInt 0).toInt) ||| Int32.ofInt 0).toInt)]) (st' := [jI 0, jI i, jR 30]) (hp' := (jm_hs h 29 i ((Int32.ofInt ((Int32.ofInt ((Int32.ofInt ((Int32.ofInt 0 ||| Int32.ofInt 1).toInt) ||| Int32.ofInt 0).toInt) ||| Int32.ofInt 0).toInt) ||| Int32.ofInt 0).toInt))) rfl ?_
    refine jE_iast (n := 36) rfl rfl (by omega) ?_
    refine jm_Ev.bl 2 (pc' := 2) (A' := [jR 20, jR 3, jI (i + 1), jI x, jI y, jI 1, jI 0, jI 1, jI 1, jI ((Int32.ofInt ((Int32.ofInt ((Int32.ofInt ((Int32.ofInt 0 ||| Int32.ofInt 1).toInt) ||| Int32.ofInt 0).toInt) ||| Int32.ofInt 0).toInt) ||| Int32.ofInt 0).toInt)]) (st' := []) (hp' := (jm_hs (jm_hs h 29 i ((Int32.ofInt ((Int32.ofInt ((Int32.ofInt ((Int32.ofInt 0 ||| Int32.ofInt 1).toInt) ||| Int32.ofInt 0).toInt) ||| Int32.ofInt 0).toInt) ||| Int32.ofInt 0).toInt)) 30 i 0)) rfl ?_
    rw [show ((Int32.ofInt ((Int32.ofInt ((Int32.ofInt ((Int32.ofInt 0 ||| Int32.ofInt 1).toInt) ||| Int32.ofInt 0).toInt) ||| Int32.ofInt 0).toInt) ||| Int32.ofInt 0).toInt) = jeb true false true true by decide]
    exact k _ _ _ _ _
  · refine jm_Ev.bl 4 (pc' := 70) (A' := [jR 20, jR 3, jI i, jI x, jI y, jI 1, jI 1, jI 0, jI 0, jI 0]) (st' := [jI 0, jI 0]) (hp' := h) rfl ?_
    refine jE_if_eq rfl (by omega) (fun _ => ?_) (fun c70 => absurd c70 (by omega))
    refine jm_Ev.bl 5 (pc' := 90) (A' := [jR 20, jR 3, jI i, jI x, jI y, jI 1, jI 1, jI 0, jI 0, jI ((Int32.ofInt 0 ||| Int32.ofInt 0).toInt)]) (st' := [jI 0, jI ((Int32.ofInt 0 ||| Int32.ofInt 0).toInt)]) (hp' := h) rfl ?_
    refine jE_if_eq rfl (by omega) (fun _ => ?_) (fun c90 => absurd c90 (by omega))
    refine jm_Ev.bl 5 (pc' := 110) (A' := [jR 20, jR 3, jI i, jI x, jI y, jI 1, jI 1, jI 0, jI 0, jI ((Int32.ofInt ((Int32.ofInt 0 ||| Int32.ofInt 0).toInt) ||| Int32.ofInt 0).toInt)]) (st' := [jI 1, jI ((Int32.ofInt ((Int32.ofInt 0 ||| Int32.ofInt 0).toInt) ||| Int32.ofInt 0).toInt)]) (hp' := h) rfl ?_
    refine jE_if_eq rfl (by omega) (fun c110 => absurd c110 (by omega)) (fun _ => ?_)
    refine jm_Ev.bl 1 (pc' := 115) (A' := [jR 20, jR 3, jI i, jI x, jI y, jI 1, jI 1, jI 0, jI 0, jI ((Int32.ofInt ((Int32.ofInt 0 ||| Int32.ofInt 0).toInt) ||| Int32.ofInt 0).toInt)]) (st' := [jI 0, jI ((Int32.ofInt ((Int32.ofInt 0 ||| Int32.ofInt 0).toInt) ||| Int32.ofInt 0).toInt)]) (hp' := h) rfl ?_
    refine jE_if_ne rfl (by omega) (fun c115 => absurd c115 (by omega)) (fun _ => ?_)
    refine jm_Ev.bl 6 (pc' := 130) (A' := [jR 20, jR 3, jI i, jI x, jI y, jI 1, jI 1, jI 0, jI 0, jI ((Int32.ofInt ((Int32.ofInt ((Int32.ofInt 0 ||| Int32.ofInt 0).toInt) ||| Int32.ofInt 0).toInt) ||| Int32.ofInt 4).toInt)]) (st' := [jI 1, jI ((Int32.ofInt ((Int32.ofInt ((Int32.ofInt 0 ||| Int32.ofInt 0).toInt) ||| Int32.ofInt 0).toInt) ||| Int32.ofInt 4).toInt)]) (hp' := h) rfl ?_
    refine jE_if_eq rfl (by omega) (fun c130 => absurd c130 (by omega)) (fun _ => ?_)
    refine jm_Ev.bl 1 (pc' := 135) (A' := [jR 20, jR 3, jI i, jI x, jI y, jI 1, jI 1, jI 0, jI 0, jI ((Int32.ofInt ((Int32.ofInt ((Int32.ofInt 0 ||| Int32.ofInt 0).toInt) ||| Int32.ofInt 0).toInt) ||| Int32.ofInt 4).toInt)]) (st' := [jI 1, jI ((Int32.ofInt ((Int32.ofInt ((Int32.ofInt 0 ||| Int32.ofInt 0).toInt) ||| Int32.ofInt 0).toInt) ||| Int32.ofInt 4).toInt)]) (hp' := h) rfl ?_
    refine jE_if_ne rfl (by omega) (fun _ => ?_) (fun c135 => absurd c135 (by omega))
    refine jm_Ev.bl 7 (pc' := 154) (A' := [jR 20, jR 3, jI i, jI x, jI y, jI 1, jI 1, jI 0, jI 0, jI ((Int32.ofInt ((Int32.ofInt ((Int32.ofInt ((Int32.ofInt 0 ||| Int32.ofInt 0).toInt) ||| Int32.ofInt 0).toInt) ||| Int32.ofInt 4).toInt) ||| Int32.ofInt 0).toInt)]) (st' := [jI ((Int32.ofInt ((Int32.ofInt ((Int32.ofInt ((Int32.ofInt 0 ||| Int32.ofInt 0).toInt) ||| Int32.ofInt 0).toInt) ||| Int32.ofInt 4).toInt) ||| Int32.ofInt 0).toInt), jI i, jR 29]) (hp' := h) rfl ?_
    refine jE_iast (n := 36) rfl rfl (by omega) ?_
    refine jm_Ev.bl 4 (pc' := 161) (A' := [jR 20, jR 3, jI i, jI x, jI y, jI 1, jI 1, jI 0, jI 0, jI ((Int32.ofInt ((Int32.ofInt ((Int32.ofInt ((Int32.ofInt 0 ||| Int32.ofInt 0).toInt) ||| Int32.ofInt 0).toInt) ||| Int32.ofInt 4).toInt) ||| Int32.ofInt 0).toInt)]) (st' := [jI 0, jI i, jR 30]) (hp' := (jm_hs h 29 i ((Int32.ofInt ((Int32.ofInt ((Int32.ofInt ((Int32.ofInt 0 ||| Int32.ofInt 0).toInt) ||| Int32.ofInt 0).toInt) ||| Int32.ofInt 4).toInt) ||| Int32.ofInt 0).toInt))) rfl ?_
    refine jE_iast (n := 36) rfl rfl (by omega) ?_
    refine jm_Ev.bl 2 (pc' := 2) (A' := [jR 20, jR 3, jI (i + 1), jI x, jI y, jI 1, jI 1, jI 0, jI 0, jI ((Int32.ofInt ((Int32.ofInt ((Int32.ofInt ((Int32.ofInt 0 ||| Int32.ofInt 0).toInt) ||| Int32.ofInt 0).toInt) ||| Int32.ofInt 4).toInt) ||| Int32.ofInt 0).toInt)]) (st' := []) (hp' := (jm_hs (jm_hs h 29 i ((Int32.ofInt ((Int32.ofInt ((Int32.ofInt ((Int32.ofInt 0 ||| Int32.ofInt 0).toInt) ||| Int32.ofInt 0).toInt) ||| Int32.ofInt 4).toInt) ||| Int32.ofInt 0).toInt)) 30 i 0)) rfl ?_
    rw [show ((Int32.ofInt ((Int32.ofInt ((Int32.ofInt ((Int32.ofInt 0 ||| Int32.ofInt 0).toInt) ||| Int32.ofInt 0).toInt) ||| Int32.ofInt 4).toInt) ||| Int32.ofInt 0).toInt) = jeb true true false false by decide]
    exact k _ _ _ _ _
  · refine jm_Ev.bl 4 (pc' := 70) (A' := [jR 20, jR 3, jI i, jI x, jI y, jI 1, jI 1, jI 0, jI 1, jI 0]) (st' := [jI 1, jI 0]) (hp' := h) rfl ?_
    refine jE_if_eq rfl (by omega) (fun c70 => absurd c70 (by omega)) (fun _ => ?_)
    refine jm_Ev.bl 1 (pc' := 75) (A' := [jR 20, jR 3, jI i, jI x, jI y, jI 1, jI 1, jI 0, jI 1, jI 0]) (st' := [jI 1, jI 0]) (hp' := h) rfl ?_
    refine jE_if_ne rfl (by omega) (fun _ => ?_) (fun c75 => absurd c75 (by omega))
    refine jm_Ev.bl 5 (pc' := 90) (A' := [jR 20, jR 3, jI i, jI x, jI y, jI 1, jI 1, jI 0, jI 1, jI ((Int32.ofInt 0 ||| Int32.ofInt 0).toInt)]) (st' := [jI 0, jI ((Int32.ofInt 0 ||| Int32.ofInt 0).toInt)]) (hp' := h) rfl ?_
    refine jE_if_eq rfl (by omega) (fun _ => ?_) (fun c90 => absurd c90 (by omega))
    refine jm_Ev.bl 5 (pc' := 110) (A' := [jR 20, jR 3, jI i, jI x, jI y, jI 1, jI 1, jI 0, jI 1, jI ((Int32.ofInt ((Int32.ofInt 0 ||| Int32.ofInt 0).toInt) ||| Int32.ofInt 0).toInt)]) (st' := [jI 1, jI ((Int32.ofInt ((Int32.ofInt 0 ||| Int32.ofInt 0).toInt) ||| Int32.ofInt 0).toInt)]) (hp' := h) rfl ?_
    refine jE_if_eq rfl (by omega) (fun c110 => absurd c110 (by omega)) (fun _ => ?_)
    refine jm_Ev.bl 1 (pc' := 115) (A' := [jR 20, jR 3, jI i, jI x, jI y, jI 1, jI 1, jI 0, jI 1, jI ((Int32.ofInt ((Int32.ofInt 0 ||| Int32.ofInt 0).toInt) ||| Int32.ofInt 0).toInt)]) (st' := [jI 0, jI ((Int32.ofInt ((Int32.ofInt 0 ||| Int32.ofInt 0).toInt) ||| Int32.ofInt 0).toInt)]) (hp' := h) rfl ?_
    refine jE_if_ne rfl (by omega) (fun c115 => absurd c115 (by omega)) (fun _ => ?_)
    refine jm_Ev.bl 6 (pc' := 130) (A' := [jR 20, jR 3, jI i, jI x, jI y, jI 1, jI 1, jI 0, jI 1, jI ((Int32.ofInt ((Int32.ofInt ((Int32.ofInt 0 ||| Int32.ofInt 0).toInt) ||| Int32.ofInt 0).toInt) ||| Int32.ofInt 4).toInt)]) (st' := [jI 1, jI ((Int32.ofInt ((Int32.ofInt ((Int32.ofInt 0 ||| Int32.ofInt 0).toInt) ||| Int32.ofInt 0).toInt) ||| Int32.ofInt 4).toInt)]) (hp' := h) rfl ?_
    refine jE_if_eq rfl (by omega) (fun c130 => absurd c130 (by omega)) (fun _ => ?_)
    refine jm_Ev.bl 1 (pc' := 135) (A' := [jR 20, jR 3, jI i, jI x, jI y, jI 1, jI 1, jI 0, jI 1, jI ((Int32.ofInt ((Int32.ofInt ((Int32.ofInt 0 ||| Int32.ofInt 0).toInt) ||| Int32.ofInt 0).toInt) ||| Int32.ofInt 4).toInt)]) (st' := [jI 1, jI ((Int32.ofInt ((Int32.ofInt ((Int32.ofInt 0 ||| Int32.ofInt 0).toInt) ||| Int32.ofInt 0).toInt) ||| Int32.ofInt 4).toInt)]) (hp' := h) rfl ?_
    refine jE_if_ne rfl (by omega) (fun _ => ?_) (fun c135 => absurd c135 (by omega))
    refine jm_Ev.bl 7 (pc' := 154) (A' := [jR 20, jR 3, jI i, jI x, jI y, jI 1, jI 1, jI 0, jI 1, jI ((Int32.ofInt ((Int32.ofInt ((Int32.ofInt ((Int32.ofInt 0 ||| Int32.ofInt 0).toInt) ||| Int32.ofInt 0).toInt) ||| Int32.ofInt 4).toInt) ||| Int32.ofInt 0).toInt)]) (st' := [jI ((Int32.ofInt ((Int32.ofInt ((Int32.ofInt ((Int32.ofInt 0 ||| Int32.ofInt 0).toInt) ||| Int32.ofInt 0).toInt) ||| Int32.ofInt 4).toInt) ||| Int32.ofInt 0).toInt), jI i, jR 29]) (hp' := h) rfl ?_
    refine jE_iast (n := 36) rfl rfl (by omega) ?_
    refine jm_Ev.bl 4 (pc' := 161) (A' := [jR 20, jR 3, jI i, jI x, jI y, jI 1, jI 1, jI 0, jI 1, jI ((Int32.ofInt ((Int32.ofInt ((Int32.ofInt ((Int32.ofInt 0 ||| Int32.ofInt 0).toInt) ||| Int32.ofInt 0).toInt) ||| Int32.ofInt 4).toInt) ||| Int32.ofInt 0).toInt)]) (st' := [jI 0, jI i, jR 30]) (hp' := (jm_hs h 29 i ((Int32.ofInt ((Int32.ofInt ((Int32.ofInt ((Int32.ofInt 0 ||| Int32.ofInt 0).toInt) ||| Int32.ofInt 0).toInt) ||| Int32.ofInt 4).toInt) ||| Int32.ofInt 0).toInt))) rfl ?_
    refine jE_iast (n := 36) rfl rfl (by omega) ?_
    refine jm_Ev.bl 2 (pc' := 2) (A' := [jR 20, jR 3, jI (i + 1), jI x, jI y, jI 1, jI 1, jI 0, jI 1, jI ((Int32.ofInt ((Int32.ofInt ((Int32.ofInt ((Int32.ofInt 0 ||| Int32.ofInt 0).toInt) ||| Int32.ofInt 0).toInt) ||| Int32.ofInt 4).toInt) ||| Int32.ofInt 0).toInt)]) (st' := []) (hp' := (jm_hs (jm_hs h 29 i ((Int32.ofInt ((Int32.ofInt ((Int32.ofInt ((Int32.ofInt 0 ||| Int32.ofInt 0).toInt) ||| Int32.ofInt 0).toInt) ||| Int32.ofInt 4).toInt) ||| Int32.ofInt 0).toInt)) 30 i 0)) rfl ?_
    rw [show ((Int32.ofInt ((Int32.ofInt ((Int32.ofInt ((Int32.ofInt 0 ||| Int32.ofInt 0).toInt) ||| Int32.ofInt 0).toInt) ||| Int32.ofInt 4).toInt) ||| Int32.ofInt 0).toInt) = jeb true true false true by decide]
    exact k _ _ _ _ _
  · refine jm_Ev.bl 4 (pc' := 70) (A' := [jR 20, jR 3, jI i, jI x, jI y, jI 1, jI 1, jI 1, jI 0, jI 0]) (st' := [jI 0, jI 0]) (hp' := h) rfl ?_
    refine jE_if_eq rfl (by omega) (fun _ => ?_) (fun c70 => absurd c70 (by omega))
    refine jm_Ev.bl 5 (pc' := 90) (A' := [jR 20, jR 3, jI i, jI x, jI y, jI 1, jI 1, jI 1, jI 0, jI ((Int32.ofInt 0 ||| Int32.ofInt 0).toInt)]) (st' := [jI 1, jI ((Int32.ofInt 0 ||| Int32.ofInt 0).toInt)]) (hp' := h) rfl ?_
    refine jE_if_eq rfl (by omega) (fun c90 => absurd c90 (by omega)) (fun _ => ?_)
    refine jm_Ev.bl 1 (pc' := 95) (A' := [jR 20, jR 3, jI i, jI x, jI y, jI 1, jI 1, jI 1, jI 0, jI ((Int32.ofInt 0 ||| Int32.ofInt 0).toInt)]) (st' := [jI 0, jI ((Int32.ofInt 0 ||| Int32.ofInt 0).toInt)]) (hp' := h) rfl ?_
    refine jE_if_ne rfl (by omega) (fun c95 => absurd c95 (by omega)) (fun _ => ?_)
    refine jm_Ev.bl 6 (pc' := 110) (A' := [jR 20, jR 3, jI i, jI x, jI y, jI 1, jI 1, jI 1, jI 0, jI ((Int32.ofInt ((Int32.ofInt 0 ||| Int32.ofInt 0).toInt) ||| Int32.ofInt 2).toInt)]) (st' := [jI 1, jI ((Int32.ofInt ((Int32.ofInt 0 ||| Int32.ofInt 0).toInt) ||| Int32.ofInt 2).toInt)]) (hp' := h) rfl ?_
    refine jE_if_eq rfl (by omega) (fun c110 => absurd c110 (by omega)) (fun _ => ?_)
    refine jm_Ev.bl 1 (pc' := 115) (A' := [jR 20, jR 3, jI i, jI x, jI y, jI 1, jI 1, jI 1, jI 0, jI ((Int32.ofInt ((Int32.ofInt 0 ||| Int32.ofInt 0).toInt) ||| Int32.ofInt 2).toInt)]) (st' := [jI 1, jI ((Int32.ofInt ((Int32.ofInt 0 ||| Int32.ofInt 0).toInt) ||| Int32.ofInt 2).toInt)]) (hp' := h) rfl ?_
    refine jE_if_ne rfl (by omega) (fun _ => ?_) (fun c115 => absurd c115 (by omega))
    refine jm_Ev.bl 5 (pc' := 130) (A' := [jR 20, jR 3, jI i, jI x, jI y, jI 1, jI 1, jI 1, jI 0, jI ((Int32.ofInt ((Int32.ofInt ((Int32.ofInt 0 ||| Int32.ofInt 0).toInt) ||| Int32.ofInt 2).toInt) ||| Int32.ofInt 0).toInt)]) (st' := [jI 1, jI ((Int32.ofInt ((Int32.ofInt ((Int32.ofInt 0 ||| Int32.ofInt 0).toInt) ||| Int32.ofInt 2).toInt) ||| Int32.ofInt 0).toInt)]) (hp' := h) rfl ?_
    refine jE_if_eq rfl (by omega) (fun c130 => absurd c130 (by omega)) (fun _ => ?_)
    refine jm_Ev.bl 1 (pc' := 135) (A' := [jR 20, jR 3, jI i, jI x, jI y, jI 1, jI 1, jI 1, jI 0, jI ((Int32.ofInt ((Int32.ofInt ((Int32.ofInt 0 ||| Int32.ofInt 0).toInt) ||| Int32.ofInt 2).toInt) ||| Int32.ofInt 0).toInt)]) (st' := [jI 1, jI ((Int32.ofInt ((Int32.ofInt ((Int32.ofInt 0 ||| Int32.ofInt 0).toInt) ||| Int32.ofInt 2).toInt) ||| Int32.ofInt 0).toInt)]) (hp' := h) rfl ?_
    refine jE_if_ne rfl (by omega) (fun _ => ?_) (fun c135 => absurd c135 (by omega))
    refine jm_Ev.bl 7 (pc' := 154) (A' := [jR 20, jR 3, jI i, jI x, jI y, jI 1, jI 1, jI 1, jI 0, jI ((Int32.ofInt ((Int32.ofInt ((Int32.ofInt ((Int32.ofInt 0 ||| Int32.ofInt 0).toInt) ||| Int32.ofInt 2).toInt) ||| Int32.ofInt 0).toInt) ||| Int32.ofInt 0).toInt)]) (st' := [jI ((Int32.ofInt ((Int32.ofInt ((Int32.ofInt ((Int32.ofInt 0 ||| Int32.ofInt 0).toInt) ||| Int32.ofInt 2).toInt) ||| Int32.ofInt 0).toInt) ||| Int32.ofInt 0).toInt), jI i, jR 29]) (hp' := h) rfl ?_
    refine jE_iast (n := 36) rfl rfl (by omega) ?_
    refine jm_Ev.bl 4 (pc' := 161) (A' := [jR 20, jR 3, jI i, jI x, jI y, jI 1, jI 1, jI 1, jI 0, jI ((Int32.ofInt ((Int32.ofInt ((Int32.ofInt ((Int32.ofInt 0 ||| Int32.ofInt 0).toInt) ||| Int32.ofInt 2).toInt) ||| Int32.ofInt 0).toInt) ||| Int32.ofInt 0).toInt)]) (st' := [jI 0, jI i, jR 30]) (hp' := (jm_hs h 29 i ((Int32.ofInt ((Int32.ofInt ((Int32.ofInt ((Int32.ofInt 0 ||| Int32.ofInt 0).toInt) ||| Int32.ofInt 2).toInt) ||| Int32.ofInt 0).toInt) ||| Int32.ofInt 0).toInt))) rfl ?_
    refine jE_iast (n := 36) rfl rfl (by omega) ?_
    refine jm_Ev.bl 2 (pc' := 2) (A' := [jR 20, jR 3, jI (i + 1), jI x, jI y, jI 1, jI 1, jI 1, jI 0, jI ((Int32.ofInt ((Int32.ofInt ((Int32.ofInt ((Int32.ofInt 0 ||| Int32.ofInt 0).toInt) ||| Int32.ofInt 2).toInt) ||| Int32.ofInt 0).toInt) ||| Int32.ofInt 0).toInt)]) (st' := []) (hp' := (jm_hs (jm_hs h 29 i ((Int32.ofInt ((Int32.ofInt ((Int32.ofInt ((Int32.ofInt 0 ||| Int32.ofInt 0).toInt) ||| Int32.ofInt 2).toInt) ||| Int32.ofInt 0).toInt) ||| Int32.ofInt 0).toInt)) 30 i 0)) rfl ?_
    rw [show ((Int32.ofInt ((Int32.ofInt ((Int32.ofInt ((Int32.ofInt 0 ||| Int32.ofInt 0).toInt) ||| Int32.ofInt 2).toInt) ||| Int32.ofInt 0).toInt) ||| Int32.ofInt 0).toInt) = jeb true true true false by decide]
    exact k _ _ _ _ _
  · refine jm_Ev.bl 4 (pc' := 70) (A' := [jR 20, jR 3, jI i, jI x, jI y, jI 1, jI 1, jI 1, jI 1, jI 0]) (st' := [jI 1, jI 0]) (hp' := h) rfl ?_
    refine jE_if_eq rfl (by omega) (fun c70 => absurd c70 (by omega)) (fun _ => ?_)
    refine jm_Ev.bl 1 (pc' := 75) (A' := [jR 20, jR 3, jI i, jI x, jI y, jI 1, jI 1, jI 1, jI 1, jI 0]) (st' := [jI 1, jI 0]) (hp' := h) rfl ?_
    refine jE_if_ne rfl (by omega) (fun _ => ?_) (fun c75 => absurd c75 (by omega))
    refine jm_Ev.bl 5 (pc' := 90) (A' := [jR 20, jR 3, jI i, jI x, jI y, jI 1, jI 1, jI 1, jI 1, jI ((Int32.ofInt 0 ||| Int32.ofInt 0).toInt)]) (st' := [jI 1, jI ((Int32.ofInt 0 ||| Int32.ofInt 0).toInt)]) (hp' := h) rfl ?_
    refine jE_if_eq rfl (by omega) (fun c90 => absurd c90 (by omega)) (fun _ => ?_)
    refine jm_Ev.bl 1 (pc' := 95) (A' := [jR 20, jR 3, jI i, jI x, jI y, jI 1, jI 1, jI 1, jI 1, jI ((Int32.ofInt 0 ||| Int32.ofInt 0).toInt)]) (st' := [jI 1, jI ((Int32.ofInt 0 ||| Int32.ofInt 0).toInt)]) (hp' := h) rfl ?_
    refine jE_if_ne rfl (by omega) (fun _ => ?_) (fun c95 => absurd c95 (by omega))
    refine jm_Ev.bl 5 (pc' := 110) (A' := [jR 20, jR 3, jI i, jI x, jI y, jI 1, jI 1, jI 1, jI 1, jI ((Int32.ofInt ((Int32.ofInt 0 ||| Int32.ofInt 0).toInt) ||| Int32.ofInt 0).toInt)]) (st' := [jI 1, jI ((Int32.ofInt ((Int32.ofInt 0 ||| Int32.ofInt 0).toInt) ||| Int32.ofInt 0).toInt)]) (hp' := h) rfl ?_
    refine jE_if_eq rfl (by omega) (fun c110 => absurd c110 (by omega)) (fun _ => ?_)
    refine jm_Ev.bl 1 (pc' := 115) (A' := [jR 20, jR 3, jI i, jI x, jI y, jI 1, jI 1, jI 1, jI 1, jI ((Int32.ofInt ((Int32.ofInt 0 ||| Int32.ofInt 0).toInt) ||| Int32.ofInt 0).toInt)]) (st' := [jI 1, jI ((Int32.ofInt ((Int32.ofInt 0 ||| Int32.ofInt 0).toInt) ||| Int32.ofInt 0).toInt)]) (hp' := h) rfl ?_
    refine jE_if_ne rfl (by omega) (fun _ => ?_) (fun c115 => absurd c115 (by omega))
    refine jm_Ev.bl 5 (pc' := 130) (A' := [jR 20, jR 3, jI i, jI x, jI y, jI 1, jI 1, jI 1, jI 1, jI ((Int32.ofInt ((Int32.ofInt ((Int32.ofInt 0 ||| Int32.ofInt 0).toInt) ||| Int32.ofInt 0).toInt) ||| Int32.ofInt 0).toInt)]) (st' := [jI 1, jI ((Int32.ofInt ((Int32.ofInt ((Int32.ofInt 0 ||| Int32.ofInt 0).toInt) ||| Int32.ofInt 0).toInt) ||| Int32.ofInt 0).toInt)]) (hp' := h) rfl ?_
    refine jE_if_eq rfl (by omega) (fun c130 => absurd c130 (by omega)) (fun _ => ?_)
    refine jm_Ev.bl 1 (pc' := 135) (A' := [jR 20, jR 3, jI i, jI x, jI y, jI 1, jI 1, jI 1, jI 1, jI ((Int32.ofInt ((Int32.ofInt ((Int32.ofInt 0 ||| Int32.ofInt 0).toInt) ||| Int32.ofInt 0).toInt) ||| Int32.ofInt 0).toInt)]) (st' := [jI 1, jI ((Int32.ofInt ((Int32.ofInt ((Int32.ofInt 0 ||| Int32.ofInt 0).toInt) ||| Int32.ofInt 0).toInt) ||| Int32.ofInt 0).toInt)]) (hp' := h) rfl ?_
    refine jE_if_ne rfl (by omega) (fun _ => ?_) (fun c135 => absurd c135 (by omega))
    refine jm_Ev.bl 7 (pc' := 154) (A' := [jR 20, jR 3, jI i, jI x, jI y, jI 1, jI 1, jI 1, jI 1, jI ((Int32.ofInt ((Int32.ofInt ((Int32.ofInt ((Int32.ofInt 0 ||| Int32.ofInt 0).toInt) ||| Int32.ofInt 0).toInt) ||| Int32.ofInt 0).toInt) ||| Int32.ofInt 0).toInt)]) (st' := [jI ((Int32.ofInt ((Int32.ofInt ((Int32.ofInt ((Int32.ofInt 0 ||| Int32.ofInt 0).toInt) ||| Int32.ofInt 0).toInt) ||| Int32.ofInt 0).toInt) ||| Int32.ofInt 0).toInt), jI i, jR 29]) (hp' := h) rfl ?_
    refine jE_iast (n := 36) rfl rfl (by omega) ?_
    refine jm_Ev.bl 4 (pc' := 161) (A' := [jR 20, jR 3, jI i, jI x, jI y, jI 1, jI 1, jI 1, jI 1, jI ((Int32.ofInt ((Int32.ofInt ((Int32.ofInt ((Int32.ofInt 0 ||| Int32.ofInt 0).toInt) ||| Int32.ofInt 0).toInt) ||| Int32.ofInt 0).toInt) ||| Int32.ofInt 0).toInt)]) (st' := [jI 0, jI i, jR 30]) (hp' := (jm_hs h 29 i ((Int32.ofInt ((Int32.ofInt ((Int32.ofInt ((Int32.ofInt 0 ||| Int32.ofInt 0).toInt) ||| Int32.ofInt 0).toInt) ||| Int32.ofInt 0).toInt) ||| Int32.ofInt 0).toInt))) rfl ?_
    refine jE_iast (n := 36) rfl rfl (by omega) ?_
    refine jm_Ev.bl 2 (pc' := 2) (A' := [jR 20, jR 3, jI (i + 1), jI x, jI y, jI 1, jI 1, jI 1, jI 1, jI ((Int32.ofInt ((Int32.ofInt ((Int32.ofInt ((Int32.ofInt 0 ||| Int32.ofInt 0).toInt) ||| Int32.ofInt 0).toInt) ||| Int32.ofInt 0).toInt) ||| Int32.ofInt 0).toInt)]) (st' := []) (hp' := (jm_hs (jm_hs h 29 i ((Int32.ofInt ((Int32.ofInt ((Int32.ofInt ((Int32.ofInt 0 ||| Int32.ofInt 0).toInt) ||| Int32.ofInt 0).toInt) ||| Int32.ofInt 0).toInt) ||| Int32.ofInt 0).toInt)) 30 i 0)) rfl ?_
    rw [show ((Int32.ofInt ((Int32.ofInt ((Int32.ofInt ((Int32.ofInt 0 ||| Int32.ofInt 0).toInt) ||| Int32.ofInt 0).toInt) ||| Int32.ofInt 0).toInt) ||| Int32.ofInt 0).toInt) = jeb true true true true by decide]
    exact k _ _ _ _ _
def jfe_20 (hp : jm_H) : Option jm_V → jm_H → Prop := fun rv h => rv = none ∧ (∀ x y, 0 ≤ x → x ≤ 5 → 0 ≤ y → y ≤ 5 → h 29 (y * 6 + x) = jeb (jD (jgk (hp 3 1) (hp 3 2) (hp 4)) (x - 1) (y - 1)) (jD (jgk (hp 3 1) (hp 3 2) (hp 4)) x (y - 1)) (jD (jgk (hp 3 1) (hp 3 2) (hp 4)) (x - 1) y) (jD (jgk (hp 3 1) (hp 3 2) (hp 4)) x y)) ∧ (∀ j, 0 ≤ j → j < 36 → h 30 j = 0) ∧ jFr hp h [29, 30]
theorem c_o_fe_L_20 (hp : jm_H) (hG : jG hp 3 4) : ∀ (n : Nat) (i : Int) (a1 a2 a3 a4 a5 a6 a7 : jm_V) (h : jm_H), 0 ≤ i → i ≤ 36 → (∀ x y, 0 ≤ x → x ≤ 5 → 0 ≤ y → y * 6 + x < i → h 29 (y * 6 + x) = jeb (jD (jgk (hp 3 1) (hp 3 2) (hp 4)) (x - 1) (y - 1)) (jD (jgk (hp 3 1) (hp 3 2) (hp 4)) x (y - 1)) (jD (jgk (hp 3 1) (hp 3 2) (hp 4)) (x - 1) y) (jD (jgk (hp 3 1) (hp 3 2) (hp 4)) x y)) → (∀ j, 0 ≤ j → j < i → h 30 j = 0) → jFr hp h [29, 30] → 36 - i < n → jm_Ev 49 2 [jR 20, jR 3, jI i, a1, a2, a3, a4, a5, a6, a7] [] h (jfe_20 hp) := by
  intro n
  induction n with
  | zero => intro i a1 a2 a3 a4 a5 a6 a7 h hi0 hi1 hc hz hf hn; omega
  | succ n ih =>
    intro i a1 a2 a3 a4 a5 a6 a7 h hi0 hi1 hc hz hf hn
    have hG1 : jG h 3 4 := by unfold jG; rw [hf 3 (by decide), hf 4 (by decide)]; exact hG
    refine jm_Ev.bl 2 (pc' := 5) (A' := [jR 20, jR 3, jI i, a1, a2, a3, a4, a5, a6, a7]) (st' := [jI 36, jI i]) (hp' := h) rfl ?_
    refine jE_icmp_ge rfl (by omega) (by omega) (fun c5 => ?_) (fun c5 => ?_)
    · have e : i = 36 := by omega
      subst e
      exact jE_ret rfl ⟨rfl, fun x y a b c d => hc x y a b c (by omega), hz, hf⟩
    · refine jm_Ev.bl 2 (pc' := 11) (A' := [jR 20, jR 3, jI i, a1, a2, a3, a4, a5, a6, a7]) (st' := [jI 6, jI i]) (hp' := h) rfl ?_
      refine jE_irem rfl (by omega) (by omega) ?_
      refine jm_Ev.bl 3 (pc' := 16) (A' := [jR 20, jR 3, jI i, jI (i % 6), a2, a3, a4, a5, a6, a7]) (st' := [jI 6, jI i]) (hp' := h) rfl ?_
      refine jE_idiv rfl (by omega) (by omega) ?_
      refine jm_Ev.bl 1 (pc' := 19) (A' := [jR 20, jR 3, jI i, jI (i % 6), jI (i / 6), a3, a4, a5, a6, a7]) (st' := []) (hp' := h) rfl ?_
      have hm := Int.mul_ediv_add_emod i 6
      refine jm_Ev.bl 7 (pc' := 27) (A' := [jR 20, jR 3, jI i, jI (i % 6), jI (i / 6), a3, a4, a5, a6, a7]) (st' := [jI ((i / 6) - 1), jI ((i % 6) - 1), jR 3]) (hp' := h) rfl ?_
      refine jE_callI (vs := [jR 3, jI ((i % 6) - 1), jI ((i / 6) - 1)]) (r := []) (nx := 30) (v := jI (jb (decide (jgk (h 3 1) (h 3 2) (h 4) ((i % 6) - 1) ((i / 6) - 1) ≠ -1)))) (hp1 := h) rfl (c_g_hasDot_3 h hG1 _ _ (by omega) (by omega)) ?_
      refine jm_Ev.bl 6 (pc' := 38) (A' := [jR 20, jR 3, jI i, jI (i % 6), jI (i / 6), jI (jb (decide (jgk (h 3 1) (h 3 2) (h 4) ((i % 6) - 1) ((i / 6) - 1) ≠ -1))), a4, a5, a6, a7]) (st' := [jI ((i / 6) - 1), jI (i % 6), jR 3]) (hp' := h) rfl ?_
      refine jE_callI (vs := [jR 3, jI (i % 6), jI ((i / 6) - 1)]) (r := []) (nx := 41) (v := jI (jb (decide (jgk (h 3 1) (h 3 2) (h 4) (i % 6) ((i / 6) - 1) ≠ -1)))) (hp1 := h) rfl (c_g_hasDot_3 h hG1 _ _ (by omega) (by omega)) ?_
      refine jm_Ev.bl 6 (pc' := 49) (A' := [jR 20, jR 3, jI i, jI (i % 6), jI (i / 6), jI (jb (decide (jgk (h 3 1) (h 3 2) (h 4) ((i % 6) - 1) ((i / 6) - 1) ≠ -1))), jI (jb (decide (jgk (h 3 1) (h 3 2) (h 4) (i % 6) ((i / 6) - 1) ≠ -1))), a5, a6, a7]) (st' := [jI (i / 6), jI ((i % 6) - 1), jR 3]) (hp' := h) rfl ?_
      refine jE_callI (vs := [jR 3, jI ((i % 6) - 1), jI (i / 6)]) (r := []) (nx := 52) (v := jI (jb (decide (jgk (h 3 1) (h 3 2) (h 4) ((i % 6) - 1) (i / 6) ≠ -1)))) (hp1 := h) rfl (c_g_hasDot_3 h hG1 _ _ (by omega) (by omega)) ?_
      refine jm_Ev.bl 4 (pc' := 58) (A' := [jR 20, jR 3, jI i, jI (i % 6), jI (i / 6), jI (jb (decide (jgk (h 3 1) (h 3 2) (h 4) ((i % 6) - 1) ((i / 6) - 1) ≠ -1))), jI (jb (decide (jgk (h 3 1) (h 3 2) (h 4) (i % 6) ((i / 6) - 1) ≠ -1))), jI (jb (decide (jgk (h 3 1) (h 3 2) (h 4) ((i % 6) - 1) (i / 6) ≠ -1))), a6, a7]) (st' := [jI (i / 6), jI (i % 6), jR 3]) (hp' := h) rfl ?_
      refine jE_callI (vs := [jR 3, jI (i % 6), jI (i / 6)]) (r := []) (nx := 61) (v := jI (jb (decide (jgk (h 3 1) (h 3 2) (h 4) (i % 6) (i / 6) ≠ -1)))) (hp1 := h) rfl (c_g_hasDot_3 h hG1 _ _ (by omega) (by omega)) ?_
      refine jm_Ev.bl 1 (pc' := 63) (A' := [jR 20, jR 3, jI i, jI (i % 6), jI (i / 6), jI (jb (decide (jgk (h 3 1) (h 3 2) (h 4) ((i % 6) - 1) ((i / 6) - 1) ≠ -1))), jI (jb (decide (jgk (h 3 1) (h 3 2) (h 4) (i % 6) ((i / 6) - 1) ≠ -1))), jI (jb (decide (jgk (h 3 1) (h 3 2) (h 4) ((i % 6) - 1) (i / 6) ≠ -1))), jI (jb (decide (jgk (h 3 1) (h 3 2) (h 4) (i % 6) (i / 6) ≠ -1))), a7]) (st' := []) (hp' := h) rfl ?_
      refine c_o_fe_T_20 h i _ _ _ _ _ _ _ (by omega) (fun a1 a2 a3 a4 a5 => ih (i + 1) _ _ a1 a2 a3 a4 a5 _ (by omega) (by omega) ?_ ?_ ((hf.set (by decide)).set (by decide)) (by omega))
      · intro x y x0 x5 y0 hxy
        rw [js_hs_ne (by decide), js_hs_eq]
        by_cases e : y * 6 + x = i
        · rw [if_pos e]
          have ex : i % 6 = x := by omega
          have ey : i / 6 = y := by omega
          rw [ex, ey, hf 3 (by decide), hf 4 (by decide)]; rfl
        · rw [if_neg e]; exact hc x y x0 x5 y0 (by omega)
      · exact jhs_lt (F := fun _ => 0) hz rfl
theorem c_o_findEdges_20 (hp : jm_H) (hG : jG hp 3 4) : jm_Ev 49 0 [jR 20, jR 3, jU, jU, jU, jU, jU, jU, jU, jU] [] hp (jfe_20 hp) := by
  refine jm_Ev.bl 2 (pc' := 2) (A' := [jR 20, jR 3, jI 0, jU, jU, jU, jU, jU, jU, jU]) (st' := []) (hp' := hp) rfl ?_
  exact c_o_fe_L_20 hp hG 37 0 _ _ _ _ _ _ _ _ (by omega) (by omega) (fun x y a b c d => by omega) (fun j a b => by omega) jFr.rf (by omega)
/-- the edges at 20 are those of K -/
def jeK_20 (h : jm_H) (K : Int → Int → Int) : Prop := ∀ x y w, 0 ≤ x → x ≤ 5 → 0 ≤ y → y ≤ 5 → 0 ≤ w → w ≤ 3 → jbit (h 29 (y * 6 + x)) w = jed K x y w
theorem jfe_K_20 {hp h : jm_H} {rv : Option jm_V} (q : jfe_20 hp rv h) : jeK_20 h (jgk (hp 3 1) (hp 3 2) (hp 4)) := fun x y w a b c d e f => by
  rw [q.2.1 x y a b c d]
  obtain ⟨g, rfl⟩ := jw4 e f
  rw [jbit_jeb, jed_out]
theorem c_o_nextWay_20 (hp : jm_H) (K : Int → Int → Int) (hK : jeK_20 hp K) (x y w : Int) (hx : 0 ≤ x ∧ x ≤ 5) (hy : 0 ≤ y ∧ y ≤ 5) (hw : 0 ≤ w ∧ w ≤ 3) (hE : jE K (x, y, jnw K x y w)) : jm_Ev 53 0 [jR 20, jI x, jI y, jI w, jU, jU] [] hp (jK (some (jI (jnw K x y w))) hp) := by
  refine jm_Ev.bl 4 (pc' := 4) (A' := [jR 20, jI x, jI y, jI w, jU, jU]) (st' := [jI 4, jI (w + 1)]) (hp' := hp) rfl ?_
  refine jE_irem rfl (by omega) (by omega) ?_
  refine jm_Ev.bl 5 (pc' := 11) (A' := [jR 20, jI x, jI y, jI w, jI ((w + 1) % 4), jU]) (st' := [jI 4, jI (w + 3)]) (hp' := hp) rfl ?_
  refine jE_irem rfl (by omega) (by omega) ?_
  refine jm_Ev.bl 6 (pc' := 22) (A' := [jR 20, jI x, jI y, jI w, jI ((w + 1) % 4), jI ((w + 3) % 4)]) (st' := [jI ((w + 1) % 4), jI y, jI x, jR 29]) (hp' := hp) rfl ?_
  refine jE_callI (vs := [jR 29, jI x, jI y, jI ((w + 1) % 4)]) (r := []) (nx := 25) (v := jI (jb (jbit (hp 29 (y * 6 + x)) ((w + 1) % 4)))) (hp1 := hp) rfl (c_o_begins_29 hp x y ((w + 1) % 4) hx hy (by omega)) ?_
  refine jE_ifb_eq rfl (fun c25 => ?_) (fun c25 => ?_)
  · refine jm_Ev.bl 5 (pc' := 38) (A' := [jR 20, jI x, jI y, jI w, jI ((w + 1) % 4), jI ((w + 3) % 4)]) (st' := [jI w, jI y, jI x, jR 29]) (hp' := hp) rfl ?_
    refine jE_callI (vs := [jR 29, jI x, jI y, jI w]) (r := []) (nx := 41) (v := jI (jb (jbit (hp 29 (y * 6 + x)) w))) (hp1 := hp) rfl (c_o_begins_29 hp x y w hx hy (by omega)) ?_
    refine jE_ifb_eq rfl (fun c41 => ?_) (fun c41 => ?_)
    · refine jm_Ev.bl 5 (pc' := 54) (A' := [jR 20, jI x, jI y, jI w, jI ((w + 1) % 4), jI ((w + 3) % 4)]) (st' := [jI ((w + 3) % 4), jI y, jI x, jR 29]) (hp' := hp) rfl ?_
      refine jE_callI (vs := [jR 29, jI x, jI y, jI ((w + 3) % 4)]) (r := []) (nx := 57) (v := jI (jb (jbit (hp 29 (y * 6 + x)) ((w + 3) % 4)))) (hp1 := hp) rfl (c_o_begins_29 hp x y ((w + 3) % 4) hx hy (by omega)) ?_
      refine jE_ifb_eq rfl (fun c57 => ?_) (fun c57 => ?_)
      · refine jm_Ev.bl 1 (pc' := 66) (A' := [jR 20, jI x, jI y, jI w, jI ((w + 1) % 4), jI ((w + 3) % 4)]) (st' := [jI (-1)]) (hp' := hp) rfl ?_
        have e : jnw K x y w = (w + 3) % 4 := (by unfold jnw; rw [← hK x y ((w + 1) % 4) hx.1 hx.2 hy.1 hy.2 (by omega) (by omega), ← hK x y w hx.1 hx.2 hy.1 hy.2 hw.1 hw.2, if_neg (by rw [c25]; simp), if_neg (by rw [c41]; simp)])
        have := hE.2.2
        dsimp only at this
        rw [e, ← hK x y ((w + 3) % 4) hx.1 hx.2 hy.1 hy.2 (by omega) (by omega), c57] at this
        exact absurd this (by simp)
      · refine jm_Ev.bl 2 (pc' := 66) (A' := [jR 20, jI x, jI y, jI w, jI ((w + 1) % 4), jI ((w + 3) % 4)]) (st' := [jI ((w + 3) % 4)]) (hp' := hp) rfl ?_
        have e : jnw K x y w = (w + 3) % 4 := (by unfold jnw; rw [← hK x y ((w + 1) % 4) hx.1 hx.2 hy.1 hy.2 (by omega) (by omega), ← hK x y w hx.1 hx.2 hy.1 hy.2 hw.1 hw.2, if_neg (by rw [c25]; simp), if_neg (by rw [c41]; simp)])
        exact jE_ret rfl ⟨jrI e.symm, rfl⟩
    · refine jm_Ev.bl 1 (pc' := 45) (A' := [jR 20, jI x, jI y, jI w, jI ((w + 1) % 4), jI ((w + 3) % 4)]) (st' := [jI w]) (hp' := hp) rfl ?_
      exact jE_ret rfl ⟨jrI (by unfold jnw; rw [← hK x y ((w + 1) % 4) hx.1 hx.2 hy.1 hy.2 (by omega) (by omega), ← hK x y w hx.1 hx.2 hy.1 hy.2 hw.1 hw.2, if_neg (by rw [c25]; simp), if_pos c41]), rfl⟩
  · refine jm_Ev.bl 1 (pc' := 30) (A' := [jR 20, jI x, jI y, jI w, jI ((w + 1) % 4), jI ((w + 3) % 4)]) (st' := [jI ((w + 1) % 4)]) (hp' := hp) rfl ?_
    exact jE_ret rfl ⟨jrI (by unfold jnw; rw [← hK x y ((w + 1) % 4) hx.1 hx.2 hy.1 hy.2 (by omega) (by omega), if_pos c25]), rfl⟩
theorem c_o_addPoint_20 (hp : jm_H) (x y w : Int) (hx : 0 ≤ x ∧ x ≤ 5) (hy : 0 ≤ y ∧ y ≤ 5) (hw : 0 ≤ w ∧ w ≤ 3) (ht : 0 ≤ hp 20 1 ∧ hp 20 1 < 60) : jm_Ev 52 0 [jR 20, jI x, jI y, jI w, jU] [] hp (jK none (jm_hs (jm_hs (jm_hs (jm_hs (jm_hs hp 24 (hp 20 1) x) 25 (hp 20 1) y) 26 (hp 20 1) w) 20 1 (hp 20 1 + 1)) 30 (y * 6 + x) (jor (hp 30 (y * 6 + x)) w))) := by
  refine jm_Ev.bl 8 (pc' := 12) (A' := [jR 20, jI x, jI y, jI w, jI ((y * 6) + x)]) (st' := [jI (hp 20 1)]) (hp' := hp) rfl ?_
  refine jE_if_lt rfl (by omega) (fun c12 => ?_) (fun c12 => ?_)
  · omega
  · refine jm_Ev.bl 3 (pc' := 21) (A' := [jR 20, jI x, jI y, jI w, jI ((y * 6) + x)]) (st' := [jI 60, jI (hp 20 1)]) (hp' := hp) rfl ?_
    refine jE_icmp_ge rfl (by omega) (by omega) (fun c21 => ?_) (fun c21 => ?_)
    · omega
    · refine jm_Ev.bl 1 (pc' := 26) (A' := [jR 20, jI x, jI y, jI w, jI ((y * 6) + x)]) (st' := [jI ((y * 6) + x)]) (hp' := hp) rfl ?_
      refine jE_if_lt rfl (by omega) (fun c26 => ?_) (fun c26 => ?_)
      · omega
      · refine jm_Ev.bl 2 (pc' := 33) (A' := [jR 20, jI x, jI y, jI w, jI ((y * 6) + x)]) (st' := [jI 36, jI ((y * 6) + x)]) (hp' := hp) rfl ?_
        refine jE_icmp_lt rfl (by omega) (by omega) (fun c33 => ?_) (fun c33 => ?_)
        · refine jm_Ev.bl 5 (pc' := 46) (A' := [jR 20, jI x, jI y, jI w, jI ((y * 6) + x)]) (st' := [jI x, jI (hp 20 1), jR 24]) (hp' := hp) rfl ?_
          refine jE_iast (n := 60) rfl rfl (by omega) ?_
          refine jm_Ev.bl 5 (pc' := 56) (A' := [jR 20, jI x, jI y, jI w, jI ((y * 6) + x)]) (st' := [jI y, jI (hp 20 1), jR 25]) (hp' := (jm_hs hp 24 (hp 20 1) x)) rfl ?_
          refine jE_iast (n := 60) rfl rfl (by omega) ?_
          refine jm_Ev.bl 5 (pc' := 66) (A' := [jR 20, jI x, jI y, jI w, jI ((y * 6) + x)]) (st' := [jI w, jI (hp 20 1), jR 26]) (hp' := (jm_hs (jm_hs hp 24 (hp 20 1) x) 25 (hp 20 1) y)) rfl ?_
          refine jE_iast (n := 60) rfl rfl (by omega) ?_
          refine jm_Ev.bl 10 (pc' := 84) (A' := [jR 20, jI x, jI y, jI w, jI ((y * 6) + x)]) (st' := [jI ((y * 6) + x), jR 30, jI ((y * 6) + x), jR 30]) (hp' := (jm_hs (jm_hs (jm_hs (jm_hs hp 24 (hp 20 1) x) 25 (hp 20 1) y) 26 (hp 20 1) w) 20 1 ((hp 20 1) + 1))) rfl ?_
          refine jE_iald (n := 36) (f := hp 30) rfl rfl (by omega) ?_
          refine jm_Ev.bl 4 (pc' := 89) (A' := [jR 20, jI x, jI y, jI w, jI ((y * 6) + x)]) (st' := [jI ((Int32.ofInt (hp 30 ((y * 6) + x)) ||| Int32.ofInt ((Int32.ofInt 1 <<< (Int32.ofInt w &&& 31)).toInt)).toInt), jI ((y * 6) + x), jR 30]) (hp' := (jm_hs (jm_hs (jm_hs (jm_hs hp 24 (hp 20 1) x) 25 (hp 20 1) y) 26 (hp 20 1) w) 20 1 ((hp 20 1) + 1))) rfl ?_
          refine jE_iast (n := 36) rfl rfl (by omega) ?_
          exact jE_ret rfl ⟨rfl, rfl⟩
        · omega
theorem c_o_fe_T_43 {Q : Option jm_V → jm_H → Prop} (h : jm_H) (i x y : Int) (a b c d : Bool) (z : jm_V) (hi : 0 ≤ i ∧ i < 36) (k : ∀ a1 a2 a3 a4 a5 : jm_V, jm_Ev 49 2 [jR 43, jR 5, jI (i + 1), jI x, jI y, a1, a2, a3, a4, a5] [] (jm_hs (jm_hs h 52 i (jeb a b c d)) 53 i 0) Q) : jm_Ev 49 63 [jR 43, jR 5, jI i, jI x, jI y, jI (jb a), jI (jb b), jI (jb c), jI (jb d), z] [] h Q := by
  cases a <;> cases b <;> cases c <;> cases d
  · refine jm_Ev.bl 4 (pc' := 70) (A' := [jR 43, jR 5, jI i, jI x, jI y, jI 0, jI 0, jI 0, jI 0, jI 0]) (st' := [jI 0, jI 0]) (hp' := h) rfl ?_
    refine jE_if_eq rfl (by omega) (fun _ => ?_) (fun c70 => absurd c70 (by omega))
    refine jm_Ev.bl 5 (pc' := 90) (A' := [jR 43, jR 5, jI i, jI x, jI y, jI 0, jI 0, jI 0, jI 0, jI ((Int32.ofInt 0 ||| Int32.ofInt 0).toInt)]) (st' := [jI 0, jI ((Int32.ofInt 0 ||| Int32.ofInt 0).toInt)]) (hp' := h) rfl ?_
    refine jE_if_eq rfl (by omega) (fun _ => ?_) (fun c90 => absurd c90 (by omega))
    refine jm_Ev.bl 5 (pc' := 110) (A' := [jR 43, jR 5, jI i, jI x, jI y, jI 0, jI 0, jI 0, jI 0, jI ((Int32.ofInt ((Int32.ofInt 0 ||| Int32.ofInt 0).toInt) ||| Int32.ofInt 0).toInt)]) (st' := [jI 0, jI ((Int32.ofInt ((Int32.ofInt 0 ||| Int32.ofInt 0).toInt) ||| Int32.ofInt 0).toInt)]) (hp' := h) rfl ?_
    refine jE_if_eq rfl (by omega) (fun _ => ?_) (fun c110 => absurd c110 (by omega))
    refine jm_Ev.bl 5 (pc' := 130) (A' := [jR 43, jR 5, jI i, jI x, jI y, jI 0, jI 0, jI 0, jI 0, jI ((Int32.ofInt ((Int32.ofInt ((Int32.ofInt 0 ||| Int32.ofInt 0).toInt) ||| Int32.ofInt 0).toInt) ||| Int32.ofInt 0).toInt)]) (st' := [jI 0, jI ((Int32.ofInt ((Int32.ofInt ((Int32.ofInt 0 ||| Int32.ofInt 0).toInt) ||| Int32.ofInt 0).toInt) ||| Int32.ofInt 0).toInt)]) (hp' := h) rfl ?_
    refine jE_if_eq rfl (by omega) (fun _ => ?_) (fun c130 => absurd c130 (by omega))
    refine jm_Ev.bl 7 (pc' := 154) (A' := [jR 43, jR 5, jI i, jI x, jI y, jI 0, jI 0, jI 0, jI 0, jI ((Int32.ofInt ((Int32.ofInt ((Int32.ofInt ((Int32.ofInt 0 ||| Int32.ofInt 0).toInt) ||| Int32.ofInt 0).toInt) ||| Int32.ofInt 0).toInt) ||| Int32.ofInt 0).toInt)]) (st' := [jI ((Int32.ofInt ((Int32.ofInt ((Int32.ofInt ((Int32.ofInt 0 ||| Int32.ofInt 0).toInt) ||| Int32.ofInt 0).toInt) ||| Int32.ofInt 0).toInt) ||| Int32.ofInt 0).toInt), jI i, jR 52]) (hp' := h) rfl ?_
    refine jE_iast (n := 36) rfl rfl (by omega) ?_
    refine jm_Ev.bl 4 (pc' := 161) (A' := [jR 43, jR 5, jI i, jI x, jI y, jI 0, jI 0, jI 0, jI 0, jI ((Int32.ofInt ((Int32.ofInt ((Int32.ofInt ((Int32.ofInt 0 ||| Int32.ofInt 0).toInt) ||| Int32.ofInt 0).toInt) ||| Int32.ofInt 0).toInt) ||| Int32.ofInt 0).toInt)]) (st' := [jI 0, jI i, jR 53]) (hp' := (jm_hs h 52 i ((Int32.ofInt ((Int32.ofInt ((Int32.ofInt ((Int32.ofInt 0 ||| Int32.ofInt 0).toInt) ||| Int32.ofInt 0).toInt) ||| Int32.ofInt 0).toInt) ||| Int32.ofInt 0).toInt))) rfl ?_
    refine jE_iast (n := 36) rfl rfl (by omega) ?_
    refine jm_Ev.bl 2 (pc' := 2) (A' := [jR 43, jR 5, jI (i + 1), jI x, jI y, jI 0, jI 0, jI 0, jI 0, jI ((Int32.ofInt ((Int32.ofInt ((Int32.ofInt ((Int32.ofInt 0 ||| Int32.ofInt 0).toInt) ||| Int32.ofInt 0).toInt) ||| Int32.ofInt 0).toInt) ||| Int32.ofInt 0).toInt)]) (st' := []) (hp' := (jm_hs (jm_hs h 52 i ((Int32.ofInt ((Int32.ofInt ((Int32.ofInt ((Int32.ofInt 0 ||| Int32.ofInt 0).toInt) ||| Int32.ofInt 0).toInt) ||| Int32.ofInt 0).toInt) ||| Int32.ofInt 0).toInt)) 53 i 0)) rfl ?_
    rw [show ((Int32.ofInt ((Int32.ofInt ((Int32.ofInt ((Int32.ofInt 0 ||| Int32.ofInt 0).toInt) ||| Int32.ofInt 0).toInt) ||| Int32.ofInt 0).toInt) ||| Int32.ofInt 0).toInt) = jeb false false false false by decide]
    exact k _ _ _ _ _
  · refine jm_Ev.bl 4 (pc' := 70) (A' := [jR 43, jR 5, jI i, jI x, jI y, jI 0, jI 0, jI 0, jI 1, jI 0]) (st' := [jI 1, jI 0]) (hp' := h) rfl ?_
    refine jE_if_eq rfl (by omega) (fun c70 => absurd c70 (by omega)) (fun _ => ?_)
    refine jm_Ev.bl 1 (pc' := 75) (A' := [jR 43, jR 5, jI i, jI x, jI y, jI 0, jI 0, jI 0, jI 1, jI 0]) (st' := [jI 0, jI 0]) (hp' := h) rfl ?_
    refine jE_if_ne rfl (by omega) (fun c75 => absurd c75 (by omega)) (fun _ => ?_)
    refine jm_Ev.bl 6 (pc' := 90) (A' := [jR 43, jR 5, jI i, jI x, jI y, jI 0, jI 0, jI 0, jI 1, jI ((Int32.ofInt 0 ||| Int32.ofInt 1).toInt)]) (st' := [jI 0, jI ((Int32.ofInt 0 ||| Int32.ofInt 1).toInt)]) (hp' := h) rfl ?_
    refine jE_if_eq rfl (by omega) (fun _ => ?_) (fun c90 => absurd c90 (by omega))
    refine jm_Ev.bl 5 (pc' := 110) (A' := [jR 43, jR 5, jI i, jI x, jI y, jI 0, jI 0, jI 0, jI 1, jI ((Int32.ofInt ((Int32.ofInt 0 ||| Int32.ofInt 1).toInt) ||| Int32.ofInt 0).toInt)]) (st' := [jI 0, jI ((Int32.ofInt ((Int32.ofInt 0 ||| Int32.ofInt 1).toInt) ||| Int32.ofInt 0).toInt)]) (hp' := h) rfl ?_
    refine jE_if_eq rfl (by omega) (fun _ => ?_) (fun c110 => absurd c110 (by omega))
    refine jm_Ev.bl 5 (pc' := 130) (A' := [jR 43, jR 5, jI i, jI x, jI y, jI 0, jI 0, jI 0, jI 1, jI ((Int32.ofInt ((Int32.ofInt ((Int32.ofInt 0 ||| Int32.ofInt 1).toInt) ||| Int32.ofInt 0).toInt) ||| Int32.ofInt 0).toInt)]) (st' := [jI 0, jI ((Int32.ofInt ((Int32.ofInt ((Int32.ofInt 0 ||| Int32.ofInt 1).toInt) ||| Int32.ofInt 0).toInt) ||| Int32.ofInt 0).toInt)]) (hp' := h) rfl ?_
    refine jE_if_eq rfl (by omega) (fun _ => ?_) (fun c130 => absurd c130 (by omega))
    refine jm_Ev.bl 7 (pc' := 154) (A' := [jR 43, jR 5, jI i, jI x, jI y, jI 0, jI 0, jI 0, jI 1, jI ((Int32.ofInt ((Int32.ofInt ((Int32.ofInt ((Int32.ofInt 0 ||| Int32.ofInt 1).toInt) ||| Int32.ofInt 0).toInt) ||| Int32.ofInt 0).toInt) ||| Int32.ofInt 0).toInt)]) (st' := [jI ((Int32.ofInt ((Int32.ofInt ((Int32.ofInt ((Int32.ofInt 0 ||| Int32.ofInt 1).toInt) ||| Int32.ofInt 0).toInt) ||| Int32.ofInt 0).toInt) ||| Int32.ofInt 0).toInt), jI i, jR 52]) (hp' := h) rfl ?_
    refine jE_iast (n := 36) rfl rfl (by omega) ?_
    refine jm_Ev.bl 4 (pc' := 161) (A' := [jR 43, jR 5, jI i, jI x, jI y, jI 0, jI 0, jI 0, jI 1, jI ((Int32.ofInt ((Int32.ofInt ((Int32.ofInt ((Int32.ofInt 0 ||| Int32.ofInt 1).toInt) ||| Int32.ofInt 0).toInt) ||| Int32.ofInt 0).toInt) ||| Int32.ofInt 0).toInt)]) (st' := [jI 0, jI i, jR 53]) (hp' := (jm_hs h 52 i ((Int32.ofInt ((Int32.ofInt ((Int32.ofInt ((Int32.ofInt 0 ||| Int32.ofInt 1).toInt) ||| Int32.ofInt 0).toInt) ||| Int32.ofInt 0).toInt) ||| Int32.ofInt 0).toInt))) rfl ?_
    refine jE_iast (n := 36) rfl rfl (by omega) ?_
    refine jm_Ev.bl 2 (pc' := 2) (A' := [jR 43, jR 5, jI (i + 1), jI x, jI y, jI 0, jI 0, jI 0, jI 1, jI ((Int32.ofInt ((Int32.ofInt ((Int32.ofInt ((Int32.ofInt 0 ||| Int32.ofInt 1).toInt) ||| Int32.ofInt 0).toInt) ||| Int32.ofInt 0).toInt) ||| Int32.ofInt 0).toInt)]) (st' := []) (hp' := (jm_hs (jm_hs h 52 i ((Int32.ofInt ((Int32.ofInt ((Int32.ofInt ((Int32.ofInt 0 ||| Int32.ofInt 1).toInt) ||| Int32.ofInt 0).toInt) ||| Int32.ofInt 0).toInt) ||| Int32.ofInt 0).toInt)) 53 i 0)) rfl ?_
    rw [show ((Int32.ofInt ((Int32.ofInt ((Int32.ofInt ((Int32.ofInt 0 ||| Int32.ofInt 1).toInt) ||| Int32.ofInt 0).toInt) ||| Int32.ofInt 0).toInt) ||| Int32.ofInt 0).toInt) = jeb false false false true by decide]
    exact k _ _ _ _ _
  · refine jm_Ev.bl 4 (pc' := 70) (A' := [jR 43, jR 5, jI i, jI x, jI y, jI 0, jI 0, jI 1, jI 0, jI 0]) (st' := [jI 0, jI 0]) (hp' := h) rfl ?_
    refine jE_if_eq rfl (by omega) (fun _ => ?_) (fun c70 => absurd c70 (by omega))
    refine jm_Ev.bl 5 (pc' := 90) (A' := [jR 43, jR 5, jI i, jI x, jI y, jI 0, jI 0, jI 1, jI 0, jI ((Int32.ofInt 0 ||| Int32.ofInt 0).toInt)]) (st' := [jI 1, jI ((Int32.ofInt 0 ||| Int32.ofInt 0).toInt)]) (hp' := h) rfl ?_
    refine jE_if_eq rfl (by omega) (fun c90 => absurd c90 (by omega)) (fun _ => ?_)
    refine jm_Ev.bl 1 (pc' := 95) (A' := [jR 43, jR 5, jI i, jI x, jI y, jI 0, jI 0, jI 1, jI 0, jI ((Int32.ofInt 0 ||| Int32.ofInt 0).toInt)]) (st' := [jI 0, jI ((Int32.ofInt 0 ||| Int32.ofInt 0).toInt)]) (hp' := h) rfl ?_
    refine jE_if_ne rfl (by omega) (fun c95 => absurd c95 (by omega)) (fun _ => ?_)
    refine jm_Ev.bl 6 (pc' := 110) (A' := [jR 43, jR 5, jI i, jI x, jI y, jI 0, jI 0, jI 1, jI 0, jI ((Int32.ofInt ((Int32.ofInt 0 ||| Int32.ofInt 0).toInt) ||| Int32.ofInt 2).toInt)]) (st' := [jI 0, jI ((Int32.ofInt ((Int32.ofInt 0 ||| Int32.ofInt 0).toInt) ||| Int32.ofInt 2).toInt)]) (hp' := h) rfl ?_
    refine jE_if_eq rfl (by omega) (fun _ => ?_) (fun c110 => absurd c110 (by omega))
    refine jm_Ev.bl 5 (pc' := 130) (A' := [jR 43, jR 5, jI i, jI x, jI y, jI 0, jI 0, jI 1, jI 0, jI ((Int32.ofInt ((Int32.ofInt ((Int32.ofInt 0 ||| Int32.ofInt 0).toInt) ||| Int32.ofInt 2).toInt) ||| Int32.ofInt 0).toInt)]) (st' := [jI 0, jI ((Int32.ofInt ((Int32.ofInt ((Int32.ofInt 0 ||| Int32.ofInt 0).toInt) ||| Int32.ofInt 2).toInt) ||| Int32.ofInt 0).toInt)]) (hp' := h) rfl ?_
    refine jE_if_eq rfl (by omega) (fun _ => ?_) (fun c130 => absurd c130 (by omega))
    refine jm_Ev.bl 7 (pc' := 154) (A' := [jR 43, jR 5, jI i, jI x, jI y, jI 0, jI 0, jI 1, jI 0, jI ((Int32.ofInt ((Int32.ofInt ((Int32.ofInt ((Int32.ofInt 0 ||| Int32.ofInt 0).toInt) ||| Int32.ofInt 2).toInt) ||| Int32.ofInt 0).toInt) ||| Int32.ofInt 0).toInt)]) (st' := [jI ((Int32.ofInt ((Int32.ofInt ((Int32.ofInt ((Int32.ofInt 0 ||| Int32.ofInt 0).toInt) ||| Int32.ofInt 2).toInt) ||| Int32.ofInt 0).toInt) ||| Int32.ofInt 0).toInt), jI i, jR 52]) (hp' := h) rfl ?_
    refine jE_iast (n := 36) rfl rfl (by omega) ?_
    refine jm_Ev.bl 4 (pc' := 161) (A' := [jR 43, jR 5, jI i, jI x, jI y, jI 0, jI 0, jI 1, jI 0, jI ((Int32.ofInt ((Int32.ofInt ((Int32.ofInt ((Int32.ofInt 0 ||| Int32.ofInt 0).toInt) ||| Int32.ofInt 2).toInt) ||| Int32.ofInt 0).toInt) ||| Int32.ofInt 0).toInt)]) (st' := [jI 0, jI i, jR 53]) (hp' := (jm_hs h 52 i ((Int32.ofInt ((Int32.ofInt ((Int32.ofInt ((Int32.ofInt 0 ||| Int32.ofInt 0).toInt) ||| Int32.ofInt 2).toInt) ||| Int32.ofInt 0).toInt) ||| Int32.ofInt 0).toInt))) rfl ?_
    refine jE_iast (n := 36) rfl rfl (by omega) ?_
    refine jm_Ev.bl 2 (pc' := 2) (A' := [jR 43, jR 5, jI (i + 1), jI x, jI y, jI 0, jI 0, jI 1, jI 0, jI ((Int32.ofInt ((Int32.ofInt ((Int32.ofInt ((Int32.ofInt 0 ||| Int32.ofInt 0).toInt) ||| Int32.ofInt 2).toInt) ||| Int32.ofInt 0).toInt) ||| Int32.ofInt 0).toInt)]) (st' := []) (hp' := (jm_hs (jm_hs h 52 i ((Int32.ofInt ((Int32.ofInt ((Int32.ofInt ((Int32.ofInt 0 ||| Int32.ofInt 0).toInt) ||| Int32.ofInt 2).toInt) ||| Int32.ofInt 0).toInt) ||| Int32.ofInt 0).toInt)) 53 i 0)) rfl ?_
    rw [show ((Int32.ofInt ((Int32.ofInt ((Int32.ofInt ((Int32.ofInt 0 ||| Int32.ofInt 0).toInt) ||| Int32.ofInt 2).toInt) ||| Int32.ofInt 0).toInt) ||| Int32.ofInt 0).toInt) = jeb false false true false by decide]
    exact k _ _ _ _ _
  · refine jm_Ev.bl 4 (pc' := 70) (A' := [jR 43, jR 5, jI i, jI x, jI y, jI 0, jI 0, jI 1, jI 1, jI 0]) (st' := [jI 1, jI 0]) (hp' := h) rfl ?_
    refine jE_if_eq rfl (by omega) (fun c70 => absurd c70 (by omega)) (fun _ => ?_)
    refine jm_Ev.bl 1 (pc' := 75) (A' := [jR 43, jR 5, jI i, jI x, jI y, jI 0, jI 0, jI 1, jI 1, jI 0]) (st' := [jI 0, jI 0]) (hp' := h) rfl ?_
    refine jE_if_ne rfl (by omega) (fun c75 => absurd c75 (by omega)) (fun _ => ?_)
    refine jm_Ev.bl 6 (pc' := 90) (A' := [jR 43, jR 5, jI i, jI x, jI y, jI 0, jI 0, jI 1, jI 1, jI ((Int32.ofInt 0 ||| Int32.ofInt 1).toInt)]) (st' := [jI 1, jI ((Int32.ofInt 0 ||| Int32.ofInt 1).toInt)]) (hp' := h) rfl ?_
    refine jE_if_eq rfl (by omega) (fun c90 => absurd c90 (by omega)) (fun _ => ?_)
    refine jm_Ev.bl 1 (pc' := 95) (A' := [jR 43, jR 5, jI i, jI x, jI y, jI 0, jI 0, jI 1, jI 1, jI ((Int32.ofInt 0 ||| Int32.ofInt 1).toInt)]) (st' := [jI 1, jI ((Int32.ofInt 0 ||| Int32.ofInt 1).toInt)]) (hp' := h) rfl ?_
    refine jE_if_ne rfl (by omega) (fun _ => ?_) (fun c95 => absurd c95 (by omega))
    refine jm_Ev.bl 5 (pc' := 110) (A' := [jR 43, jR 5, jI i, jI x, jI y, jI 0, jI 0, jI 1, jI 1, jI ((Int32.ofInt ((Int32.ofInt 0 ||| Int32.ofInt 1).toInt) ||| Int32.ofInt 0).toInt)]) (st' := [jI 0, jI ((Int32.ofInt ((Int32.ofInt 0 ||| Int32.ofInt 1).toInt) ||| Int32.ofInt 0).toInt)]) (hp' := h) rfl ?_
    refine jE_if_eq rfl (by omega) (fun _ => ?_) (fun c110 => absurd c110 (by omega))
    refine jm_Ev.bl 5 (pc' := 130) (A' := [jR 43, jR 5, jI i, jI x, jI y, jI 0, jI 0, jI 1, jI 1, jI ((Int32.ofInt ((Int32.ofInt ((Int32.ofInt 0 ||| Int32.ofInt 1).toInt) ||| Int32.ofInt 0).toInt) ||| Int32.ofInt 0).toInt)]) (st' := [jI 0, jI ((Int32.ofInt ((Int32.ofInt ((Int32.ofInt 0 ||| Int32.ofInt 1).toInt) ||| Int32.ofInt 0).toInt) ||| Int32.ofInt 0).toInt)]) (hp' := h) rfl ?_
    refine jE_if_eq rfl (by omega) (fun _ => ?_) (fun c130 => absurd c130 (by omega))
    refine jm_Ev.bl 7 (pc' := 154) (A' := [jR 43, jR 5, jI i, jI x, jI y, jI 0, jI 0, jI 1, jI 1, jI ((Int32.ofInt ((Int32.ofInt ((Int32.ofInt ((Int32.ofInt 0 ||| Int32.ofInt 1).toInt) ||| Int32.ofInt 0).toInt) ||| Int32.ofInt 0).toInt) ||| Int32.ofInt 0).toInt)]) (st' := [jI ((Int32.ofInt ((Int32.ofInt ((Int32.ofInt ((Int32.ofInt 0 ||| Int32.ofInt 1).toInt) ||| Int32.ofInt 0).toInt) ||| Int32.ofInt 0).toInt) ||| Int32.ofInt 0).toInt), jI i, jR 52]) (hp' := h) rfl ?_
    refine jE_iast (n := 36) rfl rfl (by omega) ?_
    refine jm_Ev.bl 4 (pc' := 161) (A' := [jR 43, jR 5, jI i, jI x, jI y, jI 0, jI 0, jI 1, jI 1, jI ((Int32.ofInt ((Int32.ofInt ((Int32.ofInt ((Int32.ofInt 0 ||| Int32.ofInt 1).toInt) ||| Int32.ofInt 0).toInt) ||| Int32.ofInt 0).toInt) ||| Int32.ofInt 0).toInt)]) (st' := [jI 0, jI i, jR 53]) (hp' := (jm_hs h 52 i ((Int32.ofInt ((Int32.ofInt ((Int32.ofInt ((Int32.ofInt 0 ||| Int32.ofInt 1).toInt) ||| Int32.ofInt 0).toInt) ||| Int32.ofInt 0).toInt) ||| Int32.ofInt 0).toInt))) rfl ?_
    refine jE_iast (n := 36) rfl rfl (by omega) ?_
    refine jm_Ev.bl 2 (pc' := 2) (A' := [jR 43, jR 5, jI (i + 1), jI x, jI y, jI 0, jI 0, jI 1, jI 1, jI ((Int32.ofInt ((Int32.ofInt ((Int32.ofInt ((Int32.ofInt 0 ||| Int32.ofInt 1).toInt) ||| Int32.ofInt 0).toInt) ||| Int32.ofInt 0).toInt) ||| Int32.ofInt 0).toInt)]) (st' := []) (hp' := (jm_hs (jm_hs h 52 i ((Int32.ofInt ((Int32.ofInt ((Int32.ofInt ((Int32.ofInt 0 ||| Int32.ofInt 1).toInt) ||| Int32.ofInt 0).toInt) ||| Int32.ofInt 0).toInt) ||| Int32.ofInt 0).toInt)) 53 i 0)) rfl ?_
    rw [show ((Int32.ofInt ((Int32.ofInt ((Int32.ofInt ((Int32.ofInt 0 ||| Int32.ofInt 1).toInt) ||| Int32.ofInt 0).toInt) ||| Int32.ofInt 0).toInt) ||| Int32.ofInt 0).toInt) = jeb false false true true by decide]
    exact k _ _ _ _ _
  · refine jm_Ev.bl 4 (pc' := 70) (A' := [jR 43, jR 5, jI i, jI x, jI y, jI 0, jI 1, jI 0, jI 0, jI 0]) (st' := [jI 0, jI 0]) (hp' := h) rfl ?_
    refine jE_if_eq rfl (by omega) (fun _ => ?_) (fun c70 => absurd c70 (by omega))
    refine jm_Ev.bl 5 (pc' := 90) (A' := [jR 43, jR 5, jI i, jI x, jI y, jI 0, jI 1, jI 0, jI 0, jI ((Int32.ofInt 0 ||| Int32.ofInt 0).toInt)]) (st' := [jI 0, jI ((Int32.ofInt 0 ||| Int32.ofInt 0).toInt)]) (hp' := h) rfl ?_
    refine jE_if_eq rfl (by omega) (fun _ => ?_) (fun c90 => absurd c90 (by omega))
    refine jm_Ev.bl 5 (pc' := 110) (A' := [jR 43, jR 5, jI i, jI x, jI y, jI 0, jI 1, jI 0, jI 0, jI ((Int32.ofInt ((Int32.ofInt 0 ||| Int32.ofInt 0).toInt) ||| Int32.ofInt 0).toInt)]) (st' := [jI 0, jI ((Int32.ofInt ((Int32.ofInt 0 ||| Int32.ofInt 0).toInt) ||| Int32.ofInt 0).toInt)]) (hp' := h) rfl ?_
    refine jE_if_eq rfl (by omega) (fun _ => ?_) (fun c110 => absurd c110 (by omega))
    refine jm_Ev.bl 5 (pc' := 130) (A' := [jR 43, jR 5, jI i, jI x, jI y, jI 0, jI 1, jI 0, jI 0, jI ((Int32.ofInt ((Int32.ofInt ((Int32.ofInt 0 ||| Int32.ofInt 0).toInt) ||| Int32.ofInt 0).toInt) ||| Int32.ofInt 0).toInt)]) (st' := [jI 1, jI ((Int32.ofInt ((Int32.ofInt ((Int32.ofInt 0 ||| Int32.ofInt 0).toInt) ||| Int32.ofInt 0).toInt) ||| Int32.ofInt 0).toInt)]) (hp' := h) rfl ?_
    refine jE_if_eq rfl (by omega) (fun c130 => absurd c130 (by omega)) (fun _ => ?_)
    refine jm_Ev.bl 1 (pc' := 135) (A' := [jR 43, jR 5, jI i, jI x, jI y, jI 0, jI 1, jI 0, jI 0, jI ((Int32.ofInt ((Int32.ofInt ((Int32.ofInt 0 ||| Int32.ofInt 0).toInt) ||| Int32.ofInt 0).toInt) ||| Int32.ofInt 0).toInt)]) (st' := [jI 0, jI ((Int32.ofInt ((Int32.ofInt ((Int32.ofInt 0 ||| Int32.ofInt 0).toInt) ||| Int32.ofInt 0).toInt) ||| Int32.ofInt 0).toInt)]) (hp' := h) rfl ?_
    refine jE_if_ne rfl (by omega) (fun c135 => absurd c135 (by omega)) (fun _ => ?_)
    refine jm_Ev.bl 8 (pc' := 154) (A' := [jR 43, jR 5, jI i, jI x, jI y, jI 0, jI 1, jI 0, jI 0, jI ((Int32.ofInt ((Int32.ofInt ((Int32.ofInt ((Int32.ofInt 0 ||| Int32.ofInt 0).toInt) ||| Int32.ofInt 0).toInt) ||| Int32.ofInt 0).toInt) ||| Int32.ofInt 8).toInt)]) (st' := [jI ((Int32.ofInt ((Int32.ofInt ((Int32.ofInt ((Int32.ofInt 0 ||| Int32.ofInt 0).toInt) ||| Int32.ofInt 0).toInt) ||| Int32.ofInt 0).toInt) ||| Int32.ofInt 8).toInt), jI i, jR 52]) (hp' := h) rfl ?_
    refine jE_iast (n := 36) rfl rfl (by omega) ?_
    refine jm_Ev.bl 4 (pc' := 161) (A' := [jR 43, jR 5, jI i, jI x, jI y, jI 0, jI 1, jI 0, jI 0, jI ((Int32.ofInt ((Int32.ofInt ((Int32.ofInt ((Int32.ofInt 0 ||| Int32.ofInt 0).toInt) ||| Int32.ofInt 0).toInt) ||| Int32.ofInt 0).toInt) ||| Int32.ofInt 8).toInt)]) (st' := [jI 0, jI i, jR 53]) (hp' := (jm_hs h 52 i ((Int32.ofInt ((Int32.ofInt ((Int32.ofInt ((Int32.ofInt 0 ||| Int32.ofInt 0).toInt) ||| Int32.ofInt 0).toInt) ||| Int32.ofInt 0).toInt) ||| Int32.ofInt 8).toInt))) rfl ?_
    refine jE_iast (n := 36) rfl rfl (by omega) ?_
    refine jm_Ev.bl 2 (pc' := 2) (A' := [jR 43, jR 5, jI (i + 1), jI x, jI y, jI 0, jI 1, jI 0, jI 0, jI ((Int32.ofInt ((Int32.ofInt ((Int32.ofInt ((Int32.ofInt 0 ||| Int32.ofInt 0).toInt) ||| Int32.ofInt 0).toInt) ||| Int32.ofInt 0).toInt) ||| Int32.ofInt 8).toInt)]) (st' := []) (hp' := (jm_hs (jm_hs h 52 i ((Int32.ofInt ((Int32.ofInt ((Int32.ofInt ((Int32.ofInt 0 ||| Int32.ofInt 0).toInt) ||| Int32.ofInt 0).toInt) ||| Int32.ofInt 0).toInt) ||| Int32.ofInt 8).toInt)) 53 i 0)) rfl ?_
    rw [show ((Int32.ofInt ((Int32.ofInt ((Int32.ofInt ((Int32.ofInt 0 ||| Int32.ofInt 0).toInt) ||| Int32.ofInt 0).toInt) ||| Int32.ofInt 0).toInt) ||| Int32.ofInt 8).toInt) = jeb false true false false by decide]
    exact k _ _ _ _ _
  · refine jm_Ev.bl 4 (pc' := 70) (A' := [jR 43, jR 5, jI i, jI x, jI y, jI 0, jI 1, jI 0, jI 1, jI 0]) (st' := [jI 1, jI 0]) (hp' := h) rfl ?_
    refine jE_if_eq rfl (by omega) (fun c70 => absurd c70 (by omega)) (fun _ => ?_)
    refine jm_Ev.bl 1 (pc' := 75) (A' := [jR 43, jR 5, jI i, jI x, jI y, jI 0, jI 1, jI 0, jI 1, jI 0]) (st' := [jI 1, jI 0]) (hp' := h) rfl ?_
    refine jE_if_ne rfl (by omega) (fun _ => ?_) (fun c75 => absurd c75 (by omega))
    refine jm_Ev.bl 5 (pc' := 90) (A' := [jR 43, jR 5, jI i, jI x, jI y, jI 0, jI 1, jI 0, jI 1, jI ((Int32.ofInt 0 ||| Int32.ofInt 0).toInt)]) (st' := [jI 0, jI ((Int32.ofInt 0 ||| Int32.ofInt 0).toInt)]) (hp' := h) rfl ?_
    refine jE_if_eq rfl (by omega) (fun _ => ?_) (fun c90 => absurd c90 (by omega))
    refine jm_Ev.bl 5 (pc' := 110) (A' := [jR 43, jR 5, jI i, jI x, jI y, jI 0, jI 1, jI 0, jI 1, jI ((Int32.ofInt ((Int32.ofInt 0 ||| Int32.ofInt 0).toInt) ||| Int32.ofInt 0).toInt)]) (st' := [jI 0, jI ((Int32.ofInt ((Int32.ofInt 0 ||| Int32.ofInt 0).toInt) ||| Int32.ofInt 0).toInt)]) (hp' := h) rfl ?_
    refine jE_if_eq rfl (by omega) (fun _ => ?_) (fun c110 => absurd c110 (by omega))
    refine jm_Ev.bl 5 (pc' := 130) (A' := [jR 43, jR 5, jI i, jI x, jI y, jI 0, jI 1, jI 0, jI 1, jI ((Int32.ofInt ((Int32.ofInt ((Int32.ofInt 0 ||| Int32.ofInt 0).toInt) ||| Int32.ofInt 0).toInt) ||| Int32.ofInt 0).toInt)]) (st' := [jI 1, jI ((Int32.ofInt ((Int32.ofInt ((Int32.ofInt 0 ||| Int32.ofInt 0).toInt) ||| Int32.ofInt 0).toInt) ||| Int32.ofInt 0).toInt)]) (hp' := h) rfl ?_
    refine jE_if_eq rfl (by omega) (fun c130 => absurd c130 (by omega)) (fun _ => ?_)
    refine jm_Ev.bl 1 (pc' := 135) (A' := [jR 43, jR 5, jI i, jI x, jI y, jI 0, jI 1, jI 0, jI 1, jI ((Int32.ofInt ((Int32.ofInt ((Int32.ofInt 0 ||| Int32.ofInt 0).toInt) ||| Int32.ofInt 0).toInt) ||| Int32.ofInt 0).toInt)]) (st' := [jI 0, jI ((Int32.ofInt ((Int32.ofInt ((Int32.ofInt 0 ||| Int32.ofInt 0).toInt) ||| Int32.ofInt 0).toInt) ||| Int32.ofInt 0).toInt)]) (hp' := h) rfl ?_
    refine jE_if_ne rfl (by omega) (fun c135 => absurd c135 (by omega)) (fun _ => ?_)
    refine jm_Ev.bl 8 (pc' := 154) (A' := [jR 43, jR 5, jI i, jI x, jI y, jI 0, jI 1, jI 0, jI 1, jI ((Int32.ofInt ((Int32.ofInt ((Int32.ofInt ((Int32.ofInt 0 ||| Int32.ofInt 0).toInt) ||| Int32.ofInt 0).toInt) ||| Int32.ofInt 0).toInt) ||| Int32.ofInt 8).toInt)]) (st' := [jI ((Int32.ofInt ((Int32.ofInt ((Int32.ofInt ((Int32.ofInt 0 ||| Int32.ofInt 0).toInt) ||| Int32.ofInt 0).toInt) ||| Int32.ofInt 0).toInt) ||| Int32.ofInt 8).toInt), jI i, jR 52]) (hp' := h) rfl ?_
    refine jE_iast (n := 36) rfl rfl (by omega) ?_
    refine jm_Ev.bl 4 (pc' := 161) (A' := [jR 43, jR 5, jI i, jI x, jI y, jI 0, jI 1, jI 0, jI 1, jI ((Int32.ofInt ((Int32.ofInt ((Int32.ofInt ((Int32.ofInt 0 ||| Int32.ofInt 0).toInt) ||| Int32.ofInt 0).toInt) ||| Int32.ofInt 0).toInt) ||| Int32.ofInt 8).toInt)]) (st' := [jI 0, jI i, jR 53]) (hp' := (jm_hs h 52 i ((Int32.ofInt ((Int32.ofInt ((Int32.ofInt ((Int32.ofInt 0 ||| Int32.ofInt 0).toInt) ||| Int32.ofInt 0).toInt) ||| Int32.ofInt 0).toInt) ||| Int32.ofInt 8).toInt))) rfl ?_
    refine jE_iast (n := 36) rfl rfl (by omega) ?_
    refine jm_Ev.bl 2 (pc' := 2) (A' := [jR 43, jR 5, jI (i + 1), jI x, jI y, jI 0, jI 1, jI 0, jI 1, jI ((Int32.ofInt ((Int32.ofInt ((Int32.ofInt ((Int32.ofInt 0 ||| Int32.ofInt 0).toInt) ||| Int32.ofInt 0).toInt) ||| Int32.ofInt 0).toInt) ||| Int32.ofInt 8).toInt)]) (st' := []) (hp' := (jm_hs (jm_hs h 52 i ((Int32.ofInt ((Int32.ofInt ((Int32.ofInt ((Int32.ofInt 0 ||| Int32.ofInt 0).toInt) ||| Int32.ofInt 0).toInt) ||| Int32.ofInt 0).toInt) ||| Int32.ofInt 8).toInt)) 53 i 0)) rfl ?_
    rw [show ((Int32.ofInt ((Int32.ofInt ((Int32.ofInt ((Int32.ofInt 0 ||| Int32.ofInt 0).toInt) ||| Int32.ofInt 0).toInt) ||| Int32.ofInt 0).toInt) ||| Int32.ofInt 8).toInt) = jeb false true false true by decide]
    exact k _ _ _ _ _
  · refine jm_Ev.bl 4 (pc' := 70) (A' := [jR 43, jR 5, jI i, jI x, jI y, jI 0, jI 1, jI 1, jI 0, jI 0]) (st' := [jI 0, jI 0]) (hp' := h) rfl ?_
    refine jE_if_eq rfl (by omega) (fun _ => ?_) (fun c70 => absurd c70 (by omega))
    refine jm_Ev.bl 5 (pc' := 90) (A' := [jR 43, jR 5, jI i, jI x, jI y, jI 0, jI 1, jI 1, jI 0, jI ((Int32.ofInt 0 ||| Int32.ofInt 0).toInt)]) (st' := [jI 1, jI ((Int32.ofInt 0 ||| Int32.ofInt 0).toInt)]) (hp' := h) rfl ?_
    refine jE_if_eq rfl (by omega) (fun c90 => absurd c90 (by omega)) (fun _ => ?_)
    refine jm_Ev.bl 1 (pc' := 95) (A' := [jR 43, jR 5, jI i, jI x, jI y, jI 0, jI 1, jI 1, jI 0, jI ((Int32.ofInt 0 ||| Int32.ofInt 0).toInt)]) (st' := [jI 0, jI ((Int32.ofInt 0 ||| Int32.ofInt 0).toInt)]) (hp' := h) rfl ?_
    refine jE_if_ne rfl (by omega) (fun c95 => absurd c95 (by omega)) (fun _ => ?_)
    refine jm_Ev.bl 6 (pc' := 110) (A' := [jR 43, jR 5, jI i, jI x, jI y, jI 0, jI 1, jI 1, jI 0, jI ((Int32.ofInt ((Int32.ofInt 0 ||| Int32.ofInt 0).toInt) ||| Int32.ofInt 2).toInt)]) (st' := [jI 0, jI ((Int32.ofInt ((Int32.ofInt 0 ||| Int32.ofInt 0).toInt) ||| Int32.ofInt 2).toInt)]) (hp' := h) rfl ?_
    refine jE_if_eq rfl (by omega) (fun _ => ?_) (fun c110 => absurd c110 (by omega))
    refine jm_Ev.bl 5 (pc' := 130) (A' := [jR 43, jR 5, jI i, jI x, jI y, jI 0, jI 1, jI 1, jI 0, jI ((Int32.ofInt ((Int32.ofInt ((Int32.ofInt 0 ||| Int32.ofInt 0).toInt) ||| Int32.ofInt 2).toInt) ||| Int32.ofInt 0).toInt)]) (st' := [jI 1, jI ((Int32.ofInt ((Int32.ofInt ((Int32.ofInt 0 ||| Int32.ofInt 0).toInt) ||| Int32.ofInt 2).toInt) ||| Int32.ofInt 0).toInt)]) (hp' := h) rfl ?_
    refine jE_if_eq rfl (by omega) (fun c130 => absurd c130 (by omega)) (fun _ => ?_)
    refine jm_Ev.bl 1 (pc' := 135) (A' := [jR 43, jR 5, jI i, jI x, jI y, jI 0, jI 1, jI 1, jI 0, jI ((Int32.ofInt ((Int32.ofInt ((Int32.ofInt 0 ||| Int32.ofInt 0).toInt) ||| Int32.ofInt 2).toInt) ||| Int32.ofInt 0).toInt)]) (st' := [jI 0, jI ((Int32.ofInt ((Int32.ofInt ((Int32.ofInt 0 ||| Int32.ofInt 0).toInt) ||| Int32.ofInt 2).toInt) ||| Int32.ofInt 0).toInt)]) (hp' := h) rfl ?_
    refine jE_if_ne rfl (by omega) (fun c135 => absurd c135 (by omega)) (fun _ => ?_)
    refine jm_Ev.bl 8 (pc' := 154) (A' := [jR 43, jR 5, jI i, jI x, jI y, jI 0, jI 1, jI 1, jI 0, jI ((Int32.ofInt ((Int32.ofInt ((Int32.ofInt ((Int32.ofInt 0 ||| Int32.ofInt 0).toInt) ||| Int32.ofInt 2).toInt) ||| Int32.ofInt 0).toInt) ||| Int32.ofInt 8).toInt)]) (st' := [jI ((Int32.ofInt ((Int32.ofInt ((Int32.ofInt ((Int32.ofInt 0 ||| Int32.ofInt 0).toInt) ||| Int32.ofInt 2).toInt) ||| Int32.ofInt 0).toInt) ||| Int32.ofInt 8).toInt), jI i, jR 52]) (hp' := h) rfl ?_
    refine jE_iast (n := 36) rfl rfl (by omega) ?_
    refine jm_Ev.bl 4 (pc' := 161) (A' := [jR 43, jR 5, jI i, jI x, jI y, jI 0, jI 1, jI 1, jI 0, jI ((Int32.ofInt ((Int32.ofInt ((Int32.ofInt ((Int32.ofInt 0 ||| Int32.ofInt 0).toInt) ||| Int32.ofInt 2).toInt) ||| Int32.ofInt 0).toInt) ||| Int32.ofInt 8).toInt)]) (st' := [jI 0, jI i, jR 53]) (hp' := (jm_hs h 52 i ((Int32.ofInt ((Int32.ofInt ((Int32.ofInt ((Int32.ofInt 0 ||| Int32.ofInt 0).toInt) ||| Int32.ofInt 2).toInt) ||| Int32.ofInt 0).toInt) ||| Int32.ofInt 8).toInt))) rfl ?_
    refine jE_iast (n := 36) rfl rfl (by omega) ?_
    refine jm_Ev.bl 2 (pc' := 2) (A' := [jR 43, jR 5, jI (i + 1), jI x, jI y, jI 0, jI 1, jI 1, jI 0, jI ((Int32.ofInt ((Int32.ofInt ((Int32.ofInt ((Int32.ofInt 0 ||| Int32.ofInt 0).toInt) ||| Int32.ofInt 2).toInt) ||| Int32.ofInt 0).toInt) ||| Int32.ofInt 8).toInt)]) (st' := []) (hp' := (jm_hs (jm_hs h 52 i ((Int32.ofInt ((Int32.ofInt ((Int32.ofInt ((Int32.ofInt 0 ||| Int32.ofInt 0).toInt) ||| Int32.ofInt 2).toInt) ||| Int32.ofInt 0).toInt) ||| Int32.ofInt 8).toInt)) 53 i 0)) rfl ?_
    rw [show ((Int32.ofInt ((Int32.ofInt ((Int32.ofInt ((Int32.ofInt 0 ||| Int32.ofInt 0).toInt) ||| Int32.ofInt 2).toInt) ||| Int32.ofInt 0).toInt) ||| Int32.ofInt 8).toInt) = jeb false true true false by decide]
    exact k _ _ _ _ _
  · refine jm_Ev.bl 4 (pc' := 70) (A' := [jR 43, jR 5, jI i, jI x, jI y, jI 0, jI 1, jI 1, jI 1, jI 0]) (st' := [jI 1, jI 0]) (hp' := h) rfl ?_
    refine jE_if_eq rfl (by omega) (fun c70 => absurd c70 (by omega)) (fun _ => ?_)
    refine jm_Ev.bl 1 (pc' := 75) (A' := [jR 43, jR 5, jI i, jI x, jI y, jI 0, jI 1, jI 1, jI 1, jI 0]) (st' := [jI 1, jI 0]) (hp' := h) rfl ?_
    refine jE_if_ne rfl (by omega) (fun _ => ?_) (fun c75 => absurd c75 (by omega))
    refine jm_Ev.bl 5 (pc' := 90) (A' := [jR 43, jR 5, jI i, jI x, jI y, jI 0, jI 1, jI 1, jI 1, jI ((Int32.ofInt 0 ||| Int32.ofInt 0).toInt)]) (st' := [jI 1, jI ((Int32.ofInt 0 ||| Int32.ofInt 0).toInt)]) (hp' := h) rfl ?_
    refine jE_if_eq rfl (by omega) (fun c90 => absurd c90 (by omega)) (fun _ => ?_)
    refine jm_Ev.bl 1 (pc' := 95) (A' := [jR 43, jR 5, jI i, jI x, jI y, jI 0, jI 1, jI 1, jI 1, jI ((Int32.ofInt 0 ||| Int32.ofInt 0).toInt)]) (st' := [jI 1, jI ((Int32.ofInt 0 ||| Int32.ofInt 0).toInt)]) (hp' := h) rfl ?_
    refine jE_if_ne rfl (by omega) (fun _ => ?_) (fun c95 => absurd c95 (by omega))
    refine jm_Ev.bl 5 (pc' := 110) (A' := [jR 43, jR 5, jI i, jI x, jI y, jI 0, jI 1, jI 1, jI 1, jI ((Int32.ofInt ((Int32.ofInt 0 ||| Int32.ofInt 0).toInt) ||| Int32.ofInt 0).toInt)]) (st' := [jI 0, jI ((Int32.ofInt ((Int32.ofInt 0 ||| Int32.ofInt 0).toInt) ||| Int32.ofInt 0).toInt)]) (hp' := h) rfl ?_
    refine jE_if_eq rfl (by omega) (fun _ => ?_) (fun c110 => absurd c110 (by omega))
    refine jm_Ev.bl 5 (pc' := 130) (A' := [jR 43, jR 5, jI i, jI x, jI y, jI 0, jI 1, jI 1, jI 1, jI ((Int32.ofInt ((Int32.ofInt ((Int32.ofInt 0 ||| Int32.ofInt 0).toInt) ||| Int32.ofInt 0).toInt) ||| Int32.ofInt 0).toInt)]) (st' := [jI 1, jI ((Int32.ofInt ((Int32.ofInt ((Int32.ofInt 0 ||| Int32.ofInt 0).toInt) ||| Int32.ofInt 0).toInt) ||| Int32.ofInt 0).toInt)]) (hp' := h) rfl ?_
    refine jE_if_eq rfl (by omega) (fun c130 => absurd c130 (by omega)) (fun _ => ?_)
    refine jm_Ev.bl 1 (pc' := 135) (A' := [jR 43, jR 5, jI i, jI x, jI y, jI 0, jI 1, jI 1, jI 1, jI ((Int32.ofInt ((Int32.ofInt ((Int32.ofInt 0 ||| Int32.ofInt 0).toInt) ||| Int32.ofInt 0).toInt) ||| Int32.ofInt 0).toInt)]) (st' := [jI 0, jI ((Int32.ofInt ((Int32.ofInt ((Int32.ofInt 0 ||| Int32.ofInt 0).toInt) ||| Int32.ofInt 0).toInt) ||| Int32.ofInt 0).toInt)]) (hp' := h) rfl ?_
    refine jE_if_ne rfl (by omega) (fun c135 => absurd c135 (by omega)) (fun _ => ?_)
    refine jm_Ev.bl 8 (pc' := 154) (A' := [jR 43, jR 5, jI i, jI x, jI y, jI 0, jI 1, jI 1, jI 1, jI ((Int32.ofInt ((Int32.ofInt ((Int32.ofInt ((Int32.ofInt 0 ||| Int32.ofInt 0).toInt) ||| Int32.ofInt 0).toInt) ||| Int32.ofInt 0).toInt) ||| Int32.ofInt 8).toInt)]) (st' := [jI ((Int32.ofInt ((Int32.ofInt ((Int32.ofInt ((Int32.ofInt 0 ||| Int32.ofInt 0).toInt) ||| Int32.ofInt 0).toInt) ||| Int32.ofInt 0).toInt) ||| Int32.ofInt 8).toInt), jI i, jR 52]) (hp' := h) rfl ?_
    refine jE_iast (n := 36) rfl rfl (by omega) ?_
    refine jm_Ev.bl 4 (pc' := 161) (A' := [jR 43, jR 5, jI i, jI x, jI y, jI 0, jI 1, jI 1, jI 1, jI ((Int32.ofInt ((Int32.ofInt ((Int32.ofInt ((Int32.ofInt 0 ||| Int32.ofInt 0).toInt) ||| Int32.ofInt 0).toInt) ||| Int32.ofInt 0).toInt) ||| Int32.ofInt 8).toInt)]) (st' := [jI 0, jI i, jR 53]) (hp' := (jm_hs h 52 i ((Int32.ofInt ((Int32.ofInt ((Int32.ofInt ((Int32.ofInt 0 ||| Int32.ofInt 0).toInt) ||| Int32.ofInt 0).toInt) ||| Int32.ofInt 0).toInt) ||| Int32.ofInt 8).toInt))) rfl ?_
    refine jE_iast (n := 36) rfl rfl (by omega) ?_
    refine jm_Ev.bl 2 (pc' := 2) (A' := [jR 43, jR 5, jI (i + 1), jI x, jI y, jI 0, jI 1, jI 1, jI 1, jI ((Int32.ofInt ((Int32.ofInt ((Int32.ofInt ((Int32.ofInt 0 ||| Int32.ofInt 0).toInt) ||| Int32.ofInt 0).toInt) ||| Int32.ofInt 0).toInt) ||| Int32.ofInt 8).toInt)]) (st' := []) (hp' := (jm_hs (jm_hs h 52 i ((Int32.ofInt ((Int32.ofInt ((Int32.ofInt ((Int32.ofInt 0 ||| Int32.ofInt 0).toInt) ||| Int32.ofInt 0).toInt) ||| Int32.ofInt 0).toInt) ||| Int32.ofInt 8).toInt)) 53 i 0)) rfl ?_
    rw [show ((Int32.ofInt ((Int32.ofInt ((Int32.ofInt ((Int32.ofInt 0 ||| Int32.ofInt 0).toInt) ||| Int32.ofInt 0).toInt) ||| Int32.ofInt 0).toInt) ||| Int32.ofInt 8).toInt) = jeb false true true true by decide]
    exact k _ _ _ _ _
  · refine jm_Ev.bl 4 (pc' := 70) (A' := [jR 43, jR 5, jI i, jI x, jI y, jI 1, jI 0, jI 0, jI 0, jI 0]) (st' := [jI 0, jI 0]) (hp' := h) rfl ?_
    refine jE_if_eq rfl (by omega) (fun _ => ?_) (fun c70 => absurd c70 (by omega))
    refine jm_Ev.bl 5 (pc' := 90) (A' := [jR 43, jR 5, jI i, jI x, jI y, jI 1, jI 0, jI 0, jI 0, jI ((Int32.ofInt 0 ||| Int32.ofInt 0).toInt)]) (st' := [jI 0, jI ((Int32.ofInt 0 ||| Int32.ofInt 0).toInt)]) (hp' := h) rfl ?_
    refine jE_if_eq rfl (by omega) (fun _ => ?_) (fun c90 => absurd c90 (by omega))
    refine jm_Ev.bl 5 (pc' := 110) (A' := [jR 43, jR 5, jI i, jI x, jI y, jI 1, jI 0, jI 0, jI 0, jI ((Int32.ofInt ((Int32.ofInt 0 ||| Int32.ofInt 0).toInt) ||| Int32.ofInt 0).toInt)]) (st' := [jI 1, jI ((Int32.ofInt ((Int32.ofInt 0 ||| Int32.ofInt 0).toInt) ||| Int32.ofInt 0).toInt)]) (hp' := h) rfl ?_
    refine jE_if_eq rfl (by omega) (fun c110 => absurd c110 (by omega)) (fun _ => ?_)
    refine jm_Ev.bl 1 (pc' := 115) (A' := [jR 43, jR 5, jI i, jI x, jI y, jI 1, jI 0, jI 0, jI 0, jI ((Int32.ofInt ((Int32.ofInt 0 ||| Int32.ofInt 0).toInt) ||| Int32.ofInt 0).toInt)]) (st' := [jI 0, jI ((Int32.ofInt ((Int32.ofInt 0 ||| Int32.ofInt 0).toInt) ||| Int32.ofInt 0).toInt)]) (hp' := h) rfl ?_
    refine jE_if_ne rfl (by omega) (fun c115 => absurd c115 (by omega)) (fun _ => ?_)
    refine jm_Ev.bl 6 (pc' := 130) (A' := [jR 43, jR 5, jI i, jI x, jI y, jI 1, jI 0, jI 0, jI 0, jI ((Int32.ofInt ((Int32.ofInt ((Int32.ofInt 0 ||| Int32.ofInt 0).toInt) ||| Int32.ofInt 0).toInt) ||| Int32.ofInt 4).toInt)]) (st' := [jI 0, jI ((Int32.ofInt ((Int32.ofInt ((Int32.ofInt 0 ||| Int32.ofInt 0).toInt) ||| Int32.ofInt 0).toInt) ||| Int32.ofInt 4).toInt)]) (hp' := h) rfl ?_
    refine jE_if_eq rfl (by omega) (fun _ => ?_) (fun c130 => absurd c130 (by omega))
    refine jm_Ev.bl 7 (pc' := 154) (A' := [jR 43, jR 5, jI i, jI x, jI y, jI 1, jI 0, jI 0, jI 0, jI ((Int32.ofInt ((Int32.ofInt ((Int32.ofInt ((Int32.ofInt 0 ||| Int32.ofInt 0).toInt) ||| Int32.ofInt 0).toInt) ||| Int32.ofInt 4).toInt) ||| Int32.ofInt 0).toInt)]) (st' := [jI ((Int32.ofInt ((Int32.ofInt ((Int32.ofInt ((Int32.ofInt 0 ||| Int32.ofInt 0).toInt) ||| Int32.ofInt 0).toInt) ||| Int32.ofInt 4).toInt) ||| Int32.ofInt 0).toInt), jI i, jR 52]) (hp' := h) rfl ?_
    refine jE_iast (n := 36) rfl rfl (by omega) ?_
    refine jm_Ev.bl 4 (pc' := 161) (A' := [jR 43, jR 5, jI i, jI x, jI y, jI 1, jI 0, jI 0, jI 0, jI ((Int32.ofInt ((Int32.ofInt ((Int32.ofInt ((Int32.ofInt 0 ||| Int32.ofInt 0).toInt) ||| Int32.ofInt 0).toInt) ||| Int32.ofInt 4).toInt) ||| Int32.ofInt 0).toInt)]) (st' := [jI 0, jI i, jR 53]) (hp' := (jm_hs h 52 i ((Int32.ofInt ((Int32.ofInt ((Int32.ofInt ((Int32.ofInt 0 ||| Int32.ofInt 0).toInt) ||| Int32.ofInt 0).toInt) ||| Int32.ofInt 4).toInt) ||| Int32.ofInt 0).toInt))) rfl ?_
    refine jE_iast (n := 36) rfl rfl (by omega) ?_
    refine jm_Ev.bl 2 (pc' := 2) (A' := [jR 43, jR 5, jI (i + 1), jI x, jI y, jI 1, jI 0, jI 0, jI 0, jI ((Int32.ofInt ((Int32.ofInt ((Int32.ofInt ((Int32.ofInt 0 ||| Int32.ofInt 0).toInt) ||| Int32.ofInt 0).toInt) ||| Int32.ofInt 4).toInt) ||| Int32.ofInt 0).toInt)]) (st' := []) (hp' := (jm_hs (jm_hs h 52 i ((Int32.ofInt ((Int32.ofInt ((Int32.ofInt ((Int32.ofInt 0 ||| Int32.ofInt 0).toInt) ||| Int32.ofInt 0).toInt) ||| Int32.ofInt 4).toInt) ||| Int32.ofInt 0).toInt)) 53 i 0)) rfl ?_
    rw [show ((Int32.ofInt ((Int32.ofInt ((Int32.ofInt ((Int32.ofInt 0 ||| Int32.ofInt 0).toInt) ||| Int32.ofInt 0).toInt) ||| Int32.ofInt 4).toInt) ||| Int32.ofInt 0).toInt) = jeb true false false false by decide]
    exact k _ _ _ _ _
  · refine jm_Ev.bl 4 (pc' := 70) (A' := [jR 43, jR 5, jI i, jI x, jI y, jI 1, jI 0, jI 0, jI 1, jI 0]) (st' := [jI 1, jI 0]) (hp' := h) rfl ?_
    refine jE_if_eq rfl (by omega) (fun c70 => absurd c70 (by omega)) (fun _ => ?_)
    refine jm_Ev.bl 1 (pc' := 75) (A' := [jR 43, jR 5, jI i, jI x, jI y, jI 1, jI 0, jI 0, jI 1, jI 0]) (st' := [jI 0, jI 0]) (hp' := h) rfl ?_
    refine jE_if_ne rfl (by omega) (fun c75 => absurd c75 (by omega)) (fun _ => ?_)
    refine jm_Ev.bl 6 (pc' := 90) (A' := [jR 43, jR 5, jI i, jI x, jI y, jI 1, jI 0, jI 0, jI 1, jI ((Int32.ofInt 0 ||| Int32.ofInt 1).toInt)]) (st' := [jI 0, jI ((Int32.ofInt 0 ||| Int32.ofInt 1).toInt)]) (hp' := h) rfl ?_
    refine jE_if_eq rfl (by omega) (fun _ => ?_) (fun c90 => absurd c90 (by omega))
    refine jm_Ev.bl 5 (pc' := 110) (A' := [jR 43, jR 5, jI i, jI x, jI y, jI 1, jI 0, jI 0, jI 1, jI ((Int32.ofInt ((Int32.ofInt 0 ||| Int32.ofInt 1).toInt) ||| Int32.ofInt 0).toInt)]) (st' := [jI 1, jI ((Int32.ofInt ((Int32.ofInt 0 ||| Int32.ofInt 1).toInt) ||| Int32.ofInt 0).toInt)]) (hp' := h) rfl ?_
    refine jE_if_eq rfl (by omega) (fun c110 => absurd c110 (by omega)) (fun _ => ?_)
    refine jm_Ev.bl 1 (pc' := 115) (A' := [jR 43, jR 5, jI i, jI x, jI y, jI 1, jI 0, jI 0, jI 1, jI ((Int32.ofInt ((Int32.ofInt 0 ||| Int32.ofInt 1).toInt) ||| Int32.ofInt 0).toInt)]) (st' := [jI 0, jI ((Int32.ofInt ((Int32.ofInt 0 ||| Int32.ofInt 1).toInt) ||| Int32.ofInt 0).toInt)]) (hp' := h) rfl ?_
    refine jE_if_ne rfl (by omega) (fun c115 => absurd c115 (by omega)) (fun _ => ?_)
    refine jm_Ev.bl 6 (pc' := 130) (A' := [jR 43, jR 5, jI i, jI x, jI y, jI 1, jI 0, jI 0, jI 1, jI ((Int32.ofInt ((Int32.ofInt ((Int32.ofInt 0 ||| Int32.ofInt 1).toInt) ||| Int32.ofInt 0).toInt) ||| Int32.ofInt 4).toInt)]) (st' := [jI 0, jI ((Int32.ofInt ((Int32.ofInt ((Int32.ofInt 0 ||| Int32.ofInt 1).toInt) ||| Int32.ofInt 0).toInt) ||| Int32.ofInt 4).toInt)]) (hp' := h) rfl ?_
    refine jE_if_eq rfl (by omega) (fun _ => ?_) (fun c130 => absurd c130 (by omega))
    refine jm_Ev.bl 7 (pc' := 154) (A' := [jR 43, jR 5, jI i, jI x, jI y, jI 1, jI 0, jI 0, jI 1, jI ((Int32.ofInt ((Int32.ofInt ((Int32.ofInt ((Int32.ofInt 0 ||| Int32.ofInt 1).toInt) ||| Int32.ofInt 0).toInt) ||| Int32.ofInt 4).toInt) ||| Int32.ofInt 0).toInt)]) (st' := [jI ((Int32.ofInt ((Int32.ofInt ((Int32.ofInt ((Int32.ofInt 0 ||| Int32.ofInt 1).toInt) ||| Int32.ofInt 0).toInt) ||| Int32.ofInt 4).toInt) ||| Int32.ofInt 0).toInt), jI i, jR 52]) (hp' := h) rfl ?_
    refine jE_iast (n := 36) rfl rfl (by omega) ?_
    refine jm_Ev.bl 4 (pc' := 161) (A' := [jR 43, jR 5, jI i, jI x, jI y, jI 1, jI 0, jI 0, jI 1, jI ((Int32.ofInt ((Int32.ofInt ((Int32.ofInt ((Int32.ofInt 0 ||| Int32.ofInt 1).toInt) ||| Int32.ofInt 0).toInt) ||| Int32.ofInt 4).toInt) ||| Int32.ofInt 0).toInt)]) (st' := [jI 0, jI i, jR 53]) (hp' := (jm_hs h 52 i ((Int32.ofInt ((Int32.ofInt ((Int32.ofInt ((Int32.ofInt 0 ||| Int32.ofInt 1).toInt) ||| Int32.ofInt 0).toInt) ||| Int32.ofInt 4).toInt) ||| Int32.ofInt 0).toInt))) rfl ?_
    refine jE_iast (n := 36) rfl rfl (by omega) ?_
    refine jm_Ev.bl 2 (pc' := 2) (A' := [jR 43, jR 5, jI (i + 1), jI x, jI y, jI 1, jI 0, jI 0, jI 1, jI ((Int32.ofInt ((Int32.ofInt ((Int32.ofInt ((Int32.ofInt 0 ||| Int32.ofInt 1).toInt) ||| Int32.ofInt 0).toInt) ||| Int32.ofInt 4).toInt) ||| Int32.ofInt 0).toInt)]) (st' := []) (hp' := (jm_hs (jm_hs h 52 i ((Int32.ofInt ((Int32.ofInt ((Int32.ofInt ((Int32.ofInt 0 ||| Int32.ofInt 1).toInt) ||| Int32.ofInt 0).toInt) ||| Int32.ofInt 4).toInt) ||| Int32.ofInt 0).toInt)) 53 i 0)) rfl ?_
    rw [show ((Int32.ofInt ((Int32.ofInt ((Int32.ofInt ((Int32.ofInt 0 ||| Int32.ofInt 1).toInt) ||| Int32.ofInt 0).toInt) ||| Int32.ofInt 4).toInt) ||| Int32.ofInt 0).toInt) = jeb true false false true by decide]
    exact k _ _ _ _ _
  · refine jm_Ev.bl 4 (pc' := 70) (A' := [jR 43, jR 5, jI i, jI x, jI y, jI 1, jI 0, jI 1, jI 0, jI 0]) (st' := [jI 0, jI 0]) (hp' := h) rfl ?_
    refine jE_if_eq rfl (by omega) (fun _ => ?_) (fun c70 => absurd c70 (by omega))
    refine jm_Ev.bl 5 (pc' := 90) (A' := [jR 43, jR 5, jI i, jI x, jI y, jI 1, jI 0, jI 1, jI 0, jI ((Int32.ofInt 0 ||| Int32.ofInt 0).toInt)]) (st' := [jI 1, jI ((Int32.ofInt 0 ||| Int32.ofInt 0).toInt)]) (hp' := h) rfl ?_
    refine jE_if_eq rfl (by omega) (fun c90 => absurd c90 (by omega)) (fun _ => ?_)
    refine jm_Ev.bl 1 (pc' := 95) (A' := [jR 43, jR 5, jI i, jI x, jI y, jI 1, jI 0, jI 1, jI 0, jI ((Int32.ofInt 0 ||| Int32.ofInt 0).toInt)]) (st' := [jI 0, jI ((Int32.ofInt 0 ||| Int32.ofInt 0).toInt)]) (hp' := h) rfl ?_
    refine jE_if_ne rfl (by omega) (fun c95 => absurd c95 (by omega)) (fun _ => ?_)
    refine jm_Ev.bl 6 (pc' := 110) (A' := [jR 43, jR 5, jI i, jI x, jI y, jI 1, jI 0, jI 1, jI 0, jI ((Int32.ofInt ((Int32.ofInt 0 ||| Int32.ofInt 0).toInt) ||| Int32.ofInt 2).toInt)]) (st' := [jI 1, jI ((Int32.ofInt ((Int32.ofInt 0 ||| Int32.ofInt 0).toInt) ||| Int32.ofInt 2).toInt)]) (hp' := h) rfl ?_
    refine jE_if_eq rfl (by omega) (fun c110 => absurd c110 (by omega)) (fun _ => ?_)
    refine jm_Ev.bl 1 (pc' := 115) (A' := [jR 43, jR 5, jI i, jI x, jI y, jI 1, jI 0, jI 1, jI 0, jI ((Int32.ofInt ((Int32.ofInt 0 ||| Int32.ofInt 0).toInt) ||| Int32.ofInt 2).toInt)]) (st' := [jI 1, jI ((Int32.ofInt ((Int32.ofInt 0 ||| Int32.ofInt 0).toInt) ||| Int32.ofInt 2).toInt)]) (hp' := h) rfl ?_
    refine jE_if_ne rfl (by omega) (fun _ => ?_) (fun c115 => absurd c115 (by omega))
    refine jm_Ev.bl 5 (pc' := 130) (A' := [jR 43, jR 5, jI i, jI x, jI y, jI 1, jI 0, jI 1, jI 0, jI ((Int32.ofInt ((Int32.ofInt ((Int32.ofInt 0 ||| Int32.ofInt 0).toInt) ||| Int32.ofInt 2).toInt) ||| Int32.ofInt 0).toInt)]) (st' := [jI 0, jI ((Int32.ofInt ((Int32.ofInt ((Int32.ofInt 0 ||| Int32.ofInt 0).toInt) ||| Int32.ofInt 2).toInt) ||| Int32.ofInt 0).toInt)]) (hp' := h) rfl ?_
    refine jE_if_eq rfl (by omega) (fun _ => ?_) (fun c130 => absurd c130 (by omega))
    refine jm_Ev.bl 7 (pc' := 154) (A' := [jR 43, jR 5, jI i, jI x, jI y, jI 1, jI 0, jI 1, jI 0, jI ((Int32.ofInt ((Int32.ofInt ((Int32.ofInt ((Int32.ofInt 0 ||| Int32.ofInt 0).toInt) ||| Int32.ofInt 2).toInt) ||| Int32.ofInt 0).toInt) ||| Int32.ofInt 0).toInt)]) (st' := [jI ((Int32.ofInt ((Int32.ofInt ((Int32.ofInt ((Int32.ofInt 0 ||| Int32.ofInt 0).toInt) ||| Int32.ofInt 2).toInt) ||| Int32.ofInt 0).toInt) ||| Int32.ofInt 0).toInt), jI i, jR 52]) (hp' := h) rfl ?_
    refine jE_iast (n := 36) rfl rfl (by omega) ?_
    refine jm_Ev.bl 4 (pc' := 161) (A' := [jR 43, jR 5, jI i, jI x, jI y, jI 1, jI 0, jI 1, jI 0, jI ((Int32.ofInt ((Int32.ofInt ((Int32.ofInt ((Int32.ofInt 0 ||| Int32.ofInt 0).toInt) ||| Int32.ofInt 2).toInt) ||| Int32.ofInt 0).toInt) ||| Int32.ofInt 0).toInt)]) (st' := [jI 0, jI i, jR 53]) (hp' := (jm_hs h 52 i ((Int32.ofInt ((Int32.ofInt ((Int32.ofInt ((Int32.ofInt 0 ||| Int32.ofInt 0).toInt) ||| Int32.ofInt 2).toInt) ||| Int32.ofInt 0).toInt) ||| Int32.ofInt 0).toInt))) rfl ?_
    refine jE_iast (n := 36) rfl rfl (by omega) ?_
    refine jm_Ev.bl 2 (pc' := 2) (A' := [jR 43, jR 5, jI (i + 1), jI x, jI y, jI 1, jI 0, jI 1, jI 0, jI ((Int32.ofInt ((Int32.ofInt ((Int32.ofInt ((Int32.ofInt 0 ||| Int32.ofInt 0).toInt) ||| Int32.ofInt 2).toInt) ||| Int32.ofInt 0).toInt) ||| Int32.ofInt 0).toInt)]) (st' := []) (hp' := (jm_hs (jm_hs h 52 i ((Int32.ofInt ((Int32.ofInt ((Int32.ofInt ((Int32.ofInt 0 ||| Int32.ofInt 0).toInt) ||| Int32.ofInt 2).toInt) ||| Int32.ofInt 0).toInt) ||| Int32.ofInt 0).toInt)) 53 i 0)) rfl ?_
    rw [show ((Int32.ofInt ((Int32.ofInt ((Int32.ofInt ((Int32.ofInt 0 ||| Int32.ofInt 0).toInt) ||| Int32.ofInt 2).toInt) ||| Int32.ofInt 0).toInt) ||| Int32.ofInt 0).toInt) = jeb true false true false by decide]
    exact k _ _ _ _ _
  · refine jm_Ev.bl 4 (pc' := 70) (A' := [jR 43, jR 5, jI i, jI x, jI y, jI 1, jI 0, jI 1, jI 1, jI 0]) (st' := [jI 1, jI 0]) (hp' := h) rfl ?_
    refine jE_if_eq rfl (by omega) (fun c70 => absurd c70 (by omega)) (fun _ => ?_)
    refine jm_Ev.bl 1 (pc' := 75) (A' := [jR 43, jR 5, jI i, jI x, jI y, jI 1, jI 0, jI 1, jI 1, jI 0]) (st' := [jI 0, jI 0]) (hp' := h) rfl ?_
    refine jE_if_ne rfl (by omega) (fun c75 => absurd c75 (by omega)) (fun _ => ?_)
    refine jm_Ev.bl 6 (pc' := 90) (A' := [jR 43, jR 5, jI i, jI x, jI y, jI 1, jI 0, jI 1, jI 1, jI ((Int32.ofInt 0 ||| Int32.ofInt 1).toInt)]) (st' := [jI 1, jI ((Int32.ofInt 0 ||| Int32.ofInt 1).toInt)]) (hp' := h) rfl ?_
    refine jE_if_eq rfl (by omega) (fun c90 => absurd c90 (by omega)) (fun _ => ?_)
    refine jm_Ev.bl 1 (pc' := 95) (A' := [jR 43, jR 5, jI i, jI x, jI y, jI 1, jI 0, jI 1, jI 1, jI ((Int32.ofInt 0 ||| Int32.ofInt 1).toInt)]) (st' := [jI 1, jI ((Int32.ofInt 0 ||| Int32.ofInt 1).toInt)]) (hp' := h) rfl ?_
    refine jE_if_ne rfl (by omega) (fun _ => ?_) (fun c95 => absurd c95 (by omega))
    refine jm_Ev.bl 5 (pc' := 110) (A' := [jR 43, jR 5, jI i, jI x, jI y, jI 1, jI 0, jI 1, jI 1, jI ((Int32.ofInt ((Int32.ofInt 0 ||| Int32.ofInt 1).toInt) ||| Int32.ofInt 0).toInt)]) (st' := [jI 1, jI ((Int32.ofInt ((Int32.ofInt 0 ||| Int32.ofInt 1).toInt) ||| Int32.ofInt 0).toInt)]) (hp' := h) rfl ?_
    refine jE_if_eq rfl (by omega) (fun c110 => absurd c110 (by omega)) (fun _ => ?_)
    refine jm_Ev.bl 1 (pc' := 115) (A' := [jR 43, jR 5, jI i, jI x, jI y, jI 1, jI 0, jI 1, jI 1, jI ((Int32.ofInt ((Int32.ofInt 0 ||| Int32.ofInt 1).toInt) ||| Int32.ofInt 0).toInt)]) (st' := [jI 1, jI ((Int32.ofInt ((Int32.ofInt 0 ||| Int32.ofInt 1).toInt) ||| Int32.ofInt 0).toInt)]) (hp' := h) rfl ?_
    refine jE_if_ne rfl (by omega) (fun _ => ?_) (fun c115 => absurd c115 (by omega))
    refine jm_Ev.bl 5 (pc' := 130) (A' := [jR 43, jR 5, jI i, jI x, jI y, jI 1, jI 0, jI 1, jI 1, jI ((Int32.ofInt ((Int32.ofInt ((Int32.ofInt 0 ||| Int32.ofInt 1).toInt) ||| Int32.ofInt 0).toInt) ||| Int32.ofInt 0).toInt)]) (st' := [jI 0, jI ((Int32.ofInt ((Int32.ofInt ((Int32.ofInt 0 ||| Int32.ofInt 1).toInt) ||| Int32.ofInt 0).toInt) ||| Int32.ofInt 0).toInt)]) (hp' := h) rfl ?_
    refine jE_if_eq rfl (by omega) (fun _ => ?_) (fun c130 => absurd c130 (by omega))
    refine jm_Ev.bl 7 (pc' := 154) (A' := [jR 43, jR 5, jI i, jI x, jI y, jI 1, jI 0, jI 1, jI 1, jI ((Int32.ofInt ((Int32.ofInt ((Int32.ofInt ((Int32.ofInt 0 ||| Int32.ofInt 1).toInt) ||| Int32.ofInt 0).toInt) ||| Int32.ofInt 0).toInt) ||| Int32.ofInt 0).toInt)]) (st' := [jI ((Int32.ofInt ((Int32.ofInt ((Int32.ofInt ((Int32.ofInt 0 ||| Int32.ofInt 1).toInt) ||| Int32.ofInt 0).toInt) ||| Int32.ofInt 0).toInt) ||| Int32.ofInt 0).toInt), jI i, jR 52]) (hp' := h) rfl ?_
    refine jE_iast (n := 36) rfl rfl (by omega) ?_
    refine jm_Ev.bl 4 (pc' := 161) (A' := [jR 43, jR 5, jI i, jI x, jI y, jI 1, jI 0, jI 1, jI 1, jI ((Int32.ofInt ((Int32.ofInt ((Int32.ofInt ((Int32.ofInt 0 ||| Int32.ofInt 1).toInt) ||| Int32.ofInt 0).toInt) ||| Int32.ofInt 0).toInt) ||| Int32.ofInt 0).toInt)]) (st' := [jI 0, jI i, jR 53]) (hp' := (jm_hs h 52 i ((Int32.ofInt ((Int32.ofInt ((Int32.ofInt ((Int32.ofInt 0 ||| Int32.ofInt 1).toInt) ||| Int32.ofInt 0).toInt) ||| Int32.ofInt 0).toInt) ||| Int32.ofInt 0).toInt))) rfl ?_
    refine jE_iast (n := 36) rfl rfl (by omega) ?_
    refine jm_Ev.bl 2 (pc' := 2) (A' := [jR 43, jR 5, jI (i + 1), jI x, jI y, jI 1, jI 0, jI 1, jI 1, jI ((Int32.ofInt ((Int32.ofInt ((Int32.ofInt ((Int32.ofInt 0 ||| Int32.ofInt 1).toInt) ||| Int32.ofInt 0).toInt) ||| Int32.ofInt 0).toInt) ||| Int32.ofInt 0).toInt)]) (st' := []) (hp' := (jm_hs (jm_hs h 52 i ((Int32.ofInt ((Int32.ofInt ((Int32.ofInt ((Int32.ofInt 0 ||| Int32.ofInt 1).toInt) ||| Int32.ofInt 0).toInt) ||| Int32.ofInt 0).toInt) ||| Int32.ofInt 0).toInt)) 53 i 0)) rfl ?_
    rw [show ((Int32.ofInt ((Int32.ofInt ((Int32.ofInt ((Int32.ofInt 0 ||| Int32.ofInt 1).toInt) ||| Int32.ofInt 0).toInt) ||| Int32.ofInt 0).toInt) ||| Int32.ofInt 0).toInt) = jeb true false true true by decide]
    exact k _ _ _ _ _
  · refine jm_Ev.bl 4 (pc' := 70) (A' := [jR 43, jR 5, jI i, jI x, jI y, jI 1, jI 1, jI 0, jI 0, jI 0]) (st' := [jI 0, jI 0]) (hp' := h) rfl ?_
    refine jE_if_eq rfl (by omega) (fun _ => ?_) (fun c70 => absurd c70 (by omega))
    refine jm_Ev.bl 5 (pc' := 90) (A' := [jR 43, jR 5, jI i, jI x, jI y, jI 1, jI 1, jI 0, jI 0, jI ((Int32.ofInt 0 ||| Int32.ofInt 0).toInt)]) (st' := [jI 0, jI ((Int32.ofInt 0 ||| Int32.ofInt 0).toInt)]) (hp' := h) rfl ?_
    refine jE_if_eq rfl (by omega) (fun _ => ?_) (fun c90 => absurd c90 (by omega))
    refine jm_Ev.bl 5 (pc' := 110) (A' := [jR 43, jR 5, jI i, jI x, jI y, jI 1, jI 1, jI 0, jI 0, jI ((Int32.ofInt ((Int32.ofInt 0 ||| Int32.ofInt 0).toInt) ||| Int32.ofInt 0).toInt)]) (st' := [jI 1, jI ((Int32.ofInt ((Int32.ofInt 0 ||| Int32.ofInt 0).toInt) ||| Int32.ofInt 0).toInt)]) (hp' := h) rfl ?_
    refine jE_if_eq rfl (by omega) (fun c110 => absurd c110 (by omega)) (fun _ => ?_)
    refine jm_Ev.bl 1 (pc' := 115) (A' := [jR 43, jR 5, jI i, jI x, jI y, jI 1, jI 1, jI 0, jI 0, jI ((Int32.ofInt ((Int32.ofInt 0 ||| Int32.ofInt 0).toInt) ||| Int32.ofInt 0).toInt)]) (st' := [jI 0, jI ((Int32.ofInt ((Int32.ofInt 0 ||| Int32.ofInt 0).toInt) ||| Int32.ofInt 0).toInt)]) (hp' := h) rfl ?_
    refine jE_if_ne rfl (by omega) (fun c115 => absurd c115 (by omega)) (fun _ => ?_)
    refine jm_Ev.bl 6 (pc' := 130) (A' := [jR 43, jR 5, jI i, jI x, jI y, jI 1, jI 1, jI 0, jI 0, jI ((Int32.ofInt ((Int32.ofInt ((Int32.ofInt 0 ||| Int32.ofInt 0).toInt) ||| Int32.ofInt 0).toInt) ||| Int32.ofInt 4).toInt)]) (st' := [jI 1, jI ((Int32.ofInt ((Int32.ofInt ((Int32.ofInt 0 ||| Int32.ofInt 0).toInt) ||| Int32.ofInt 0).toInt) ||| Int32.ofInt 4).toInt)]) (hp' := h) rfl ?_
    refine jE_if_eq rfl (by omega) (fun c130 => absurd c130 (by omega)) (fun _ => ?_)
    refine jm_Ev.bl 1 (pc' := 135) (A' := [jR 43, jR 5, jI i, jI x, jI y, jI 1, jI 1, jI 0, jI 0, jI ((Int32.ofInt ((Int32.ofInt ((Int32.ofInt 0 ||| Int32.ofInt 0).toInt) ||| Int32.ofInt 0).toInt) ||| Int32.ofInt 4).toInt)]) (st' := [jI 1, jI ((Int32.ofInt ((Int32.ofInt ((Int32.ofInt 0 ||| Int32.ofInt 0).toInt) ||| Int32.ofInt 0).toInt) ||| Int32.ofInt 4).toInt)]) (hp' := h) rfl ?_
    refine jE_if_ne rfl (by omega) (fun _ => ?_) (fun c135 => absurd c135 (by omega))
    refine jm_Ev.bl 7 (pc' := 154) (A' := [jR 43, jR 5, jI i, jI x, jI y, jI 1, jI 1, jI 0, jI 0, jI ((Int32.ofInt ((Int32.ofInt ((Int32.ofInt ((Int32.ofInt 0 ||| Int32.ofInt 0).toInt) ||| Int32.ofInt 0).toInt) ||| Int32.ofInt 4).toInt) ||| Int32.ofInt 0).toInt)]) (st' := [jI ((Int32.ofInt ((Int32.ofInt ((Int32.ofInt ((Int32.ofInt 0 ||| Int32.ofInt 0).toInt) ||| Int32.ofInt 0).toInt) ||| Int32.ofInt 4).toInt) ||| Int32.ofInt 0).toInt), jI i, jR 52]) (hp' := h) rfl ?_
    refine jE_iast (n := 36) rfl rfl (by omega) ?_
    refine jm_Ev.bl 4 (pc' := 161) (A' := [jR 43, jR 5, jI i, jI x, jI y, jI 1, jI 1, jI 0, jI 0, jI ((Int32.ofInt ((Int32.ofInt ((Int32.ofInt ((Int32.ofInt 0 ||| Int32.ofInt 0).toInt) ||| Int32.ofInt 0).toInt) ||| Int32.ofInt 4).toInt) ||| Int32.ofInt 0).toInt)]) (st' := [jI 0, jI i, jR 53]) (hp' := (jm_hs h 52 i ((Int32.ofInt ((Int32.ofInt ((Int32.ofInt ((Int32.ofInt 0 ||| Int32.ofInt 0).toInt) ||| Int32.ofInt 0).toInt) ||| Int32.ofInt 4).toInt) ||| Int32.ofInt 0).toInt))) rfl ?_
    refine jE_iast (n := 36) rfl rfl (by omega) ?_
    refine jm_Ev.bl 2 (pc' := 2) (A' := [jR 43, jR 5, jI (i + 1), jI x, jI y, jI 1, jI 1, jI 0, jI 0, jI ((Int32.ofInt ((Int32.ofInt ((Int32.ofInt ((Int32.ofInt 0 ||| Int32.ofInt 0).toInt) ||| Int32.ofInt 0).toInt) ||| Int32.ofInt 4).toInt) ||| Int32.ofInt 0).toInt)]) (st' := []) (hp' := (jm_hs (jm_hs h 52 i ((Int32.ofInt ((Int32.ofInt ((Int32.ofInt ((Int32.ofInt 0 ||| Int32.ofInt 0).toInt) ||| Int32.ofInt 0).toInt) ||| Int32.ofInt 4).toInt) ||| Int32.ofInt 0).toInt)) 53 i 0)) rfl ?_
    rw [show ((Int32.ofInt ((Int32.ofInt ((Int32.ofInt ((Int32.ofInt 0 ||| Int32.ofInt 0).toInt) ||| Int32.ofInt 0).toInt) ||| Int32.ofInt 4).toInt) ||| Int32.ofInt 0).toInt) = jeb true true false false by decide]
    exact k _ _ _ _ _
  · refine jm_Ev.bl 4 (pc' := 70) (A' := [jR 43, jR 5, jI i, jI x, jI y, jI 1, jI 1, jI 0, jI 1, jI 0]) (st' := [jI 1, jI 0]) (hp' := h) rfl ?_
    refine jE_if_eq rfl (by omega) (fun c70 => absurd c70 (by omega)) (fun _ => ?_)
    refine jm_Ev.bl 1 (pc' := 75) (A' := [jR 43, jR 5, jI i, jI x, jI y, jI 1, jI 1, jI 0, jI 1, jI 0]) (st' := [jI 1, jI 0]) (hp' := h) rfl ?_
    refine jE_if_ne rfl (by omega) (fun _ => ?_) (fun c75 => absurd c75 (by omega))
    refine jm_Ev.bl 5 (pc' := 90) (A' := [jR 43, jR 5, jI i, jI x, jI y, jI 1, jI 1, jI 0, jI 1, jI ((Int32.ofInt 0 ||| Int32.ofInt 0).toInt)]) (st' := [jI 0, jI ((Int32.ofInt 0 ||| Int32.ofInt 0).toInt)]) (hp' := h) rfl ?_
    refine jE_if_eq rfl (by omega) (fun _ => ?_) (fun c90 => absurd c90 (by omega))
    refine jm_Ev.bl 5 (pc' := 110) (A' := [jR 43, jR 5, jI i, jI x, jI y, jI 1, jI 1, jI 0, jI 1, jI ((Int32.ofInt ((Int32.ofInt 0 ||| Int32.ofInt 0).toInt) ||| Int32.ofInt 0).toInt)]) (st' := [jI 1, jI ((Int32.ofInt ((Int32.ofInt 0 ||| Int32.ofInt 0).toInt) ||| Int32.ofInt 0).toInt)]) (hp' := h) rfl ?_
    refine jE_if_eq rfl (by omega) (fun c110 => absurd c110 (by omega)) (fun _ => ?_)
    refine jm_Ev.bl 1 (pc' := 115) (A' := [jR 43, jR 5, jI i, jI x, jI y, jI 1, jI 1, jI 0, jI 1, jI ((Int32.ofInt ((Int32.ofInt 0 ||| Int32.ofInt 0).toInt) ||| Int32.ofInt 0).toInt)]) (st' := [jI 0, jI ((Int32.ofInt ((Int32.ofInt 0 ||| Int32.ofInt 0).toInt) ||| Int32.ofInt 0).toInt)]) (hp' := h) rfl ?_
    refine jE_if_ne rfl (by omega) (fun c115 => absurd c115 (by omega)) (fun _ => ?_)
    refine jm_Ev.bl 6 (pc' := 130) (A' := [jR 43, jR 5, jI i, jI x, jI y, jI 1, jI 1, jI 0, jI 1, jI ((Int32.ofInt ((Int32.ofInt ((Int32.ofInt 0 ||| Int32.ofInt 0).toInt) ||| Int32.ofInt 0).toInt) ||| Int32.ofInt 4).toInt)]) (st' := [jI 1, jI ((Int32.ofInt ((Int32.ofInt ((Int32.ofInt 0 ||| Int32.ofInt 0).toInt) ||| Int32.ofInt 0).toInt) ||| Int32.ofInt 4).toInt)]) (hp' := h) rfl ?_
    refine jE_if_eq rfl (by omega) (fun c130 => absurd c130 (by omega)) (fun _ => ?_)
    refine jm_Ev.bl 1 (pc' := 135) (A' := [jR 43, jR 5, jI i, jI x, jI y, jI 1, jI 1, jI 0, jI 1, jI ((Int32.ofInt ((Int32.ofInt ((Int32.ofInt 0 ||| Int32.ofInt 0).toInt) ||| Int32.ofInt 0).toInt) ||| Int32.ofInt 4).toInt)]) (st' := [jI 1, jI ((Int32.ofInt ((Int32.ofInt ((Int32.ofInt 0 ||| Int32.ofInt 0).toInt) ||| Int32.ofInt 0).toInt) ||| Int32.ofInt 4).toInt)]) (hp' := h) rfl ?_
    refine jE_if_ne rfl (by omega) (fun _ => ?_) (fun c135 => absurd c135 (by omega))
    refine jm_Ev.bl 7 (pc' := 154) (A' := [jR 43, jR 5, jI i, jI x, jI y, jI 1, jI 1, jI 0, jI 1, jI ((Int32.ofInt ((Int32.ofInt ((Int32.ofInt ((Int32.ofInt 0 ||| Int32.ofInt 0).toInt) ||| Int32.ofInt 0).toInt) ||| Int32.ofInt 4).toInt) ||| Int32.ofInt 0).toInt)]) (st' := [jI ((Int32.ofInt ((Int32.ofInt ((Int32.ofInt ((Int32.ofInt 0 ||| Int32.ofInt 0).toInt) ||| Int32.ofInt 0).toInt) ||| Int32.ofInt 4).toInt) ||| Int32.ofInt 0).toInt), jI i, jR 52]) (hp' := h) rfl ?_
    refine jE_iast (n := 36) rfl rfl (by omega) ?_
    refine jm_Ev.bl 4 (pc' := 161) (A' := [jR 43, jR 5, jI i, jI x, jI y, jI 1, jI 1, jI 0, jI 1, jI ((Int32.ofInt ((Int32.ofInt ((Int32.ofInt ((Int32.ofInt 0 ||| Int32.ofInt 0).toInt) ||| Int32.ofInt 0).toInt) ||| Int32.ofInt 4).toInt) ||| Int32.ofInt 0).toInt)]) (st' := [jI 0, jI i, jR 53]) (hp' := (jm_hs h 52 i ((Int32.ofInt ((Int32.ofInt ((Int32.ofInt ((Int32.ofInt 0 ||| Int32.ofInt 0).toInt) ||| Int32.ofInt 0).toInt) ||| Int32.ofInt 4).toInt) ||| Int32.ofInt 0).toInt))) rfl ?_
    refine jE_iast (n := 36) rfl rfl (by omega) ?_
    refine jm_Ev.bl 2 (pc' := 2) (A' := [jR 43, jR 5, jI (i + 1), jI x, jI y, jI 1, jI 1, jI 0, jI 1, jI ((Int32.ofInt ((Int32.ofInt ((Int32.ofInt ((Int32.ofInt 0 ||| Int32.ofInt 0).toInt) ||| Int32.ofInt 0).toInt) ||| Int32.ofInt 4).toInt) ||| Int32.ofInt 0).toInt)]) (st' := []) (hp' := (jm_hs (jm_hs h 52 i ((Int32.ofInt ((Int32.ofInt ((Int32.ofInt ((Int32.ofInt 0 ||| Int32.ofInt 0).toInt) ||| Int32.ofInt 0).toInt) ||| Int32.ofInt 4).toInt) ||| Int32.ofInt 0).toInt)) 53 i 0)) rfl ?_
    rw [show ((Int32.ofInt ((Int32.ofInt ((Int32.ofInt ((Int32.ofInt 0 ||| Int32.ofInt 0).toInt) ||| Int32.ofInt 0).toInt) ||| Int32.ofInt 4).toInt) ||| Int32.ofInt 0).toInt) = jeb true true false true by decide]
    exact k _ _ _ _ _
  · refine jm_Ev.bl 4 (pc' := 70) (A' := [jR 43, jR 5, jI i, jI x, jI y, jI 1, jI 1, jI 1, jI 0, jI 0]) (st' := [jI 0, jI 0]) (hp' := h) rfl ?_
    refine jE_if_eq rfl (by omega) (fun _ => ?_) (fun c70 => absurd c70 (by omega))
    refine jm_Ev.bl 5 (pc' := 90) (A' := [jR 43, jR 5, jI i, jI x, jI y, jI 1, jI 1, jI 1, jI 0, jI ((Int32.ofInt 0 ||| Int32.ofInt 0).toInt)]) (st' := [jI 1, jI ((Int32.ofInt 0 ||| Int32.ofInt 0).toInt)]) (hp' := h) rfl ?_
    refine jE_if_eq rfl (by omega) (fun c90 => absurd c90 (by omega)) (fun _ => ?_)
    refine jm_Ev.bl 1 (pc' := 95) (A' := [jR 43, jR 5, jI i, jI x, jI y, jI 1, jI 1, jI 1, jI 0, jI ((Int32.ofInt 0 ||| Int32.ofInt 0).toInt)]) (st' := [jI 0, jI ((Int32.ofInt 0 ||| Int32.ofInt 0).toInt)]) (hp' := h) rfl ?_
    refine jE_if_ne rfl (by omega) (fun c95 => absurd c95 (by omega)) (fun _ => ?_)
    refine jm_Ev.bl 6 (pc' := 110) (A' := [jR 43, jR 5, jI i, jI x, jI y, jI 1, jI 1, jI 1, jI 0, jI ((Int32.ofInt ((Int32.ofInt 0 ||| Int32.ofInt 0).toInt) ||| Int32.ofInt 2).toInt)]) (st' := [jI 1, jI ((Int32.ofInt ((Int32.ofInt 0 ||| Int32.ofInt 0).toInt) ||| Int32.ofInt 2).toInt)]) (hp' := h) rfl ?_
    refine jE_if_eq rfl (by omega) (fun c110 => absurd c110 (by omega)) (fun _ => ?_)
    refine jm_Ev.bl 1 (pc' := 115) (A' := [jR 43, jR 5, jI i, jI x, jI y, jI 1, jI 1, jI 1, jI 0, jI ((Int32.ofInt ((Int32.ofInt 0 ||| Int32.ofInt 0).toInt) ||| Int32.ofInt 2).toInt)]) (st' := [jI 1, jI ((Int32.ofInt ((Int32.ofInt 0 ||| Int32.ofInt 0).toInt) ||| Int32.ofInt 2).toInt)]) (hp' := h) rfl ?_
    refine jE_if_ne rfl (by omega) (fun _ => ?_) (fun c115 => absurd c115 (by omega))
    refine jm_Ev.bl 5 (pc' := 130) (A' := [jR 43, jR 5, jI i, jI x, jI y, jI 1, jI 1, jI 1, jI 0, jI ((Int32.ofInt ((Int32.ofInt ((Int32.ofInt 0 ||| Int32.ofInt 0).toInt) ||| Int32.ofInt 2).toInt) ||| Int32.ofInt 0).toInt)]) (st' := [jI 1, jI ((Int32.ofInt ((Int32.ofInt ((Int32.ofInt 0 ||| Int32.ofInt 0).toInt) ||| Int32.ofInt 2).toInt) ||| Int32.ofInt 0).toInt)]) (hp' := h) rfl ?_
    refine jE_if_eq rfl (by omega) (fun c130 => absurd c130 (by omega)) (fun _ => ?_)
    refine jm_Ev.bl 1 (pc' := 135) (A' := [jR 43, jR 5, jI i, jI x, jI y, jI 1, jI 1, jI 1, jI 0, jI ((Int32.ofInt ((Int32.ofInt ((Int32.ofInt 0 ||| Int32.ofInt 0).toInt) ||| Int32.ofInt 2).toInt) ||| Int32.ofInt 0).toInt)]) (st' := [jI 1, jI ((Int32.ofInt ((Int32.ofInt ((Int32.ofInt 0 ||| Int32.ofInt 0).toInt) ||| Int32.ofInt 2).toInt) ||| Int32.ofInt 0).toInt)]) (hp' := h) rfl ?_
    refine jE_if_ne rfl (by omega) (fun _ => ?_) (fun c135 => absurd c135 (by omega))
    refine jm_Ev.bl 7 (pc' := 154) (A' := [jR 43, jR 5, jI i, jI x, jI y, jI 1, jI 1, jI 1, jI 0, jI ((Int32.ofInt ((Int32.ofInt ((Int32.ofInt ((Int32.ofInt 0 ||| Int32.ofInt 0).toInt) ||| Int32.ofInt 2).toInt) ||| Int32.ofInt 0).toInt) ||| Int32.ofInt 0).toInt)]) (st' := [jI ((Int32.ofInt ((Int32.ofInt ((Int32.ofInt ((Int32.ofInt 0 ||| Int32.ofInt 0).toInt) ||| Int32.ofInt 2).toInt) ||| Int32.ofInt 0).toInt) ||| Int32.ofInt 0).toInt), jI i, jR 52]) (hp' := h) rfl ?_
    refine jE_iast (n := 36) rfl rfl (by omega) ?_
    refine jm_Ev.bl 4 (pc' := 161) (A' := [jR 43, jR 5, jI i, jI x, jI y, jI 1, jI 1, jI 1, jI 0, jI ((Int32.ofInt ((Int32.ofInt ((Int32.ofInt ((Int32.ofInt 0 ||| Int32.ofInt 0).toInt) ||| Int32.ofInt 2).toInt) ||| Int32.ofInt 0).toInt) ||| Int32.ofInt 0).toInt)]) (st' := [jI 0, jI i, jR 53]) (hp' := (jm_hs h 52 i ((Int32.ofInt ((Int32.ofInt ((Int32.ofInt ((Int32.ofInt 0 ||| Int32.ofInt 0).toInt) ||| Int32.ofInt 2).toInt) ||| Int32.ofInt 0).toInt) ||| Int32.ofInt 0).toInt))) rfl ?_
    refine jE_iast (n := 36) rfl rfl (by omega) ?_
    refine jm_Ev.bl 2 (pc' := 2) (A' := [jR 43, jR 5, jI (i + 1), jI x, jI y, jI 1, jI 1, jI 1, jI 0, jI ((Int32.ofInt ((Int32.ofInt ((Int32.ofInt ((Int32.ofInt 0 ||| Int32.ofInt 0).toInt) ||| Int32.ofInt 2).toInt) ||| Int32.ofInt 0).toInt) ||| Int32.ofInt 0).toInt)]) (st' := []) (hp' := (jm_hs (jm_hs h 52 i ((Int32.ofInt ((Int32.ofInt ((Int32.ofInt ((Int32.ofInt 0 ||| Int32.ofInt 0).toInt) ||| Int32.ofInt 2).toInt) ||| Int32.ofInt 0).toInt) ||| Int32.ofInt 0).toInt)) 53 i 0)) rfl ?_
    rw [show ((Int32.ofInt ((Int32.ofInt ((Int32.ofInt ((Int32.ofInt 0 ||| Int32.ofInt 0).toInt) ||| Int32.ofInt 2).toInt) ||| Int32.ofInt 0).toInt) ||| Int32.ofInt 0).toInt) = jeb true true true false by decide]
    exact k _ _ _ _ _
  · refine jm_Ev.bl 4 (pc' := 70) (A' := [jR 43, jR 5, jI i, jI x, jI y, jI 1, jI 1, jI 1, jI 1, jI 0]) (st' := [jI 1, jI 0]) (hp' := h) rfl ?_
    refine jE_if_eq rfl (by omega) (fun c70 => absurd c70 (by omega)) (fun _ => ?_)
    refine jm_Ev.bl 1 (pc' := 75) (A' := [jR 43, jR 5, jI i, jI x, jI y, jI 1, jI 1, jI 1, jI 1, jI 0]) (st' := [jI 1, jI 0]) (hp' := h) rfl ?_
    refine jE_if_ne rfl (by omega) (fun _ => ?_) (fun c75 => absurd c75 (by omega))
    refine jm_Ev.bl 5 (pc' := 90) (A' := [jR 43, jR 5, jI i, jI x, jI y, jI 1, jI 1, jI 1, jI 1, jI ((Int32.ofInt 0 ||| Int32.ofInt 0).toInt)]) (st' := [jI 1, jI ((Int32.ofInt 0 ||| Int32.ofInt 0).toInt)]) (hp' := h) rfl ?_
    refine jE_if_eq rfl (by omega) (fun c90 => absurd c90 (by omega)) (fun _ => ?_)
    refine jm_Ev.bl 1 (pc' := 95) (A' := [jR 43, jR 5, jI i, jI x, jI y, jI 1, jI 1, jI 1, jI 1, jI ((Int32.ofInt 0 ||| Int32.ofInt 0).toInt)]) (st' := [jI 1, jI ((Int32.ofInt 0 ||| Int32.ofInt 0).toInt)]) (hp' := h) rfl ?_
    refine jE_if_ne rfl (by omega) (fun _ => ?_) (fun c95 => absurd c95 (by omega))
    refine jm_Ev.bl 5 (pc' := 110) (A' := [jR 43, jR 5, jI i, jI x, jI y, jI 1, jI 1, jI 1, jI 1, jI ((Int32.ofInt ((Int32.ofInt 0 ||| Int32.ofInt 0).toInt) ||| Int32.ofInt 0).toInt)]) (st' := [jI 1, jI ((Int32.ofInt ((Int32.ofInt 0 ||| Int32.ofInt 0).toInt) ||| Int32.ofInt 0).toInt)]) (hp' := h) rfl ?_
    refine jE_if_eq rfl (by omega) (fun c110 => absurd c110 (by omega)) (fun _ => ?_)
    refine jm_Ev.bl 1 (pc' := 115) (A' := [jR 43, jR 5, jI i, jI x, jI y, jI 1, jI 1, jI 1, jI 1, jI ((Int32.ofInt ((Int32.ofInt 0 ||| Int32.ofInt 0).toInt) ||| Int32.ofInt 0).toInt)]) (st' := [jI 1, jI ((Int32.ofInt ((Int32.ofInt 0 ||| Int32.ofInt 0).toInt) ||| Int32.ofInt 0).toInt)]) (hp' := h) rfl ?_
    refine jE_if_ne rfl (by omega) (fun _ => ?_) (fun c115 => absurd c115 (by omega))
    refine jm_Ev.bl 5 (pc' := 130) (A' := [jR 43, jR 5, jI i, jI x, jI y, jI 1, jI 1, jI 1, jI 1, jI ((Int32.ofInt ((Int32.ofInt ((Int32.ofInt 0 ||| Int32.ofInt 0).toInt) ||| Int32.ofInt 0).toInt) ||| Int32.ofInt 0).toInt)]) (st' := [jI 1, jI ((Int32.ofInt ((Int32.ofInt ((Int32.ofInt 0 ||| Int32.ofInt 0).toInt) ||| Int32.ofInt 0).toInt) ||| Int32.ofInt 0).toInt)]) (hp' := h) rfl ?_
    refine jE_if_eq rfl (by omega) (fun c130 => absurd c130 (by omega)) (fun _ => ?_)
    refine jm_Ev.bl 1 (pc' := 135) (A' := [jR 43, jR 5, jI i, jI x, jI y, jI 1, jI 1, jI 1, jI 1, jI ((Int32.ofInt ((Int32.ofInt ((Int32.ofInt 0 ||| Int32.ofInt 0).toInt) ||| Int32.ofInt 0).toInt) ||| Int32.ofInt 0).toInt)]) (st' := [jI 1, jI ((Int32.ofInt ((Int32.ofInt ((Int32.ofInt 0 ||| Int32.ofInt 0).toInt) ||| Int32.ofInt 0).toInt) ||| Int32.ofInt 0).toInt)]) (hp' := h) rfl ?_
    refine jE_if_ne rfl (by omega) (fun _ => ?_) (fun c135 => absurd c135 (by omega))
    refine jm_Ev.bl 7 (pc' := 154) (A' := [jR 43, jR 5, jI i, jI x, jI y, jI 1, jI 1, jI 1, jI 1, jI ((Int32.ofInt ((Int32.ofInt ((Int32.ofInt ((Int32.ofInt 0 ||| Int32.ofInt 0).toInt) ||| Int32.ofInt 0).toInt) ||| Int32.ofInt 0).toInt) ||| Int32.ofInt 0).toInt)]) (st' := [jI ((Int32.ofInt ((Int32.ofInt ((Int32.ofInt ((Int32.ofInt 0 ||| Int32.ofInt 0).toInt) ||| Int32.ofInt 0).toInt) ||| Int32.ofInt 0).toInt) ||| Int32.ofInt 0).toInt), jI i, jR 52]) (hp' := h) rfl ?_
    refine jE_iast (n := 36) rfl rfl (by omega) ?_
    refine jm_Ev.bl 4 (pc' := 161) (A' := [jR 43, jR 5, jI i, jI x, jI y, jI 1, jI 1, jI 1, jI 1, jI ((Int32.ofInt ((Int32.ofInt ((Int32.ofInt ((Int32.ofInt 0 ||| Int32.ofInt 0).toInt) ||| Int32.ofInt 0).toInt) ||| Int32.ofInt 0).toInt) ||| Int32.ofInt 0).toInt)]) (st' := [jI 0, jI i, jR 53]) (hp' := (jm_hs h 52 i ((Int32.ofInt ((Int32.ofInt ((Int32.ofInt ((Int32.ofInt 0 ||| Int32.ofInt 0).toInt) ||| Int32.ofInt 0).toInt) ||| Int32.ofInt 0).toInt) ||| Int32.ofInt 0).toInt))) rfl ?_
    refine jE_iast (n := 36) rfl rfl (by omega) ?_
    refine jm_Ev.bl 2 (pc' := 2) (A' := [jR 43, jR 5, jI (i + 1), jI x, jI y, jI 1, jI 1, jI 1, jI 1, jI ((Int32.ofInt ((Int32.ofInt ((Int32.ofInt ((Int32.ofInt 0 ||| Int32.ofInt 0).toInt) ||| Int32.ofInt 0).toInt) ||| Int32.ofInt 0).toInt) ||| Int32.ofInt 0).toInt)]) (st' := []) (hp' := (jm_hs (jm_hs h 52 i ((Int32.ofInt ((Int32.ofInt ((Int32.ofInt ((Int32.ofInt 0 ||| Int32.ofInt 0).toInt) ||| Int32.ofInt 0).toInt) ||| Int32.ofInt 0).toInt) ||| Int32.ofInt 0).toInt)) 53 i 0)) rfl ?_
    rw [show ((Int32.ofInt ((Int32.ofInt ((Int32.ofInt ((Int32.ofInt 0 ||| Int32.ofInt 0).toInt) ||| Int32.ofInt 0).toInt) ||| Int32.ofInt 0).toInt) ||| Int32.ofInt 0).toInt) = jeb true true true true by decide]
    exact k _ _ _ _ _
def jfe_43 (hp : jm_H) : Option jm_V → jm_H → Prop := fun rv h => rv = none ∧ (∀ x y, 0 ≤ x → x ≤ 5 → 0 ≤ y → y ≤ 5 → h 52 (y * 6 + x) = jeb (jD (jgk (hp 5 1) (hp 5 2) (hp 6)) (x - 1) (y - 1)) (jD (jgk (hp 5 1) (hp 5 2) (hp 6)) x (y - 1)) (jD (jgk (hp 5 1) (hp 5 2) (hp 6)) (x - 1) y) (jD (jgk (hp 5 1) (hp 5 2) (hp 6)) x y)) ∧ (∀ j, 0 ≤ j → j < 36 → h 53 j = 0) ∧ jFr hp h [52, 53]
theorem c_o_fe_L_43 (hp : jm_H) (hG : jG hp 5 6) : ∀ (n : Nat) (i : Int) (a1 a2 a3 a4 a5 a6 a7 : jm_V) (h : jm_H), 0 ≤ i → i ≤ 36 → (∀ x y, 0 ≤ x → x ≤ 5 → 0 ≤ y → y * 6 + x < i → h 52 (y * 6 + x) = jeb (jD (jgk (hp 5 1) (hp 5 2) (hp 6)) (x - 1) (y - 1)) (jD (jgk (hp 5 1) (hp 5 2) (hp 6)) x (y - 1)) (jD (jgk (hp 5 1) (hp 5 2) (hp 6)) (x - 1) y) (jD (jgk (hp 5 1) (hp 5 2) (hp 6)) x y)) → (∀ j, 0 ≤ j → j < i → h 53 j = 0) → jFr hp h [52, 53] → 36 - i < n → jm_Ev 49 2 [jR 43, jR 5, jI i, a1, a2, a3, a4, a5, a6, a7] [] h (jfe_43 hp) := by
  intro n
  induction n with
  | zero => intro i a1 a2 a3 a4 a5 a6 a7 h hi0 hi1 hc hz hf hn; omega
  | succ n ih =>
    intro i a1 a2 a3 a4 a5 a6 a7 h hi0 hi1 hc hz hf hn
    have hG1 : jG h 5 6 := by unfold jG; rw [hf 5 (by decide), hf 6 (by decide)]; exact hG
    refine jm_Ev.bl 2 (pc' := 5) (A' := [jR 43, jR 5, jI i, a1, a2, a3, a4, a5, a6, a7]) (st' := [jI 36, jI i]) (hp' := h) rfl ?_
    refine jE_icmp_ge rfl (by omega) (by omega) (fun c5 => ?_) (fun c5 => ?_)
    · have e : i = 36 := by omega
      subst e
      exact jE_ret rfl ⟨rfl, fun x y a b c d => hc x y a b c (by omega), hz, hf⟩
    · refine jm_Ev.bl 2 (pc' := 11) (A' := [jR 43, jR 5, jI i, a1, a2, a3, a4, a5, a6, a7]) (st' := [jI 6, jI i]) (hp' := h) rfl ?_
      refine jE_irem rfl (by omega) (by omega) ?_
      refine jm_Ev.bl 3 (pc' := 16) (A' := [jR 43, jR 5, jI i, jI (i % 6), a2, a3, a4, a5, a6, a7]) (st' := [jI 6, jI i]) (hp' := h) rfl ?_
      refine jE_idiv rfl (by omega) (by omega) ?_
      refine jm_Ev.bl 1 (pc' := 19) (A' := [jR 43, jR 5, jI i, jI (i % 6), jI (i / 6), a3, a4, a5, a6, a7]) (st' := []) (hp' := h) rfl ?_
      have hm := Int.mul_ediv_add_emod i 6
      refine jm_Ev.bl 7 (pc' := 27) (A' := [jR 43, jR 5, jI i, jI (i % 6), jI (i / 6), a3, a4, a5, a6, a7]) (st' := [jI ((i / 6) - 1), jI ((i % 6) - 1), jR 5]) (hp' := h) rfl ?_
      refine jE_callI (vs := [jR 5, jI ((i % 6) - 1), jI ((i / 6) - 1)]) (r := []) (nx := 30) (v := jI (jb (decide (jgk (h 5 1) (h 5 2) (h 6) ((i % 6) - 1) ((i / 6) - 1) ≠ -1)))) (hp1 := h) rfl (c_g_hasDot_5 h hG1 _ _ (by omega) (by omega)) ?_
      refine jm_Ev.bl 6 (pc' := 38) (A' := [jR 43, jR 5, jI i, jI (i % 6), jI (i / 6), jI (jb (decide (jgk (h 5 1) (h 5 2) (h 6) ((i % 6) - 1) ((i / 6) - 1) ≠ -1))), a4, a5, a6, a7]) (st' := [jI ((i / 6) - 1), jI (i % 6), jR 5]) (hp' := h) rfl ?_
      refine jE_callI (vs := [jR 5, jI (i % 6), jI ((i / 6) - 1)]) (r := []) (nx := 41) (v := jI (jb (decide (jgk (h 5 1) (h 5 2) (h 6) (i % 6) ((i / 6) - 1) ≠ -1)))) (hp1 := h) rfl (c_g_hasDot_5 h hG1 _ _ (by omega) (by omega)) ?_
      refine jm_Ev.bl 6 (pc' := 49) (A' := [jR 43, jR 5, jI i, jI (i % 6), jI (i / 6), jI (jb (decide (jgk (h 5 1) (h 5 2) (h 6) ((i % 6) - 1) ((i / 6) - 1) ≠ -1))), jI (jb (decide (jgk (h 5 1) (h 5 2) (h 6) (i % 6) ((i / 6) - 1) ≠ -1))), a5, a6, a7]) (st' := [jI (i / 6), jI ((i % 6) - 1), jR 5]) (hp' := h) rfl ?_
      refine jE_callI (vs := [jR 5, jI ((i % 6) - 1), jI (i / 6)]) (r := []) (nx := 52) (v := jI (jb (decide (jgk (h 5 1) (h 5 2) (h 6) ((i % 6) - 1) (i / 6) ≠ -1)))) (hp1 := h) rfl (c_g_hasDot_5 h hG1 _ _ (by omega) (by omega)) ?_
      refine jm_Ev.bl 4 (pc' := 58) (A' := [jR 43, jR 5, jI i, jI (i % 6), jI (i / 6), jI (jb (decide (jgk (h 5 1) (h 5 2) (h 6) ((i % 6) - 1) ((i / 6) - 1) ≠ -1))), jI (jb (decide (jgk (h 5 1) (h 5 2) (h 6) (i % 6) ((i / 6) - 1) ≠ -1))), jI (jb (decide (jgk (h 5 1) (h 5 2) (h 6) ((i % 6) - 1) (i / 6) ≠ -1))), a6, a7]) (st' := [jI (i / 6), jI (i % 6), jR 5]) (hp' := h) rfl ?_
      refine jE_callI (vs := [jR 5, jI (i % 6), jI (i / 6)]) (r := []) (nx := 61) (v := jI (jb (decide (jgk (h 5 1) (h 5 2) (h 6) (i % 6) (i / 6) ≠ -1)))) (hp1 := h) rfl (c_g_hasDot_5 h hG1 _ _ (by omega) (by omega)) ?_
      refine jm_Ev.bl 1 (pc' := 63) (A' := [jR 43, jR 5, jI i, jI (i % 6), jI (i / 6), jI (jb (decide (jgk (h 5 1) (h 5 2) (h 6) ((i % 6) - 1) ((i / 6) - 1) ≠ -1))), jI (jb (decide (jgk (h 5 1) (h 5 2) (h 6) (i % 6) ((i / 6) - 1) ≠ -1))), jI (jb (decide (jgk (h 5 1) (h 5 2) (h 6) ((i % 6) - 1) (i / 6) ≠ -1))), jI (jb (decide (jgk (h 5 1) (h 5 2) (h 6) (i % 6) (i / 6) ≠ -1))), a7]) (st' := []) (hp' := h) rfl ?_
      refine c_o_fe_T_43 h i _ _ _ _ _ _ _ (by omega) (fun a1 a2 a3 a4 a5 => ih (i + 1) _ _ a1 a2 a3 a4 a5 _ (by omega) (by omega) ?_ ?_ ((hf.set (by decide)).set (by decide)) (by omega))
      · intro x y x0 x5 y0 hxy
        rw [js_hs_ne (by decide), js_hs_eq]
        by_cases e : y * 6 + x = i
        · rw [if_pos e]
          have ex : i % 6 = x := by omega
          have ey : i / 6 = y := by omega
          rw [ex, ey, hf 5 (by decide), hf 6 (by decide)]; rfl
        · rw [if_neg e]; exact hc x y x0 x5 y0 (by omega)
      · exact jhs_lt (F := fun _ => 0) hz rfl
theorem c_o_findEdges_43 (hp : jm_H) (hG : jG hp 5 6) : jm_Ev 49 0 [jR 43, jR 5, jU, jU, jU, jU, jU, jU, jU, jU] [] hp (jfe_43 hp) := by
  refine jm_Ev.bl 2 (pc' := 2) (A' := [jR 43, jR 5, jI 0, jU, jU, jU, jU, jU, jU, jU]) (st' := []) (hp' := hp) rfl ?_
  exact c_o_fe_L_43 hp hG 37 0 _ _ _ _ _ _ _ _ (by omega) (by omega) (fun x y a b c d => by omega) (fun j a b => by omega) jFr.rf (by omega)
/-- the edges at 43 are those of K -/
def jeK_43 (h : jm_H) (K : Int → Int → Int) : Prop := ∀ x y w, 0 ≤ x → x ≤ 5 → 0 ≤ y → y ≤ 5 → 0 ≤ w → w ≤ 3 → jbit (h 52 (y * 6 + x)) w = jed K x y w
theorem jfe_K_43 {hp h : jm_H} {rv : Option jm_V} (q : jfe_43 hp rv h) : jeK_43 h (jgk (hp 5 1) (hp 5 2) (hp 6)) := fun x y w a b c d e f => by
  rw [q.2.1 x y a b c d]
  obtain ⟨g, rfl⟩ := jw4 e f
  rw [jbit_jeb, jed_out]
theorem c_o_nextWay_43 (hp : jm_H) (K : Int → Int → Int) (hK : jeK_43 hp K) (x y w : Int) (hx : 0 ≤ x ∧ x ≤ 5) (hy : 0 ≤ y ∧ y ≤ 5) (hw : 0 ≤ w ∧ w ≤ 3) (hE : jE K (x, y, jnw K x y w)) : jm_Ev 53 0 [jR 43, jI x, jI y, jI w, jU, jU] [] hp (jK (some (jI (jnw K x y w))) hp) := by
  refine jm_Ev.bl 4 (pc' := 4) (A' := [jR 43, jI x, jI y, jI w, jU, jU]) (st' := [jI 4, jI (w + 1)]) (hp' := hp) rfl ?_
  refine jE_irem rfl (by omega) (by omega) ?_
  refine jm_Ev.bl 5 (pc' := 11) (A' := [jR 43, jI x, jI y, jI w, jI ((w + 1) % 4), jU]) (st' := [jI 4, jI (w + 3)]) (hp' := hp) rfl ?_
  refine jE_irem rfl (by omega) (by omega) ?_
  refine jm_Ev.bl 6 (pc' := 22) (A' := [jR 43, jI x, jI y, jI w, jI ((w + 1) % 4), jI ((w + 3) % 4)]) (st' := [jI ((w + 1) % 4), jI y, jI x, jR 52]) (hp' := hp) rfl ?_
  refine jE_callI (vs := [jR 52, jI x, jI y, jI ((w + 1) % 4)]) (r := []) (nx := 25) (v := jI (jb (jbit (hp 52 (y * 6 + x)) ((w + 1) % 4)))) (hp1 := hp) rfl (c_o_begins_52 hp x y ((w + 1) % 4) hx hy (by omega)) ?_
  refine jE_ifb_eq rfl (fun c25 => ?_) (fun c25 => ?_)
  · refine jm_Ev.bl 5 (pc' := 38) (A' := [jR 43, jI x, jI y, jI w, jI ((w + 1) % 4), jI ((w + 3) % 4)]) (st' := [jI w, jI y, jI x, jR 52]) (hp' := hp) rfl ?_
    refine jE_callI (vs := [jR 52, jI x, jI y, jI w]) (r := []) (nx := 41) (v := jI (jb (jbit (hp 52 (y * 6 + x)) w))) (hp1 := hp) rfl (c_o_begins_52 hp x y w hx hy (by omega)) ?_
    refine jE_ifb_eq rfl (fun c41 => ?_) (fun c41 => ?_)
    · refine jm_Ev.bl 5 (pc' := 54) (A' := [jR 43, jI x, jI y, jI w, jI ((w + 1) % 4), jI ((w + 3) % 4)]) (st' := [jI ((w + 3) % 4), jI y, jI x, jR 52]) (hp' := hp) rfl ?_
      refine jE_callI (vs := [jR 52, jI x, jI y, jI ((w + 3) % 4)]) (r := []) (nx := 57) (v := jI (jb (jbit (hp 52 (y * 6 + x)) ((w + 3) % 4)))) (hp1 := hp) rfl (c_o_begins_52 hp x y ((w + 3) % 4) hx hy (by omega)) ?_
      refine jE_ifb_eq rfl (fun c57 => ?_) (fun c57 => ?_)
      · refine jm_Ev.bl 1 (pc' := 66) (A' := [jR 43, jI x, jI y, jI w, jI ((w + 1) % 4), jI ((w + 3) % 4)]) (st' := [jI (-1)]) (hp' := hp) rfl ?_
        have e : jnw K x y w = (w + 3) % 4 := (by unfold jnw; rw [← hK x y ((w + 1) % 4) hx.1 hx.2 hy.1 hy.2 (by omega) (by omega), ← hK x y w hx.1 hx.2 hy.1 hy.2 hw.1 hw.2, if_neg (by rw [c25]; simp), if_neg (by rw [c41]; simp)])
        have := hE.2.2
        dsimp only at this
        rw [e, ← hK x y ((w + 3) % 4) hx.1 hx.2 hy.1 hy.2 (by omega) (by omega), c57] at this
        exact absurd this (by simp)
      · refine jm_Ev.bl 2 (pc' := 66) (A' := [jR 43, jI x, jI y, jI w, jI ((w + 1) % 4), jI ((w + 3) % 4)]) (st' := [jI ((w + 3) % 4)]) (hp' := hp) rfl ?_
        have e : jnw K x y w = (w + 3) % 4 := (by unfold jnw; rw [← hK x y ((w + 1) % 4) hx.1 hx.2 hy.1 hy.2 (by omega) (by omega), ← hK x y w hx.1 hx.2 hy.1 hy.2 hw.1 hw.2, if_neg (by rw [c25]; simp), if_neg (by rw [c41]; simp)])
        exact jE_ret rfl ⟨jrI e.symm, rfl⟩
    · refine jm_Ev.bl 1 (pc' := 45) (A' := [jR 43, jI x, jI y, jI w, jI ((w + 1) % 4), jI ((w + 3) % 4)]) (st' := [jI w]) (hp' := hp) rfl ?_
      exact jE_ret rfl ⟨jrI (by unfold jnw; rw [← hK x y ((w + 1) % 4) hx.1 hx.2 hy.1 hy.2 (by omega) (by omega), ← hK x y w hx.1 hx.2 hy.1 hy.2 hw.1 hw.2, if_neg (by rw [c25]; simp), if_pos c41]), rfl⟩
  · refine jm_Ev.bl 1 (pc' := 30) (A' := [jR 43, jI x, jI y, jI w, jI ((w + 1) % 4), jI ((w + 3) % 4)]) (st' := [jI ((w + 1) % 4)]) (hp' := hp) rfl ?_
    exact jE_ret rfl ⟨jrI (by unfold jnw; rw [← hK x y ((w + 1) % 4) hx.1 hx.2 hy.1 hy.2 (by omega) (by omega), if_pos c25]), rfl⟩
theorem c_o_addPoint_43 (hp : jm_H) (x y w : Int) (hx : 0 ≤ x ∧ x ≤ 5) (hy : 0 ≤ y ∧ y ≤ 5) (hw : 0 ≤ w ∧ w ≤ 3) (ht : 0 ≤ hp 43 1 ∧ hp 43 1 < 60) : jm_Ev 52 0 [jR 43, jI x, jI y, jI w, jU] [] hp (jK none (jm_hs (jm_hs (jm_hs (jm_hs (jm_hs hp 47 (hp 43 1) x) 48 (hp 43 1) y) 49 (hp 43 1) w) 43 1 (hp 43 1 + 1)) 53 (y * 6 + x) (jor (hp 53 (y * 6 + x)) w))) := by
  refine jm_Ev.bl 8 (pc' := 12) (A' := [jR 43, jI x, jI y, jI w, jI ((y * 6) + x)]) (st' := [jI (hp 43 1)]) (hp' := hp) rfl ?_
  refine jE_if_lt rfl (by omega) (fun c12 => ?_) (fun c12 => ?_)
  · omega
  · refine jm_Ev.bl 3 (pc' := 21) (A' := [jR 43, jI x, jI y, jI w, jI ((y * 6) + x)]) (st' := [jI 60, jI (hp 43 1)]) (hp' := hp) rfl ?_
    refine jE_icmp_ge rfl (by omega) (by omega) (fun c21 => ?_) (fun c21 => ?_)
    · omega
    · refine jm_Ev.bl 1 (pc' := 26) (A' := [jR 43, jI x, jI y, jI w, jI ((y * 6) + x)]) (st' := [jI ((y * 6) + x)]) (hp' := hp) rfl ?_
      refine jE_if_lt rfl (by omega) (fun c26 => ?_) (fun c26 => ?_)
      · omega
      · refine jm_Ev.bl 2 (pc' := 33) (A' := [jR 43, jI x, jI y, jI w, jI ((y * 6) + x)]) (st' := [jI 36, jI ((y * 6) + x)]) (hp' := hp) rfl ?_
        refine jE_icmp_lt rfl (by omega) (by omega) (fun c33 => ?_) (fun c33 => ?_)
        · refine jm_Ev.bl 5 (pc' := 46) (A' := [jR 43, jI x, jI y, jI w, jI ((y * 6) + x)]) (st' := [jI x, jI (hp 43 1), jR 47]) (hp' := hp) rfl ?_
          refine jE_iast (n := 60) rfl rfl (by omega) ?_
          refine jm_Ev.bl 5 (pc' := 56) (A' := [jR 43, jI x, jI y, jI w, jI ((y * 6) + x)]) (st' := [jI y, jI (hp 43 1), jR 48]) (hp' := (jm_hs hp 47 (hp 43 1) x)) rfl ?_
          refine jE_iast (n := 60) rfl rfl (by omega) ?_
          refine jm_Ev.bl 5 (pc' := 66) (A' := [jR 43, jI x, jI y, jI w, jI ((y * 6) + x)]) (st' := [jI w, jI (hp 43 1), jR 49]) (hp' := (jm_hs (jm_hs hp 47 (hp 43 1) x) 48 (hp 43 1) y)) rfl ?_
          refine jE_iast (n := 60) rfl rfl (by omega) ?_
          refine jm_Ev.bl 10 (pc' := 84) (A' := [jR 43, jI x, jI y, jI w, jI ((y * 6) + x)]) (st' := [jI ((y * 6) + x), jR 53, jI ((y * 6) + x), jR 53]) (hp' := (jm_hs (jm_hs (jm_hs (jm_hs hp 47 (hp 43 1) x) 48 (hp 43 1) y) 49 (hp 43 1) w) 43 1 ((hp 43 1) + 1))) rfl ?_
          refine jE_iald (n := 36) (f := hp 53) rfl rfl (by omega) ?_
          refine jm_Ev.bl 4 (pc' := 89) (A' := [jR 43, jI x, jI y, jI w, jI ((y * 6) + x)]) (st' := [jI ((Int32.ofInt (hp 53 ((y * 6) + x)) ||| Int32.ofInt ((Int32.ofInt 1 <<< (Int32.ofInt w &&& 31)).toInt)).toInt), jI ((y * 6) + x), jR 53]) (hp' := (jm_hs (jm_hs (jm_hs (jm_hs hp 47 (hp 43 1) x) 48 (hp 43 1) y) 49 (hp 43 1) w) 43 1 ((hp 43 1) + 1))) rfl ?_
          refine jE_iast (n := 36) rfl rfl (by omega) ?_
          exact jE_ret rfl ⟨rfl, rfl⟩
        · omega
