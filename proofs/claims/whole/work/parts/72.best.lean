/-! the class's BestPolygons: sums -/
theorem jhs_hs (hp : jm_H) (k : Nat) (j a b : Int) : jm_hs (jm_hs hp k j a) k j b = jm_hs hp k j b := by
  funext q i
  unfold jm_hs
  have e : Nat.beq k k = true := Nat.beq_refl k
  cases h : Nat.beq q k
  · rfl
  · have hq := Nat.eq_of_beq_eq_true h
    subst hq
    by_cases c : i = j
    · simp [c, e]
    · simp [c, e]
theorem jcmp_m {x : Int} {op : ClassFile.CmpOp} (hx : x = -1 ∨ jfn 250 x) : (Op.cmpValue (FP.fcmp (UInt32.ofNat (jfe x)) (UInt32.ofNat 3212836864)) op).toInt = jm_lc x (-1) := by
  have u := jcmp (op := op) hx (Or.inl (rfl : (-1 : Int) = -1))
  rw [jfe_n] at u
  exact u
theorem jml0 {g : Int → Int} {b : Int} : jfe (jml g b 0).1 = 3212836864 ∧ (jml g b 0).2 = -1 := ⟨jfe_n, rfl⟩
theorem jrF {a b : Nat} (h : a = b) : (some (jF a)) = (some (jF b)) := by rw [h]
theorem c_b_setSum (hp : jm_H) (n v a : Int) (z : Nat) (h : 0 ≤ n * 60 + v ∧ n * 60 + v < 3600) : jm_Ev 18 0 [jR 33, jI n, jI v, jF z, jI a, jU] [] hp (jK none (jm_hs (jm_hs hp 41 (n * 60 + v) (z : Int)) 42 (n * 60 + v) a)) := by
  refine jm_Ev.bl 7 (pc' := 10) (A' := [jR 33, jI n, jI v, jF z, jI a, jI ((n * 60) + v)]) (st' := [jI ((n * 60) + v)]) (hp' := hp) rfl ?_
  refine jE_if_lt rfl (by omega) (fun c10 => ?_) (fun c10 => ?_)
  · omega
  · refine jm_Ev.bl 4 (pc' := 20) (A' := [jR 33, jI n, jI v, jF z, jI a, jI ((n * 60) + v)]) (st' := [jI 3600, jI ((n * 60) + v)]) (hp' := hp) rfl ?_
    refine jE_icmp_ge rfl (by omega) (by omega) (fun c20 => ?_) (fun c20 => ?_)
    · omega
    · refine jm_Ev.bl 4 (pc' := 30) (A' := [jR 33, jI n, jI v, jF z, jI a, jI ((n * 60) + v)]) (st' := [jF z, jI ((n * 60) + v), jR 41]) (hp' := hp) rfl ?_
      refine jE_fast (n := 3600) rfl rfl (by omega) ?_
      refine jm_Ev.bl 4 (pc' := 39) (A' := [jR 33, jI n, jI v, jF z, jI a, jI ((n * 60) + v)]) (st' := [jI a, jI ((n * 60) + v), jR 42]) (hp' := (jm_hs hp 41 ((n * 60) + v) (z : Int))) rfl ?_
      refine jE_iast (n := 3600) rfl rfl (by omega) ?_
      exact jE_ret rfl ⟨rfl, rfl⟩
theorem c_b_sumAt (hp : jm_H) (n v : Int) (h : 0 ≤ n * 60 + v ∧ n * 60 + v < 3600) : jm_Ev 19 0 [jR 33, jI n, jI v, jU] [] hp (jK (some (jF (hp 41 (n * 60 + v)).toNat)) hp) := by
  refine jm_Ev.bl 7 (pc' := 8) (A' := [jR 33, jI n, jI v, jI ((n * 60) + v)]) (st' := [jI ((n * 60) + v)]) (hp' := hp) rfl ?_
  refine jE_if_lt rfl (by omega) (fun c8 => ?_) (fun c8 => ?_)
  · omega
  · refine jm_Ev.bl 4 (pc' := 17) (A' := [jR 33, jI n, jI v, jI ((n * 60) + v)]) (st' := [jI 3600, jI ((n * 60) + v)]) (hp' := hp) rfl ?_
    refine jE_icmp_ge rfl (by omega) (by omega) (fun c17 => ?_) (fun c17 => ?_)
    · omega
    · refine jm_Ev.bl 3 (pc' := 25) (A' := [jR 33, jI n, jI v, jI ((n * 60) + v)]) (st' := [jI ((n * 60) + v), jR 41]) (hp' := hp) rfl ?_
      refine jE_fald (n := 3600) (f := hp 41) rfl rfl (by omega) ?_
      refine jm_Ev.bl 1 (pc' := 32) (A' := [jR 33, jI n, jI v, jI ((n * 60) + v)]) (st' := [jF ((hp 41 ((n * 60) + v)).toNat)]) (hp' := hp) rfl ?_
      exact jE_ret rfl ⟨rfl, rfl⟩
theorem c_b_penaltyAt (hp : jm_H) (n v : Int) (h : 0 ≤ n * 60 + v ∧ n * 60 + v < 3600) : jm_Ev 20 0 [jR 33, jI n, jI v, jU] [] hp (jK (some (jF (hp 40 (n * 60 + v)).toNat)) hp) := by
  refine jm_Ev.bl 7 (pc' := 8) (A' := [jR 33, jI n, jI v, jI ((n * 60) + v)]) (st' := [jI ((n * 60) + v)]) (hp' := hp) rfl ?_
  refine jE_if_lt rfl (by omega) (fun c8 => ?_) (fun c8 => ?_)
  · omega
  · refine jm_Ev.bl 4 (pc' := 17) (A' := [jR 33, jI n, jI v, jI ((n * 60) + v)]) (st' := [jI 3600, jI ((n * 60) + v)]) (hp' := hp) rfl ?_
    refine jE_icmp_ge rfl (by omega) (by omega) (fun c17 => ?_) (fun c17 => ?_)
    · omega
    · refine jm_Ev.bl 3 (pc' := 25) (A' := [jR 33, jI n, jI v, jI ((n * 60) + v)]) (st' := [jI ((n * 60) + v), jR 40]) (hp' := hp) rfl ?_
      refine jE_fald (n := 3600) (f := hp 40) rfl rfl (by omega) ?_
      refine jm_Ev.bl 1 (pc' := 30) (A' := [jR 33, jI n, jI v, jI ((n * 60) + v)]) (st' := [jF ((hp 40 ((n * 60) + v)).toNat)]) (hp' := hp) rfl ?_
      exact jE_ret rfl ⟨rfl, rfl⟩
theorem c_b_noSum (hp : jm_H) : jm_Ev 218 0 [] [] hp (jK (some (jF 3212836864)) hp) := by
  refine jm_Ev.bl 1 (pc' := 2) (A' := []) (st' := [jF 3212836864]) (hp' := hp) rfl ?_
  exact jE_ret rfl ⟨rfl, rfl⟩
theorem jcmp_z {x : Int} {op : ClassFile.CmpOp} (hx : x = -1 ∨ jfn 250 x) : (Op.cmpValue (FP.fcmp (UInt32.ofNat (jfe x)) (UInt32.ofNat 0)) op).toInt = jm_lc x 0 := by
  have u := jcmp (op := op) (y := 0) hx (Or.inr (Or.inl rfl))
  have e : jfe 0 = 0 := by unfold jfe; rw [if_neg (by omega)]; rfl
  rw [e] at u
  exact u
theorem c_b_isSum (hp : jm_H) (y : Int) (hy : y = -1 ∨ jfn 250 y) : jm_Ev 219 0 [jF (jfe y)] [] hp (jK (some (jI (jb (decide (y ≠ -1))))) hp) := by
  refine jm_Ev.bl 2 (pc' := 2) (A' := [jF (jfe y)]) (st' := [jF 0, jF (jfe y)]) (hp' := hp) rfl ?_
  refine jE_fcmp (u := y) (v := 0) rfl (jcmp_z hy) ?_
  refine jE_lc_lt rfl (fun c3 => ?_) (fun c3 => ?_)
  · refine jm_Ev.bl 1 (pc' := 11) (A' := [jF (jfe y)]) (st' := [jI 0]) (hp' := hp) rfl ?_
    exact jE_ret rfl ⟨jrI (by rw [decide_eq_false (show ¬ y ≠ -1 from fun z => by rcases hy with w | w; exact z w; unfold jfn at w; omega)]; rfl), rfl⟩
  · refine jm_Ev.bl 2 (pc' := 11) (A' := [jF (jfe y)]) (st' := [jI 1]) (hp' := hp) rfl ?_
    exact jE_ret rfl ⟨jrI (by rw [decide_eq_true (show y ≠ -1 by omega)]; rfl), rfl⟩
theorem c_b_least_L (hp : jm_H) (N : Int) (P : Int → Int → Int) (hJ : jJr (hp 32) N P) (hN : N ≤ 60) (D : Int → Int) (v t b e : Int) (hv : 0 ≤ v ∧ v < N) (hn : 1 ≤ t ∧ t ≤ 60) (hb : 0 ≤ b) (he : e ≤ N) (hP : ∀ u v, 0 ≤ u → u < N → 0 ≤ v → v < N → (P u v = -1 ∨ (0 ≤ P u v ∧ jfn 145 (P u v) ∧ hp 40 (u * 60 + v) = P u v))) (hS : ∀ u, b ≤ u → u < e → hp 41 ((t - 1) * 60 + u) = (jfe (D u) : Int) ∧ (D u = -1 ∨ (0 ≤ D u ∧ jfn 205 (D u)))) : ∀ (m : Nat) (u : Int) (z1 z2 : jm_V), b ≤ u → u ≤ e → e - u < m → jm_Ev 17 13 [jR 33, jI v, jI t, jI b, jI e, jF (jfe (jml (fun u => jad (D u) (P u v)) b (u - b).toNat).1), jI u, z1, z2] [] (jm_hs hp 33 12 (jml (fun u => jad (D u) (P u v)) b (u - b).toNat).2) (jK (some (jF (jfe (jml (fun u => jad (D u) (P u v)) b (e - b).toNat).1))) (jm_hs hp 33 12 (jml (fun u => jad (D u) (P u v)) b (e - b).toNat).2)) := by
  intro n
  induction n with
  | zero => intro u z1 z2 h0 h1 hm; omega
  | succ n ih =>
    intro u z1 z2 h0 h1 hm
    refine jm_Ev.bl 2 (pc' := 17) (A' := [jR 33, jI v, jI t, jI b, jI e, jF (jfe (jml (fun u => jad (D u) (P u v)) b (u - b).toNat).1), jI u, z1, z2]) (st' := [jI e, jI u]) (hp' := (jm_hs hp 33 12 (jml (fun u => jad (D u) (P u v)) b (u - b).toNat).2)) rfl ?_
    refine jE_icmp_ge rfl (by omega) (by omega) (fun c17 => ?_) (fun c17 => ?_)
    · refine jm_Ev.bl 1 (pc' := 101) (A' := [jR 33, jI v, jI t, jI b, jI e, jF (jfe (jml (fun u => jad (D u) (P u v)) b (u - b).toNat).1), jI u, z1, z2]) (st' := [jF (jfe (jml (fun u => jad (D u) (P u v)) b (u - b).toNat).1)]) (hp' := (jm_hs hp 33 12 (jml (fun u => jad (D u) (P u v)) b (u - b).toNat).2)) rfl ?_
      exact jE_ret rfl ⟨jrF (by rw [show u = e by omega]), by rw [show u = e by omega]⟩
    · have eS : ((jm_hs hp 33 12 (jml (fun u => jad (D u) (P u v)) b (u - b).toNat).2) 41 ((t - 1) * 60 + u)).toNat = jfe (D u) := by
        show (hp 41 ((t - 1) * 60 + u)).toNat = _
        rw [(hS u (by omega) (by omega)).1, Int.toNat_natCast]
      have hD := (hS u (by omega) (by omega)).2
      have hPu := hP u v (by omega) (by omega) hv.1 hv.2
      have hg := jad_n (E := 205) hD (by rcases hPu with z | z; exact Or.inl z; exact Or.inr ⟨z.1, jfn_mono z.2.1 (by omega)⟩) (by omega) (by omega)
      have hgi := hg.2
      have hr := jml_n (g := (fun u => jad (D u) (P u v))) (b := b) (E := 206) (k := (u - b).toNat) (fun w a c => (jad_n (E := 205) (hS w (by omega) (by omega)).2 (by rcases hP w v (by omega) (by omega) hv.1 hv.2 with z | z; exact Or.inl z; exact Or.inr ⟨z.1, jfn_mono z.2.1 (by omega)⟩) (by omega) (by omega)).1)
      have hr2 : (jml (fun u => jad (D u) (P u v)) b (u - b).toNat).1 = -1 ∨ jfn 250 (jml (fun u => jad (D u) (P u v)) b (u - b).toNat).1 := by
        rcases hr with z | z
        · exact Or.inl z
        · exact Or.inr (jfn_mono z.2 (by omega))
      have hms := jml_s (g := (fun u => jad (D u) (P u v))) (b := b) (u := u) (by omega)
      refine jm_Ev.bl 5 (pc' := 26) (A' := [jR 33, jI v, jI t, jI b, jI e, jF (jfe (jml (fun u => jad (D u) (P u v)) b (u - b).toNat).1), jI u, z1, z2]) (st' := [jI u, jI (t - 1), jR 33]) (hp' := (jm_hs hp 33 12 (jml (fun u => jad (D u) (P u v)) b (u - b).toNat).2)) rfl ?_
      refine jE_callI (vs := [jR 33, jI (t - 1), jI u]) (r := []) (nx := 29) (v := jF (jfe (D u))) (hp1 := (jm_hs hp 33 12 (jml (fun u => jad (D u) (P u v)) b (u - b).toNat).2)) rfl (eS ▸ c_b_sumAt (jm_hs hp 33 12 (jml (fun u => jad (D u) (P u v)) b (u - b).toNat).2) (t - 1) u (by omega)) ?_
      refine jm_Ev.bl 2 (pc' := 33) (A' := [jR 33, jI v, jI t, jI b, jI e, jF (jfe (jml (fun u => jad (D u) (P u v)) b (u - b).toNat).1), jI u, jF (jfe (D u)), z2]) (st' := [jF (jfe (D u))]) (hp' := (jm_hs hp 33 12 (jml (fun u => jad (D u) (P u v)) b (u - b).toNat).2)) rfl ?_
      refine jE_callI (vs := [jF (jfe (D u))]) (r := []) (nx := 36) (v := jI (jb (decide (D u ≠ -1)))) (hp1 := (jm_hs hp 33 12 (jml (fun u => jad (D u) (P u v)) b (u - b).toNat).2)) rfl (c_b_isSum (jm_hs hp 33 12 (jml (fun u => jad (D u) (P u v)) b (u - b).toNat).2) (D u) (by rcases hD with z | z; exact Or.inl z; exact Or.inr (jfn_mono z.2 (by omega)))) ?_
      refine jE_ifd_eq rfl (fun c36 => ?_) (fun c36 => ?_)
      · refine jm_Ev.bl 2 (pc' := 13) (A' := [jR 33, jI v, jI t, jI b, jI e, jF (jfe (jml (fun u => jad (D u) (P u v)) b (u - b).toNat).1), jI (u + 1), jF (jfe (D u)), z2]) (st' := []) (hp' := (jm_hs hp 33 12 (jml (fun u => jad (D u) (P u v)) b (u - b).toNat).2)) rfl ?_
        have e : (jml (fun u => jad (D u) (P u v)) b (u + 1 - b).toNat) = (jml (fun u => jad (D u) (P u v)) b (u - b).toNat) := by rw [hms, if_neg (fun z => z.1 (hgi.mpr (Or.inl (Decidable.not_not.mp c36))))]
        have q := ih (u + 1) (jF (jfe (D u))) (z2) (by omega) (by omega) (by omega)
        rw [e] at q
        exact q
      · refine jm_Ev.bl 4 (pc' := 46) (A' := [jR 33, jI v, jI t, jI b, jI e, jF (jfe (jml (fun u => jad (D u) (P u v)) b (u - b).toNat).1), jI u, jF (jfe (D u)), z2]) (st' := [jI v, jI u, jR 31]) (hp' := (jm_hs hp 33 12 (jml (fun u => jad (D u) (P u v)) b (u - b).toNat).2)) rfl ?_
        refine jE_callI (vs := [jR 31, jI u, jI v]) (r := []) (nx := 49) (v := jI (jb (decide (P u v ≠ -1)))) (hp1 := (jm_hs hp 33 12 (jml (fun u => jad (D u) (P u v)) b (u - b).toNat).2)) rfl (c_j_are_31 (jm_hs hp 33 12 (jml (fun u => jad (D u) (P u v)) b (u - b).toNat).2) N P hJ hN u v (by omega) hv) ?_
        refine jE_ifd_ne rfl (fun c49 => ?_) (fun c49 => ?_)
        · have hD2 : 0 ≤ D u ∧ jfn 205 (D u) := by
            rcases hD with z | z
            · exact absurd z c36
            · exact z
          have hP2 : 0 ≤ P u v ∧ jfn 145 (P u v) ∧ hp 40 (u * 60 + v) = P u v := by
            rcases hPu with z | z
            · exact absurd z c49
            · exact z
          have eQ : ((jm_hs hp 33 12 (jml (fun u => jad (D u) (P u v)) b (u - b).toNat).2) 40 (u * 60 + v)).toNat = (P u v).toNat := by
            show (hp 40 (u * 60 + v)).toNat = _
            rw [hP2.2.2]
          have hgn : (jad (D u) (P u v)) ≠ -1 := fun z => by rcases hgi.mp z with z | z; exact c36 z; exact c49 z
          have hG2 : 0 ≤ (jad (D u) (P u v)) ∧ jfn 206 (jad (D u) (P u v)) := by
            rcases hg.1 with z | z
            · exact absurd z hgn
            · exact z
          have eG : (jfa (D u) (P u v)).toNat = jfe (jad (D u) (P u v)) := by
            rw [jfe_p hG2.1]; unfold jad; rw [if_neg (fun z => by rcases z with z | z; exact c36 z; exact c49 z)]
          rw [jfe_p hD2.1]
          refine jm_Ev.bl 4 (pc' := 61) (A' := [jR 33, jI v, jI t, jI b, jI e, jF (jfe (jml (fun u => jad (D u) (P u v)) b (u - b).toNat).1), jI u, jF ((D u).toNat), z2]) (st' := [jI v, jI u, jR 33, jF ((D u).toNat)]) (hp' := (jm_hs hp 33 12 (jml (fun u => jad (D u) (P u v)) b (u - b).toNat).2)) rfl ?_
          refine jE_callI (vs := [jR 33, jI u, jI v]) (r := [jF ((D u).toNat)]) (nx := 64) (v := jF ((P u v).toNat)) (hp1 := (jm_hs hp 33 12 (jml (fun u => jad (D u) (P u v)) b (u - b).toNat).2)) rfl (eQ ▸ c_b_penaltyAt (jm_hs hp 33 12 (jml (fun u => jad (D u) (P u v)) b (u - b).toNat).2) u v (by omega)) ?_
          refine jE_f2 (i := .fadd) (z := (jfa (D u) (P u v)).toNat) rfl rfl (jf2_jfa (jfn_mono hD2.2 (by omega)) (jfn_mono hP2.2.1 (by omega))) ?_
          refine jm_Ev.bl 1 (pc' := 67) (A' := [jR 33, jI v, jI t, jI b, jI e, jF (jfe (jml (fun u => jad (D u) (P u v)) b (u - b).toNat).1), jI u, jF ((D u).toNat), jF ((jfa (D u) (P u v)).toNat)]) (st' := []) (hp' := (jm_hs hp 33 12 (jml (fun u => jad (D u) (P u v)) b (u - b).toNat).2)) rfl ?_
          rw [eG]
          refine jm_Ev.bl 1 (pc' := 69) (A' := [jR 33, jI v, jI t, jI b, jI e, jF (jfe (jml (fun u => jad (D u) (P u v)) b (u - b).toNat).1), jI u, jF ((D u).toNat), jF (jfe (jad (D u) (P u v)))]) (st' := [jF (jfe (jml (fun u => jad (D u) (P u v)) b (u - b).toNat).1)]) (hp' := (jm_hs hp 33 12 (jml (fun u => jad (D u) (P u v)) b (u - b).toNat).2)) rfl ?_
          refine jE_callI (vs := [jF (jfe (jml (fun u => jad (D u) (P u v)) b (u - b).toNat).1)]) (r := []) (nx := 72) (v := jI (jb (decide ((jml (fun u => jad (D u) (P u v)) b (u - b).toNat).1 ≠ -1)))) (hp1 := (jm_hs hp 33 12 (jml (fun u => jad (D u) (P u v)) b (u - b).toNat).2)) rfl (c_b_isSum (jm_hs hp 33 12 (jml (fun u => jad (D u) (P u v)) b (u - b).toNat).2) (jml (fun u => jad (D u) (P u v)) b (u - b).toNat).1 hr2) ?_
          refine jE_ifd_eq rfl (fun c72 => ?_) (fun c72 => ?_)
          · refine jm_Ev.bl 7 (pc' := 13) (A' := [jR 33, jI v, jI t, jI b, jI e, jF (jfe (jad (D u) (P u v))), jI (u + 1), jF ((D u).toNat), jF (jfe (jad (D u) (P u v)))]) (st' := []) (hp' := (jm_hs (jm_hs hp 33 12 (jml (fun u => jad (D u) (P u v)) b (u - b).toNat).2) 33 12 u)) rfl ?_
            have e : (jml (fun u => jad (D u) (P u v)) b (u + 1 - b).toNat) = ((jad (D u) (P u v)), u) := by rw [hms, if_pos ⟨hgn, Or.inl (Decidable.not_not.mp c72)⟩]
            have q := ih (u + 1) (jF ((D u).toNat)) (jF (jfe (jad (D u) (P u v)))) (by omega) (by omega) (by omega)
            rw [e] at q
            rw [jhs_hs]
            exact q
          · refine jm_Ev.bl 2 (pc' := 79) (A' := [jR 33, jI v, jI t, jI b, jI e, jF (jfe (jml (fun u => jad (D u) (P u v)) b (u - b).toNat).1), jI u, jF ((D u).toNat), jF (jfe (jad (D u) (P u v)))]) (st' := [jF (jfe (jml (fun u => jad (D u) (P u v)) b (u - b).toNat).1), jF (jfe (jad (D u) (P u v)))]) (hp' := (jm_hs hp 33 12 (jml (fun u => jad (D u) (P u v)) b (u - b).toNat).2)) rfl ?_
            refine jE_fcmp (u := (jad (D u) (P u v))) (v := (jml (fun u => jad (D u) (P u v)) b (u - b).toNat).1) rfl (jcmp (x := (jad (D u) (P u v))) (y := (jml (fun u => jad (D u) (P u v)) b (u - b).toNat).1) (Or.inr (jfn_mono hG2.2 (by omega))) hr2) ?_
            refine jE_lc_ge rfl (fun c80 => ?_) (fun c80 => ?_)
            · refine jm_Ev.bl 2 (pc' := 13) (A' := [jR 33, jI v, jI t, jI b, jI e, jF (jfe (jml (fun u => jad (D u) (P u v)) b (u - b).toNat).1), jI (u + 1), jF ((D u).toNat), jF (jfe (jad (D u) (P u v)))]) (st' := []) (hp' := (jm_hs hp 33 12 (jml (fun u => jad (D u) (P u v)) b (u - b).toNat).2)) rfl ?_
              have e : (jml (fun u => jad (D u) (P u v)) b (u + 1 - b).toNat) = (jml (fun u => jad (D u) (P u v)) b (u - b).toNat) := by rw [hms, if_neg (fun z => by rcases z.2 with z | z; exact c72 z; exact absurd z (by omega))]
              have q := ih (u + 1) (jF ((D u).toNat)) (jF (jfe (jad (D u) (P u v)))) (by omega) (by omega) (by omega)
              rw [e] at q
              exact q
            · refine jm_Ev.bl 7 (pc' := 13) (A' := [jR 33, jI v, jI t, jI b, jI e, jF (jfe (jad (D u) (P u v))), jI (u + 1), jF ((D u).toNat), jF (jfe (jad (D u) (P u v)))]) (st' := []) (hp' := (jm_hs (jm_hs hp 33 12 (jml (fun u => jad (D u) (P u v)) b (u - b).toNat).2) 33 12 u)) rfl ?_
              have e : (jml (fun u => jad (D u) (P u v)) b (u + 1 - b).toNat) = ((jad (D u) (P u v)), u) := by rw [hms, if_pos ⟨hgn, Or.inr c80⟩]
              have q := ih (u + 1) (jF ((D u).toNat)) (jF (jfe (jad (D u) (P u v)))) (by omega) (by omega) (by omega)
              rw [e] at q
              rw [jhs_hs]
              exact q
        · refine jm_Ev.bl 3 (pc' := 13) (A' := [jR 33, jI v, jI t, jI b, jI e, jF (jfe (jml (fun u => jad (D u) (P u v)) b (u - b).toNat).1), jI (u + 1), jF (jfe (D u)), z2]) (st' := []) (hp' := (jm_hs hp 33 12 (jml (fun u => jad (D u) (P u v)) b (u - b).toNat).2)) rfl ?_
          have e : (jml (fun u => jad (D u) (P u v)) b (u + 1 - b).toNat) = (jml (fun u => jad (D u) (P u v)) b (u - b).toNat) := by rw [hms, if_neg (fun z => z.1 (hgi.mpr (Or.inr (Decidable.not_not.mp c49))))]
          have q := ih (u + 1) (jF (jfe (D u))) (z2) (by omega) (by omega) (by omega)
          rw [e] at q
          exact q
theorem c_b_leastInto (hp : jm_H) (N : Int) (P : Int → Int → Int) (hJ : jJr (hp 32) N P) (hN : N ≤ 60) (D : Int → Int) (v t b e : Int) (hv : 0 ≤ v ∧ v < N) (hn : 1 ≤ t ∧ t ≤ 60) (hb : 0 ≤ b) (he : e ≤ N) (hP : ∀ u v, 0 ≤ u → u < N → 0 ≤ v → v < N → (P u v = -1 ∨ (0 ≤ P u v ∧ jfn 145 (P u v) ∧ hp 40 (u * 60 + v) = P u v))) (hS : ∀ u, b ≤ u → u < e → hp 41 ((t - 1) * 60 + u) = (jfe (D u) : Int) ∧ (D u = -1 ∨ (0 ≤ D u ∧ jfn 205 (D u)))) (hbe : b ≤ e) : jm_Ev 17 0 [jR 33, jI v, jI t, jI b, jI e, jU, jU, jU, jU] [] hp (jK (some (jF (jfe (jml (fun u => jad (D u) (P u v)) b (e - b).toNat).1))) (jm_hs hp 33 12 (jml (fun u => jad (D u) (P u v)) b (e - b).toNat).2)) := by
  refine jE_callI (vs := []) (r := []) (nx := 3) (v := jF 3212836864) (hp1 := hp) rfl (c_b_noSum hp) ?_
  refine jm_Ev.bl 6 (pc' := 13) (A' := [jR 33, jI v, jI t, jI b, jI e, jF 3212836864, jI b, jU, jU]) (st' := []) (hp' := (jm_hs hp 33 12 (-1))) rfl ?_
  have q := c_b_least_L hp N P hJ hN D v t b e hv hn hb he hP hS 61 b jU jU (by omega) (by omega) (by omega)
  rw [show (b - b).toNat = 0 by omega, jml0.1, jml0.2] at q
  exact q
