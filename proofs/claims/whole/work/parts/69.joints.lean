/-! the class's Joints: filled -/
def jjf (N : Int) (X Y L M : Int → Int) (a : Int) : Nat → Int
  | 0 => 0
  | n + 1 => if jcan N X Y L M a (jwr N (a + ((n : Int) + 1))) = true then (Int64.ofInt (jjf N X Y L M a n) ||| Int64.ofInt ((Int64.ofInt 1 <<< ((Int32.ofInt (jwr N (a + ((n : Int) + 1)))).toInt64 &&& 63)).toInt)).toInt else jjf N X Y L M a n
theorem jjf_s {N : Int} {X Y L M : Int → Int} {a s : Int} (h : 1 ≤ s) : jjf N X Y L M a s.toNat = if jcan N X Y L M a (jwr N (a + s)) = true then (Int64.ofInt (jjf N X Y L M a (s - 1).toNat) ||| Int64.ofInt ((Int64.ofInt 1 <<< ((Int32.ofInt (jwr N (a + s))).toInt64 &&& 63)).toInt)).toInt else jjf N X Y L M a (s - 1).toNat := by
  have e : s.toNat = (s - 1).toNat + 1 := by omega
  have e2 : (((s - 1).toNat : Nat) : Int) + 1 = s := by omega
  rw [e]
  conv => lhs; unfold jjf
  rw [e2]
theorem jjf_r {N : Int} {X Y L M : Int → Int} {a : Int} (n : Nat) : jR64 (jjf N X Y L M a n) := by
  induction n with
  | zero => unfold jjf; exact ⟨by omega, by omega⟩
  | succ n ih =>
    unfold jjf
    split
    · exact jI64_r _
    · exact ih
theorem jstp2_w {N a t : Int} (a0 : 0 ≤ a) (a1 : a < N) (t0 : 1 ≤ t) (t1 : t < N) : jstp2 N a (jwr N (a + t)) = t ∧ jwr N (a + t) ≠ a := by
  unfold jstp2 jwr
  split <;> split <;> omega
theorem jwr_stp {N a b : Int} (a0 : 0 ≤ a) (a1 : a < N) (b0 : 0 ≤ b) (b1 : b < N) (h : a ≠ b) : jwr N (a + jstp2 N a b) = b ∧ 1 ≤ jstp2 N a b ∧ jstp2 N a b < N := by
  unfold jstp2 jwr
  split <;> split <;> omega
theorem jjf_b {N : Int} {X Y L M : Int → Int} {a : Int} (hN : N ≤ 60) (a0 : 0 ≤ a) (a1 : a < N) (n : Nat) (hn : (n : Int) < N) (j : Nat) (hj : j < 64) : jlb (jjf N X Y L M a n) j = (decide ((j : Int) < N ∧ (j : Int) ≠ a ∧ jstp2 N a j ≤ (n : Int)) && jcan N X Y L M a j) := by
  induction n with
  | zero =>
    unfold jjf
    rw [jlb_z, decide_eq_false, Bool.false_and]
    intro ⟨z1, z2, z3⟩
    have := (jwr_stp a0 a1 (show (0 : Int) ≤ j by omega) z1 (by omega)).2.1
    omega
  | succ n ih =>
    have ih := ih (by omega)
    have r := jwr_r (N := N) a0 a1 (show (0 : Int) ≤ (n : Int) + 1 by omega) (by omega)
    have st := jstp2_w (N := N) a0 a1 (show (1 : Int) ≤ (n : Int) + 1 by omega) (by omega)
    have back : (j : Int) < N → (j : Int) ≠ a → jstp2 N a j = (n : Int) + 1 → (j : Int) = jwr N (a + ((n : Int) + 1)) := by
      intro u v w
      have := (jwr_stp a0 a1 (show (0 : Int) ≤ j by omega) u (by omega)).1
      rw [w] at this
      exact this.symm
    unfold jjf
    generalize jwr N (a + ((n : Int) + 1)) = w at *
    by_cases e : (j : Int) = w
    · have e2 : jstp2 N a j = (n : Int) + 1 := by rw [e]; exact st.1
      have e3 : decide ((j : Int) < N ∧ (j : Int) ≠ a ∧ jstp2 N a j ≤ ((n + 1 : Nat) : Int)) = true := decide_eq_true ⟨by omega, by omega, by omega⟩
      have e4 : decide ((j : Int) < N ∧ (j : Int) ≠ a ∧ jstp2 N a j ≤ (n : Int)) = false := decide_eq_false (fun z => by omega)
      rw [e4, Bool.false_and] at ih
      rw [e3, Bool.true_and]
      split
      · rename_i h
        rw [jlb_or, jlb_one r.1 (by omega) j hj, decide_eq_true e, Bool.or_true, e, h]
      · rename_i h
        rw [ih, e]
        exact (Bool.eq_false_iff.mpr h).symm
    · have e3 : decide ((j : Int) < N ∧ (j : Int) ≠ a ∧ jstp2 N a j ≤ ((n + 1 : Nat) : Int)) = decide ((j : Int) < N ∧ (j : Int) ≠ a ∧ jstp2 N a j ≤ (n : Int)) := by
        refine decide_eq_decide.mpr ⟨fun z => ⟨z.1, z.2.1, ?_⟩, fun z => ⟨z.1, z.2.1, by omega⟩⟩
        by_cases q : jstp2 N a j = (n : Int) + 1
        · exact absurd (back z.1 z.2.1 q) e
        · omega
      rw [e3, ← ih]
      split
      · rw [jlb_or, jlb_one r.1 (by omega) j hj, decide_eq_false e, Bool.or_false]
      · rfl
/-- behind a must -/
theorem jcan_must {N : Int} {X Y L M : Int → Int} {a s t : Int} (a0 : 0 ≤ a) (a1 : a < N) (s0 : 1 ≤ s) (hst : s < t) (t1 : t < N) (hm : M (jwr N (a + s)) = 1) : jcan N X Y L M a (jwr N (a + t)) = false := by
  unfold jcan
  rw [(jstp2_w a0 a1 (show 1 ≤ t by omega) t1).1]
  have e : jcs N X Y L M a (jwr N (a + t)) s.toNat = false := by
    rw [jcs_s s0, decide_eq_false (fun z => by have := z.1; omega), Bool.and_false]
  rw [jcs_mono (m := s.toNat) (by omega) e, Bool.and_false]
theorem jjf_must {N : Int} {X Y L M : Int → Int} {a s : Int} (a0 : 0 ≤ a) (a1 : a < N) (s0 : 1 ≤ s) (hm : M (jwr N (a + s)) = 1) (k : Nat) (hk : s + (k : Int) < N) : jjf N X Y L M a (s + (k : Int)).toNat = jjf N X Y L M a s.toNat := by
  induction k with
  | zero => rw [show s + ((0 : Nat) : Int) = s by omega]
  | succ k ih =>
    rw [jjf_s (s := s + ((k + 1 : Nat) : Int)) (by omega), jcan_must a0 a1 s0 (by omega) hk hm, if_neg (by decide), show s + ((k + 1 : Nat) : Int) - 1 = s + (k : Int) by omega]
    exact ih (by omega)
/-- who can be joined with whom -/
def jJr (g : Int → Int) (N : Int) (P : Int → Int → Int) : Prop := ∀ u, 0 ≤ u → u < N → jR64 (g u) ∧ ∀ j, j < 64 → jlb (g u) j = decide ((j : Int) < N ∧ P u j ≠ -1)
theorem jrL {a b : Int} (h : a = b) : (some (jL a)) = (some (jL b)) := by rw [h]
theorem c_j_from_L_31 (hp : jm_H) (i s N : Int) (X Y L M : Int → Int) (hV : jVo_20 hp i s N X Y L M) (hW : jWy N X Y L M) (eL : hp 31 3 = N) (a : Int) (ha : 0 ≤ a ∧ a < N) : ∀ (m : Nat) (t : Int) (z1 : jm_V), 1 ≤ t → t ≤ N → N - t < m → jm_Ev 41 15 [jR 31, jI i, jI a, jI s, jL (jjf N X Y L M a (t - 1).toNat), jU, jI t, z1] [] hp (jK (some (jL (jjf N X Y L M a (N - 1).toNat))) hp) := by
  obtain ⟨es, eN, s0, s60, hi, hpt⟩ := id hV
  have hN := hW.1
  have hN6 := hW.2.1
  intro n
  induction n with
  | zero => intro t z1 ht0 ht1 hm; omega
  | succ n ih =>
    intro t z1 ht0 ht1 hm
    refine jm_Ev.bl 3 (pc' := 21) (A' := [jR 31, jI i, jI a, jI s, jL (jjf N X Y L M a (t - 1).toNat), jU, jI t, z1]) (st' := [jI (hp 31 3), jI t]) (hp' := hp) rfl ?_
    rw [eL]
    refine jE_icmp_ge rfl (by omega) (by omega) (fun c21 => ?_) (fun c21 => ?_)
    · refine jm_Ev.bl 1 (pc' := 101) (A' := [jR 31, jI i, jI a, jI s, jL (jjf N X Y L M a (t - 1).toNat), jU, jI t, z1]) (st' := [jL (jjf N X Y L M a (t - 1).toNat)]) (hp' := hp) rfl ?_
      exact jE_ret rfl ⟨jrL (by rw [show t = N by omega]), rfl⟩
    · refine jm_Ev.bl 5 (pc' := 32) (A' := [jR 31, jI i, jI a, jI s, jL (jjf N X Y L M a (t - 1).toNat), jU, jI t, z1]) (st' := [jI (hp 31 3), jI (a + t)]) (hp' := hp) rfl ?_
      rw [eL]
      refine jE_icmp_ge rfl (by omega) (by omega) (fun c32 => ?_) (fun c32 => ?_)
      · refine jm_Ev.bl 5 (pc' := 50) (A' := [jR 31, jI i, jI a, jI s, jL (jjf N X Y L M a (t - 1).toNat), jU, jI t, z1]) (st' := [jI (hp 31 3), jI (a + t)]) (hp' := hp) rfl ?_
        rw [eL]
        refine jm_Ev.bl 2 (pc' := 53) (A' := [jR 31, jI i, jI a, jI s, jL (jjf N X Y L M a (t - 1).toNat), jU, jI t, jI ((a + t) - N)]) (st' := []) (hp' := hp) rfl ?_
        obtain ⟨kk, hkk⟩ : ∃ z, z = jwr N (a + t) := ⟨_, rfl⟩
        have hkr := jwr_r ha.1 ha.2 (show 0 ≤ t by omega) (show t < N by omega)
        have hne := (jstp2_w ha.1 ha.2 ht0 (show t < N by omega)).2
        have hjs := jjf_s (N := N) (X := X) (Y := Y) (L := L) (M := M) (a := a) ht0
        rw [← hkk] at hkr hne hjs
        have hne := Ne.symm hne
        have pk := hpt kk hkr.1 hkr.2
        have rk := hW.2.2 kk hkr.1 hkr.2
        rw [show ((a + t) - N) = kk by rw [hkk]; unfold jwr; split <;> omega]
        refine jm_Ev.bl 5 (pc' := 61) (A' := [jR 31, jI i, jI a, jI s, jL (jjf N X Y L M a (t - 1).toNat), jU, jI t, jI kk]) (st' := [jI kk, jI a, jI i, jR 20]) (hp' := hp) rfl ?_
        refine jE_callI (vs := [jR 20, jI i, jI a, jI kk]) (r := []) (nx := 64) (v := jI (jb (jcan N X Y L M a kk))) (hp1 := hp) rfl (c_o_canJoin_20 hp i s N X Y L M hV hW a kk ha hkr hne) ?_
        refine jE_ifb_eq rfl (fun c64 => ?_) (fun c64 => ?_)
        · rw [show (jjf N X Y L M a (t - 1).toNat) = jjf N X Y L M a t.toNat by rw [hjs, if_neg (by rw [c64]; decide)]]
          refine jm_Ev.bl 5 (pc' := 84) (A' := [jR 31, jI i, jI a, jI s, jL (jjf N X Y L M a t.toNat), jU, jI t, jI kk]) (st' := [jI (s + kk), jR 20]) (hp' := hp) rfl ?_
          refine jE_callI (vs := [jR 20, jI (s + kk)]) (r := []) (nx := 87) (v := jI (M kk)) (hp1 := hp) rfl (pk.2.2.2 ▸ c_o_mustAt_20 hp (s + kk) (by omega) (by omega) (by rw [pk.2.2.2]; exact rk.2.2.2)) ?_
          refine jE_if_eq rfl (by omega) (fun c87 => ?_) (fun c87 => ?_)
          · refine jm_Ev.bl 2 (pc' := 15) (A' := [jR 31, jI i, jI a, jI s, jL (jjf N X Y L M a t.toNat), jU, jI (t + 1), jI kk]) (st' := []) (hp' := hp) rfl ?_
            have u := ih (t + 1) (jI kk) (by omega) (by omega) (by omega)
            rw [show t + 1 - 1 = t by omega] at u
            exact u
          · refine jm_Ev.bl 2 (pc' := 101) (A' := [jR 31, jI i, jI a, jI s, jL (jjf N X Y L M a t.toNat), jU, jI t, jI kk]) (st' := [jL (jjf N X Y L M a t.toNat)]) (hp' := hp) rfl ?_
            exact jE_ret rfl ⟨jrL (by have u := jjf_must (X := X) (Y := Y) (L := L) ha.1 ha.2 ht0 (show M (jwr N (a + t)) = 1 by rw [← hkk]; have := rk.2.2.2; omega) (N - 1 - t).toNat (by omega); rw [show t + (((N - 1 - t).toNat : Nat) : Int) = N - 1 by omega] at u; exact u.symm), rfl⟩
        · refine jm_Ev.bl 6 (pc' := 76) (A' := [jR 31, jI i, jI a, jI s, jL ((Int64.ofInt (jjf N X Y L M a (t - 1).toNat) ||| Int64.ofInt ((Int64.ofInt 1 <<< ((Int32.ofInt kk).toInt64 &&& 63)).toInt)).toInt), jU, jI t, jI kk]) (st' := []) (hp' := hp) rfl ?_
          rw [show (Int64.ofInt (jjf N X Y L M a (t - 1).toNat) ||| Int64.ofInt ((Int64.ofInt 1 <<< ((Int32.ofInt kk).toInt64 &&& 63)).toInt)).toInt = jjf N X Y L M a t.toNat by rw [hjs, if_pos c64]]
          refine jm_Ev.bl 5 (pc' := 84) (A' := [jR 31, jI i, jI a, jI s, jL (jjf N X Y L M a t.toNat), jU, jI t, jI kk]) (st' := [jI (s + kk), jR 20]) (hp' := hp) rfl ?_
          refine jE_callI (vs := [jR 20, jI (s + kk)]) (r := []) (nx := 87) (v := jI (M kk)) (hp1 := hp) rfl (pk.2.2.2 ▸ c_o_mustAt_20 hp (s + kk) (by omega) (by omega) (by rw [pk.2.2.2]; exact rk.2.2.2)) ?_
          refine jE_if_eq rfl (by omega) (fun c87 => ?_) (fun c87 => ?_)
          · refine jm_Ev.bl 2 (pc' := 15) (A' := [jR 31, jI i, jI a, jI s, jL (jjf N X Y L M a t.toNat), jU, jI (t + 1), jI kk]) (st' := []) (hp' := hp) rfl ?_
            have u := ih (t + 1) (jI kk) (by omega) (by omega) (by omega)
            rw [show t + 1 - 1 = t by omega] at u
            exact u
          · refine jm_Ev.bl 2 (pc' := 101) (A' := [jR 31, jI i, jI a, jI s, jL (jjf N X Y L M a t.toNat), jU, jI t, jI kk]) (st' := [jL (jjf N X Y L M a t.toNat)]) (hp' := hp) rfl ?_
            exact jE_ret rfl ⟨jrL (by have u := jjf_must (X := X) (Y := Y) (L := L) ha.1 ha.2 ht0 (show M (jwr N (a + t)) = 1 by rw [← hkk]; have := rk.2.2.2; omega) (N - 1 - t).toNat (by omega); rw [show t + (((N - 1 - t).toNat : Nat) : Int) = N - 1 by omega] at u; exact u.symm), rfl⟩
      · refine jm_Ev.bl 5 (pc' := 53) (A' := [jR 31, jI i, jI a, jI s, jL (jjf N X Y L M a (t - 1).toNat), jU, jI t, jI (a + t)]) (st' := []) (hp' := hp) rfl ?_
        obtain ⟨kk, hkk⟩ : ∃ z, z = jwr N (a + t) := ⟨_, rfl⟩
        have hkr := jwr_r ha.1 ha.2 (show 0 ≤ t by omega) (show t < N by omega)
        have hne := (jstp2_w ha.1 ha.2 ht0 (show t < N by omega)).2
        have hjs := jjf_s (N := N) (X := X) (Y := Y) (L := L) (M := M) (a := a) ht0
        rw [← hkk] at hkr hne hjs
        have hne := Ne.symm hne
        have pk := hpt kk hkr.1 hkr.2
        have rk := hW.2.2 kk hkr.1 hkr.2
        rw [show (a + t) = kk by rw [hkk]; unfold jwr; split <;> omega]
        refine jm_Ev.bl 5 (pc' := 61) (A' := [jR 31, jI i, jI a, jI s, jL (jjf N X Y L M a (t - 1).toNat), jU, jI t, jI kk]) (st' := [jI kk, jI a, jI i, jR 20]) (hp' := hp) rfl ?_
        refine jE_callI (vs := [jR 20, jI i, jI a, jI kk]) (r := []) (nx := 64) (v := jI (jb (jcan N X Y L M a kk))) (hp1 := hp) rfl (c_o_canJoin_20 hp i s N X Y L M hV hW a kk ha hkr hne) ?_
        refine jE_ifb_eq rfl (fun c64 => ?_) (fun c64 => ?_)
        · rw [show (jjf N X Y L M a (t - 1).toNat) = jjf N X Y L M a t.toNat by rw [hjs, if_neg (by rw [c64]; decide)]]
          refine jm_Ev.bl 5 (pc' := 84) (A' := [jR 31, jI i, jI a, jI s, jL (jjf N X Y L M a t.toNat), jU, jI t, jI kk]) (st' := [jI (s + kk), jR 20]) (hp' := hp) rfl ?_
          refine jE_callI (vs := [jR 20, jI (s + kk)]) (r := []) (nx := 87) (v := jI (M kk)) (hp1 := hp) rfl (pk.2.2.2 ▸ c_o_mustAt_20 hp (s + kk) (by omega) (by omega) (by rw [pk.2.2.2]; exact rk.2.2.2)) ?_
          refine jE_if_eq rfl (by omega) (fun c87 => ?_) (fun c87 => ?_)
          · refine jm_Ev.bl 2 (pc' := 15) (A' := [jR 31, jI i, jI a, jI s, jL (jjf N X Y L M a t.toNat), jU, jI (t + 1), jI kk]) (st' := []) (hp' := hp) rfl ?_
            have u := ih (t + 1) (jI kk) (by omega) (by omega) (by omega)
            rw [show t + 1 - 1 = t by omega] at u
            exact u
          · refine jm_Ev.bl 2 (pc' := 101) (A' := [jR 31, jI i, jI a, jI s, jL (jjf N X Y L M a t.toNat), jU, jI t, jI kk]) (st' := [jL (jjf N X Y L M a t.toNat)]) (hp' := hp) rfl ?_
            exact jE_ret rfl ⟨jrL (by have u := jjf_must (X := X) (Y := Y) (L := L) ha.1 ha.2 ht0 (show M (jwr N (a + t)) = 1 by rw [← hkk]; have := rk.2.2.2; omega) (N - 1 - t).toNat (by omega); rw [show t + (((N - 1 - t).toNat : Nat) : Int) = N - 1 by omega] at u; exact u.symm), rfl⟩
        · refine jm_Ev.bl 6 (pc' := 76) (A' := [jR 31, jI i, jI a, jI s, jL ((Int64.ofInt (jjf N X Y L M a (t - 1).toNat) ||| Int64.ofInt ((Int64.ofInt 1 <<< ((Int32.ofInt kk).toInt64 &&& 63)).toInt)).toInt), jU, jI t, jI kk]) (st' := []) (hp' := hp) rfl ?_
          rw [show (Int64.ofInt (jjf N X Y L M a (t - 1).toNat) ||| Int64.ofInt ((Int64.ofInt 1 <<< ((Int32.ofInt kk).toInt64 &&& 63)).toInt)).toInt = jjf N X Y L M a t.toNat by rw [hjs, if_pos c64]]
          refine jm_Ev.bl 5 (pc' := 84) (A' := [jR 31, jI i, jI a, jI s, jL (jjf N X Y L M a t.toNat), jU, jI t, jI kk]) (st' := [jI (s + kk), jR 20]) (hp' := hp) rfl ?_
          refine jE_callI (vs := [jR 20, jI (s + kk)]) (r := []) (nx := 87) (v := jI (M kk)) (hp1 := hp) rfl (pk.2.2.2 ▸ c_o_mustAt_20 hp (s + kk) (by omega) (by omega) (by rw [pk.2.2.2]; exact rk.2.2.2)) ?_
          refine jE_if_eq rfl (by omega) (fun c87 => ?_) (fun c87 => ?_)
          · refine jm_Ev.bl 2 (pc' := 15) (A' := [jR 31, jI i, jI a, jI s, jL (jjf N X Y L M a t.toNat), jU, jI (t + 1), jI kk]) (st' := []) (hp' := hp) rfl ?_
            have u := ih (t + 1) (jI kk) (by omega) (by omega) (by omega)
            rw [show t + 1 - 1 = t by omega] at u
            exact u
          · refine jm_Ev.bl 2 (pc' := 101) (A' := [jR 31, jI i, jI a, jI s, jL (jjf N X Y L M a t.toNat), jU, jI t, jI kk]) (st' := [jL (jjf N X Y L M a t.toNat)]) (hp' := hp) rfl ?_
            exact jE_ret rfl ⟨jrL (by have u := jjf_must (X := X) (Y := Y) (L := L) ha.1 ha.2 ht0 (show M (jwr N (a + t)) = 1 by rw [← hkk]; have := rk.2.2.2; omega) (N - 1 - t).toNat (by omega); rw [show t + (((N - 1 - t).toNat : Nat) : Int) = N - 1 by omega] at u; exact u.symm), rfl⟩
theorem c_j_jointsFrom_31 (hp : jm_H) (i s N : Int) (X Y L M : Int → Int) (hV : jVo_20 hp i s N X Y L M) (hW : jWy N X Y L M) (eL : hp 31 3 = N) (a : Int) (ha : 0 ≤ a ∧ a < N) : jm_Ev 41 0 [jR 31, jI i, jI a, jU, jU, jU, jU, jU] [] hp (jK (some (jL (jjf N X Y L M a (N - 1).toNat))) hp) := by
  obtain ⟨es, eN, s0, s60, hi, hpt⟩ := id hV
  have hN := hW.1
  have hN6 := hW.2.1
  refine jm_Ev.bl 3 (pc' := 5) (A' := [jR 31, jI i, jI a, jU, jU, jU, jU, jU]) (st' := [jI i, jR 20]) (hp' := hp) rfl ?_
  refine jE_callI (vs := [jR 20, jI i]) (r := []) (nx := 8) (v := jI s) (hp1 := hp) rfl (es ▸ c_o_startOf_20 hp i (by omega) (by omega)) ?_
  refine jm_Ev.bl 5 (pc' := 15) (A' := [jR 31, jI i, jI a, jI s, jL 0, jU, jI 1, jU]) (st' := []) (hp' := hp) rfl ?_
  have u := c_j_from_L_31 hp i s N X Y L M hV hW eL a ha 61 1 jU (by omega) (by omega) (by omega)
  exact u
theorem c_j_from_L_54 (hp : jm_H) (i s N : Int) (X Y L M : Int → Int) (hV : jVo_43 hp i s N X Y L M) (hW : jWy N X Y L M) (eL : hp 54 3 = N) (a : Int) (ha : 0 ≤ a ∧ a < N) : ∀ (m : Nat) (t : Int) (z1 : jm_V), 1 ≤ t → t ≤ N → N - t < m → jm_Ev 41 15 [jR 54, jI i, jI a, jI s, jL (jjf N X Y L M a (t - 1).toNat), jU, jI t, z1] [] hp (jK (some (jL (jjf N X Y L M a (N - 1).toNat))) hp) := by
  obtain ⟨es, eN, s0, s60, hi, hpt⟩ := id hV
  have hN := hW.1
  have hN6 := hW.2.1
  intro n
  induction n with
  | zero => intro t z1 ht0 ht1 hm; omega
  | succ n ih =>
    intro t z1 ht0 ht1 hm
    refine jm_Ev.bl 3 (pc' := 21) (A' := [jR 54, jI i, jI a, jI s, jL (jjf N X Y L M a (t - 1).toNat), jU, jI t, z1]) (st' := [jI (hp 54 3), jI t]) (hp' := hp) rfl ?_
    rw [eL]
    refine jE_icmp_ge rfl (by omega) (by omega) (fun c21 => ?_) (fun c21 => ?_)
    · refine jm_Ev.bl 1 (pc' := 101) (A' := [jR 54, jI i, jI a, jI s, jL (jjf N X Y L M a (t - 1).toNat), jU, jI t, z1]) (st' := [jL (jjf N X Y L M a (t - 1).toNat)]) (hp' := hp) rfl ?_
      exact jE_ret rfl ⟨jrL (by rw [show t = N by omega]), rfl⟩
    · refine jm_Ev.bl 5 (pc' := 32) (A' := [jR 54, jI i, jI a, jI s, jL (jjf N X Y L M a (t - 1).toNat), jU, jI t, z1]) (st' := [jI (hp 54 3), jI (a + t)]) (hp' := hp) rfl ?_
      rw [eL]
      refine jE_icmp_ge rfl (by omega) (by omega) (fun c32 => ?_) (fun c32 => ?_)
      · refine jm_Ev.bl 5 (pc' := 50) (A' := [jR 54, jI i, jI a, jI s, jL (jjf N X Y L M a (t - 1).toNat), jU, jI t, z1]) (st' := [jI (hp 54 3), jI (a + t)]) (hp' := hp) rfl ?_
        rw [eL]
        refine jm_Ev.bl 2 (pc' := 53) (A' := [jR 54, jI i, jI a, jI s, jL (jjf N X Y L M a (t - 1).toNat), jU, jI t, jI ((a + t) - N)]) (st' := []) (hp' := hp) rfl ?_
        obtain ⟨kk, hkk⟩ : ∃ z, z = jwr N (a + t) := ⟨_, rfl⟩
        have hkr := jwr_r ha.1 ha.2 (show 0 ≤ t by omega) (show t < N by omega)
        have hne := (jstp2_w ha.1 ha.2 ht0 (show t < N by omega)).2
        have hjs := jjf_s (N := N) (X := X) (Y := Y) (L := L) (M := M) (a := a) ht0
        rw [← hkk] at hkr hne hjs
        have hne := Ne.symm hne
        have pk := hpt kk hkr.1 hkr.2
        have rk := hW.2.2 kk hkr.1 hkr.2
        rw [show ((a + t) - N) = kk by rw [hkk]; unfold jwr; split <;> omega]
        refine jm_Ev.bl 5 (pc' := 61) (A' := [jR 54, jI i, jI a, jI s, jL (jjf N X Y L M a (t - 1).toNat), jU, jI t, jI kk]) (st' := [jI kk, jI a, jI i, jR 43]) (hp' := hp) rfl ?_
        refine jE_callI (vs := [jR 43, jI i, jI a, jI kk]) (r := []) (nx := 64) (v := jI (jb (jcan N X Y L M a kk))) (hp1 := hp) rfl (c_o_canJoin_43 hp i s N X Y L M hV hW a kk ha hkr hne) ?_
        refine jE_ifb_eq rfl (fun c64 => ?_) (fun c64 => ?_)
        · rw [show (jjf N X Y L M a (t - 1).toNat) = jjf N X Y L M a t.toNat by rw [hjs, if_neg (by rw [c64]; decide)]]
          refine jm_Ev.bl 5 (pc' := 84) (A' := [jR 54, jI i, jI a, jI s, jL (jjf N X Y L M a t.toNat), jU, jI t, jI kk]) (st' := [jI (s + kk), jR 43]) (hp' := hp) rfl ?_
          refine jE_callI (vs := [jR 43, jI (s + kk)]) (r := []) (nx := 87) (v := jI (M kk)) (hp1 := hp) rfl (pk.2.2.2 ▸ c_o_mustAt_43 hp (s + kk) (by omega) (by omega) (by rw [pk.2.2.2]; exact rk.2.2.2)) ?_
          refine jE_if_eq rfl (by omega) (fun c87 => ?_) (fun c87 => ?_)
          · refine jm_Ev.bl 2 (pc' := 15) (A' := [jR 54, jI i, jI a, jI s, jL (jjf N X Y L M a t.toNat), jU, jI (t + 1), jI kk]) (st' := []) (hp' := hp) rfl ?_
            have u := ih (t + 1) (jI kk) (by omega) (by omega) (by omega)
            rw [show t + 1 - 1 = t by omega] at u
            exact u
          · refine jm_Ev.bl 2 (pc' := 101) (A' := [jR 54, jI i, jI a, jI s, jL (jjf N X Y L M a t.toNat), jU, jI t, jI kk]) (st' := [jL (jjf N X Y L M a t.toNat)]) (hp' := hp) rfl ?_
            exact jE_ret rfl ⟨jrL (by have u := jjf_must (X := X) (Y := Y) (L := L) ha.1 ha.2 ht0 (show M (jwr N (a + t)) = 1 by rw [← hkk]; have := rk.2.2.2; omega) (N - 1 - t).toNat (by omega); rw [show t + (((N - 1 - t).toNat : Nat) : Int) = N - 1 by omega] at u; exact u.symm), rfl⟩
        · refine jm_Ev.bl 6 (pc' := 76) (A' := [jR 54, jI i, jI a, jI s, jL ((Int64.ofInt (jjf N X Y L M a (t - 1).toNat) ||| Int64.ofInt ((Int64.ofInt 1 <<< ((Int32.ofInt kk).toInt64 &&& 63)).toInt)).toInt), jU, jI t, jI kk]) (st' := []) (hp' := hp) rfl ?_
          rw [show (Int64.ofInt (jjf N X Y L M a (t - 1).toNat) ||| Int64.ofInt ((Int64.ofInt 1 <<< ((Int32.ofInt kk).toInt64 &&& 63)).toInt)).toInt = jjf N X Y L M a t.toNat by rw [hjs, if_pos c64]]
          refine jm_Ev.bl 5 (pc' := 84) (A' := [jR 54, jI i, jI a, jI s, jL (jjf N X Y L M a t.toNat), jU, jI t, jI kk]) (st' := [jI (s + kk), jR 43]) (hp' := hp) rfl ?_
          refine jE_callI (vs := [jR 43, jI (s + kk)]) (r := []) (nx := 87) (v := jI (M kk)) (hp1 := hp) rfl (pk.2.2.2 ▸ c_o_mustAt_43 hp (s + kk) (by omega) (by omega) (by rw [pk.2.2.2]; exact rk.2.2.2)) ?_
          refine jE_if_eq rfl (by omega) (fun c87 => ?_) (fun c87 => ?_)
          · refine jm_Ev.bl 2 (pc' := 15) (A' := [jR 54, jI i, jI a, jI s, jL (jjf N X Y L M a t.toNat), jU, jI (t + 1), jI kk]) (st' := []) (hp' := hp) rfl ?_
            have u := ih (t + 1) (jI kk) (by omega) (by omega) (by omega)
            rw [show t + 1 - 1 = t by omega] at u
            exact u
          · refine jm_Ev.bl 2 (pc' := 101) (A' := [jR 54, jI i, jI a, jI s, jL (jjf N X Y L M a t.toNat), jU, jI t, jI kk]) (st' := [jL (jjf N X Y L M a t.toNat)]) (hp' := hp) rfl ?_
            exact jE_ret rfl ⟨jrL (by have u := jjf_must (X := X) (Y := Y) (L := L) ha.1 ha.2 ht0 (show M (jwr N (a + t)) = 1 by rw [← hkk]; have := rk.2.2.2; omega) (N - 1 - t).toNat (by omega); rw [show t + (((N - 1 - t).toNat : Nat) : Int) = N - 1 by omega] at u; exact u.symm), rfl⟩
      · refine jm_Ev.bl 5 (pc' := 53) (A' := [jR 54, jI i, jI a, jI s, jL (jjf N X Y L M a (t - 1).toNat), jU, jI t, jI (a + t)]) (st' := []) (hp' := hp) rfl ?_
        obtain ⟨kk, hkk⟩ : ∃ z, z = jwr N (a + t) := ⟨_, rfl⟩
        have hkr := jwr_r ha.1 ha.2 (show 0 ≤ t by omega) (show t < N by omega)
        have hne := (jstp2_w ha.1 ha.2 ht0 (show t < N by omega)).2
        have hjs := jjf_s (N := N) (X := X) (Y := Y) (L := L) (M := M) (a := a) ht0
        rw [← hkk] at hkr hne hjs
        have hne := Ne.symm hne
        have pk := hpt kk hkr.1 hkr.2
        have rk := hW.2.2 kk hkr.1 hkr.2
        rw [show (a + t) = kk by rw [hkk]; unfold jwr; split <;> omega]
        refine jm_Ev.bl 5 (pc' := 61) (A' := [jR 54, jI i, jI a, jI s, jL (jjf N X Y L M a (t - 1).toNat), jU, jI t, jI kk]) (st' := [jI kk, jI a, jI i, jR 43]) (hp' := hp) rfl ?_
        refine jE_callI (vs := [jR 43, jI i, jI a, jI kk]) (r := []) (nx := 64) (v := jI (jb (jcan N X Y L M a kk))) (hp1 := hp) rfl (c_o_canJoin_43 hp i s N X Y L M hV hW a kk ha hkr hne) ?_
        refine jE_ifb_eq rfl (fun c64 => ?_) (fun c64 => ?_)
        · rw [show (jjf N X Y L M a (t - 1).toNat) = jjf N X Y L M a t.toNat by rw [hjs, if_neg (by rw [c64]; decide)]]
          refine jm_Ev.bl 5 (pc' := 84) (A' := [jR 54, jI i, jI a, jI s, jL (jjf N X Y L M a t.toNat), jU, jI t, jI kk]) (st' := [jI (s + kk), jR 43]) (hp' := hp) rfl ?_
          refine jE_callI (vs := [jR 43, jI (s + kk)]) (r := []) (nx := 87) (v := jI (M kk)) (hp1 := hp) rfl (pk.2.2.2 ▸ c_o_mustAt_43 hp (s + kk) (by omega) (by omega) (by rw [pk.2.2.2]; exact rk.2.2.2)) ?_
          refine jE_if_eq rfl (by omega) (fun c87 => ?_) (fun c87 => ?_)
          · refine jm_Ev.bl 2 (pc' := 15) (A' := [jR 54, jI i, jI a, jI s, jL (jjf N X Y L M a t.toNat), jU, jI (t + 1), jI kk]) (st' := []) (hp' := hp) rfl ?_
            have u := ih (t + 1) (jI kk) (by omega) (by omega) (by omega)
            rw [show t + 1 - 1 = t by omega] at u
            exact u
          · refine jm_Ev.bl 2 (pc' := 101) (A' := [jR 54, jI i, jI a, jI s, jL (jjf N X Y L M a t.toNat), jU, jI t, jI kk]) (st' := [jL (jjf N X Y L M a t.toNat)]) (hp' := hp) rfl ?_
            exact jE_ret rfl ⟨jrL (by have u := jjf_must (X := X) (Y := Y) (L := L) ha.1 ha.2 ht0 (show M (jwr N (a + t)) = 1 by rw [← hkk]; have := rk.2.2.2; omega) (N - 1 - t).toNat (by omega); rw [show t + (((N - 1 - t).toNat : Nat) : Int) = N - 1 by omega] at u; exact u.symm), rfl⟩
        · refine jm_Ev.bl 6 (pc' := 76) (A' := [jR 54, jI i, jI a, jI s, jL ((Int64.ofInt (jjf N X Y L M a (t - 1).toNat) ||| Int64.ofInt ((Int64.ofInt 1 <<< ((Int32.ofInt kk).toInt64 &&& 63)).toInt)).toInt), jU, jI t, jI kk]) (st' := []) (hp' := hp) rfl ?_
          rw [show (Int64.ofInt (jjf N X Y L M a (t - 1).toNat) ||| Int64.ofInt ((Int64.ofInt 1 <<< ((Int32.ofInt kk).toInt64 &&& 63)).toInt)).toInt = jjf N X Y L M a t.toNat by rw [hjs, if_pos c64]]
          refine jm_Ev.bl 5 (pc' := 84) (A' := [jR 54, jI i, jI a, jI s, jL (jjf N X Y L M a t.toNat), jU, jI t, jI kk]) (st' := [jI (s + kk), jR 43]) (hp' := hp) rfl ?_
          refine jE_callI (vs := [jR 43, jI (s + kk)]) (r := []) (nx := 87) (v := jI (M kk)) (hp1 := hp) rfl (pk.2.2.2 ▸ c_o_mustAt_43 hp (s + kk) (by omega) (by omega) (by rw [pk.2.2.2]; exact rk.2.2.2)) ?_
          refine jE_if_eq rfl (by omega) (fun c87 => ?_) (fun c87 => ?_)
          · refine jm_Ev.bl 2 (pc' := 15) (A' := [jR 54, jI i, jI a, jI s, jL (jjf N X Y L M a t.toNat), jU, jI (t + 1), jI kk]) (st' := []) (hp' := hp) rfl ?_
            have u := ih (t + 1) (jI kk) (by omega) (by omega) (by omega)
            rw [show t + 1 - 1 = t by omega] at u
            exact u
          · refine jm_Ev.bl 2 (pc' := 101) (A' := [jR 54, jI i, jI a, jI s, jL (jjf N X Y L M a t.toNat), jU, jI t, jI kk]) (st' := [jL (jjf N X Y L M a t.toNat)]) (hp' := hp) rfl ?_
            exact jE_ret rfl ⟨jrL (by have u := jjf_must (X := X) (Y := Y) (L := L) ha.1 ha.2 ht0 (show M (jwr N (a + t)) = 1 by rw [← hkk]; have := rk.2.2.2; omega) (N - 1 - t).toNat (by omega); rw [show t + (((N - 1 - t).toNat : Nat) : Int) = N - 1 by omega] at u; exact u.symm), rfl⟩
theorem c_j_jointsFrom_54 (hp : jm_H) (i s N : Int) (X Y L M : Int → Int) (hV : jVo_43 hp i s N X Y L M) (hW : jWy N X Y L M) (eL : hp 54 3 = N) (a : Int) (ha : 0 ≤ a ∧ a < N) : jm_Ev 41 0 [jR 54, jI i, jI a, jU, jU, jU, jU, jU] [] hp (jK (some (jL (jjf N X Y L M a (N - 1).toNat))) hp) := by
  obtain ⟨es, eN, s0, s60, hi, hpt⟩ := id hV
  have hN := hW.1
  have hN6 := hW.2.1
  refine jm_Ev.bl 3 (pc' := 5) (A' := [jR 54, jI i, jI a, jU, jU, jU, jU, jU]) (st' := [jI i, jR 43]) (hp' := hp) rfl ?_
  refine jE_callI (vs := [jR 43, jI i]) (r := []) (nx := 8) (v := jI s) (hp1 := hp) rfl (es ▸ c_o_startOf_43 hp i (by omega) (by omega)) ?_
  refine jm_Ev.bl 5 (pc' := 15) (A' := [jR 54, jI i, jI a, jI s, jL 0, jU, jI 1, jU]) (st' := []) (hp' := hp) rfl ?_
  have u := c_j_from_L_54 hp i s N X Y L M hV hW eL a ha 61 1 jU (by omega) (by omega) (by omega)
  exact u
