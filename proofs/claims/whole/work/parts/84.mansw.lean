/-! answers of outlines; the model -/
def jpr (N n : Int) : Int := if n = 0 then N - 1 else n - 1
def jarm (X Y : Int → Int) (N : Int) : Nat → Int
  | 0 => 0
  | k + 1 => jarm X Y N k + (X (jpr N k) * Y k - X k * Y (jpr N k))
theorem jarm_s {X Y : Int → Int} {N n : Int} (h : 0 ≤ n) : jarm X Y N (n + 1).toNat = jarm X Y N n.toNat + (X (jpr N n) * Y n - X n * Y (jpr N n)) := by
  have e : (n + 1).toNat = n.toNat + 1 := by omega
  have e2 : ((n.toNat : Nat) : Int) = n := by omega
  rw [e]
  conv => lhs; unfold jarm
  rw [e2]
theorem jarm_eq (X Y : Int → Int) (N : Int) (k : Nat) (hk : (k : Int) < N) : jarm X Y N (k + 1) = (X (N - 1) * Y 0 - X 0 * Y (N - 1)) + jars X Y N k := by
  induction k with
  | zero =>
    show 0 + (X (jpr N ((0 : Nat) : Int)) * Y ((0 : Nat) : Int) - X ((0 : Nat) : Int) * Y (jpr N ((0 : Nat) : Int))) = (X (N - 1) * Y 0 - X 0 * Y (N - 1)) + 0
    rw [show jpr N ((0 : Nat) : Int) = N - 1 from if_pos rfl, show ((0 : Nat) : Int) = 0 from rfl]
    omega
  | succ k ih =>
    have ih := ih (by omega)
    unfold jarm
    rw [ih]
    conv => rhs; unfold jars
    rw [if_pos (show (k : Int) + 1 < N by omega)]
    unfold jpr
    rw [if_neg (by omega), show ((k + 1 : Nat) : Int) - 1 = (k : Int) by omega, show ((k + 1 : Nat) : Int) = (k : Int) + 1 by omega]
    omega
theorem jarm_all {X Y : Int → Int} {N : Int} (h : 1 ≤ N) : jarm X Y N N.toNat = jars X Y N N.toNat := by
  obtain ⟨k, hk⟩ : ∃ k : Nat, N.toNat = k + 1 := ⟨N.toNat - 1, by omega⟩
  rw [hk, jarm_eq X Y N k (by omega)]
  conv => rhs; unfold jars
  rw [if_neg (by omega), show (k : Int) = N - 1 by omega]
  omega
/-- how many of the increasing ones are less than n -/
def jIr (w : Int → Int) (S n r : Int) : Prop := 0 ≤ r ∧ r ≤ S ∧ (∀ k, 0 ≤ k → k < r → w k < n) ∧ ∀ k, r ≤ k → k < S → n ≤ w k
theorem jinc {w : Int → Int} {S : Int} (h : ∀ n, 0 ≤ n → n + 1 < S → w n < w (n + 1)) {a : Int} (a0 : 0 ≤ a) : ∀ d : Nat, a + (d : Int) + 1 < S → w a < w (a + (d : Int) + 1) := by
  intro d
  induction d with
  | zero => intro e; have := h a a0 (by omega); rw [show a + ((0 : Nat) : Int) + 1 = a + 1 by omega]; exact this
  | succ d ih =>
    intro e
    have x := ih (by omega)
    have y := h (a + (d : Int) + 1) (by omega) (by omega)
    rw [show a + ((d + 1 : Nat) : Int) + 1 = a + (d : Int) + 1 + 1 by omega]
    omega
theorem jinc2 {w : Int → Int} {S : Int} (h : ∀ n, 0 ≤ n → n + 1 < S → w n < w (n + 1)) {a b : Int} (a0 : 0 ≤ a) (ab : a < b) (b1 : b < S) : w a < w b := by
  have := jinc h a0 (b - a - 1).toNat (by omega)
  rw [show a + (((b - a - 1).toNat : Nat) : Int) + 1 = b by omega] at this
  exact this
theorem jIr_t {w : Int → Int} {S n r : Int} (h : ∀ n, 0 ≤ n → n + 1 < S → w n < w (n + 1)) (hi : jIr w S n r) (hc : jchk w S.toNat n = true) : r < S ∧ w r = n ∧ jIr w S (n + 1) (r + 1) := by
  obtain ⟨h1, h2, h3, h4⟩ := hi
  obtain ⟨m, m0, m1, e⟩ := (jchk_iff w S.toNat n).mp hc
  have hm : r ≤ m := by
    by_cases q : r ≤ m
    · exact q
    · have := h3 m m0 (by omega); omega
  have hr : r = m := by
    by_cases q : r = m
    · exact q
    · have a := jinc2 h h1 (show r < m by omega) (by omega)
      have b := h4 r (by omega) (by omega)
      omega
  subst hr
  refine ⟨by omega, e.symm, by omega, by omega, fun k a b => ?_, fun k a b => ?_⟩
  · by_cases q : k = r
    · subst q; omega
    · have := h3 k a (by omega); omega
  · have := jinc2 h h1 (show r < k by omega) b
    omega
theorem jIr_f {w : Int → Int} {S n r : Int} (hi : jIr w S n r) (hc : jchk w S.toNat n = false) : jIr w S (n + 1) r := by
  obtain ⟨h1, h2, h3, h4⟩ := hi
  refine ⟨h1, h2, fun k a b => by have := h3 k a b; omega, fun k a b => ?_⟩
  have x := h4 k a b
  by_cases q : n = w k
  · have := (jchk_iff w S.toNat n).mpr ⟨k, by omega, by omega, q⟩
    rw [hc] at this
    cases this
  · omega
theorem jIr_N {w : Int → Int} {S N r : Int} (hi : jIr w S N r) (hw : ∀ k, 0 ≤ k → k < S → w k < N) : r = S := by
  obtain ⟨h1, h2, h3, h4⟩ := hi
  by_cases q : r = S
  · exact q
  · have a := h4 r (by omega) (by omega)
    have b := hw r h1 (by omega)
    omega
theorem jwr_mod2 {N a t : Int} (h0 : 0 ≤ a) (h1 : a < N) (t0 : 0 ≤ t) (t1 : t < N) : (a + t) % N = jwr N (a + t) := by
  unfold jwr
  split
  · exact Int.emod_eq_of_lt (by omega) (by omega)
  · rw [show a + t = (a + t - N) + N by omega, Int.add_emod_right]
    exact (Int.emod_eq_of_lt (by omega) (by omega)).trans (by omega)
theorem c_m_mustMany_L (hp : jm_H) (K : Int → Int → Int) (q : List jT) (i s : Int) (hV : jVm hp i s q.length (jpx q) (jpy q) (jpl_ K q) (jpm K q)) (hW : jWy q.length (jpx q) (jpy q) (jpl_ K q) (jpm K q)) : ∀ (m : Nat) (n : Int), 0 ≤ n → n ≤ q.length → q.length - n < m → jm_Ev 174 4 [jR 56, jI i, jI (jmc K q n.toNat), jI n] [] hp (jK (some (jI (jmc K q q.length))) hp) := by
  have hN4 := hW.1
  have hN6 := hW.2.1
  obtain ⟨es, eN, s0, s60, hi, hpt⟩ := id hV
  intro fu
  induction fu with
  | zero => intro n h0 h1 hm; omega
  | succ fu ih =>
    intro n h0 h1 hm
    refine jm_Ev.bl 4 (pc' := 10) (A' := [jR 56, jI i, jI (jmc K q n.toNat), jI n]) (st' := [jI i, jR 60, jI n]) (hp' := hp) rfl ?_
    refine jE_iald (n := 32) (f := hp 60) rfl rfl (by omega) ?_
    refine jE_top (w := (q.length : Int)) (eN) ?_
    refine jE_icmp_ge rfl (by omega) (by omega) (fun c11 => ?_) (fun c11 => ?_)
    · refine jm_Ev.bl 1 (pc' := 37) (A' := [jR 56, jI i, jI (jmc K q n.toNat), jI n]) (st' := [jI (jmc K q n.toNat)]) (hp' := hp) rfl ?_
      exact jE_ret rfl ⟨jrI (by rw [show n = (q.length : Int) by omega]; rfl), rfl⟩
    · refine jm_Ev.bl 6 (pc' := 24) (A' := [jR 56, jI i, jI (jmc K q n.toNat), jI n]) (st' := [jI i, jR 59, jR 64, jI (jmc K q n.toNat)]) (hp' := hp) rfl ?_
      refine jE_iald (n := 32) (f := hp 59) rfl rfl (by omega) ?_
      refine jE_top (w := s) (es) ?_
      refine jm_Ev.bl 2 (pc' := 27) (A' := [jR 56, jI i, jI (jmc K q n.toNat), jI n]) (st' := [jI (s + n), jR 64, jI (jmc K q n.toNat)]) (hp' := hp) rfl ?_
      refine jE_iald (n := 160) (f := hp 64) rfl rfl (by omega) ?_
      refine jE_top (w := (jpm K q n)) ((hpt n (by omega) (by omega)).2.2.2) ?_
      refine jm_Ev.bl 2 (pc' := 30) (A' := [jR 56, jI i, jI ((jmc K q n.toNat) + (jpm K q n)), jI n]) (st' := []) (hp' := hp) rfl ?_
      rw [← jmc_s (by omega)]
      refine jm_Ev.bl 2 (pc' := 4) (A' := [jR 56, jI i, jI (jmc K q (n + 1).toNat), jI (n + 1)]) (st' := []) (hp' := hp) rfl ?_
      exact ih (n + 1) (by omega) (by omega) (by omega)
theorem c_m_mustMany (hp : jm_H) (K : Int → Int → Int) (q : List jT) (i s : Int) (hV : jVm hp i s q.length (jpx q) (jpy q) (jpl_ K q) (jpm K q)) (hW : jWy q.length (jpx q) (jpy q) (jpl_ K q) (jpm K q)) : jm_Ev 174 0 [jR 56, jI i, jU, jU] [] hp (jK (some (jI (jmc K q q.length))) hp) := by
  have hN4 := hW.1
  have hN6 := hW.2.1
  obtain ⟨es, eN, s0, s60, hi, hpt⟩ := id hV
  refine jm_Ev.bl 4 (pc' := 4) (A' := [jR 56, jI i, jI 0, jI 0]) (st' := []) (hp' := hp) rfl ?_
  exact c_m_mustMany_L hp K q i s hV hW 61 0 (by omega) (by omega) (by omega)
theorem c_m_reach_L (hp : jm_H) (K : Int → Int → Int) (q : List jT) (i s : Int) (hV : jVm hp i s q.length (jpx q) (jpy q) (jpl_ K q) (jpm K q)) (hW : jWy q.length (jpx q) (jpy q) (jpl_ K q) (jpm K q)) (n : Int) (hn : 0 ≤ n ∧ n < q.length) : ∀ (m : Nat) (t : Int), 2 ≤ t → t ≤ (q.length : Int) - 1 → (∀ m : Nat, 2 ≤ m → (m : Int) < t → jcq K q n (jwr q.length (n + (m : Int))) = true) → q.length - t < m → jm_Ev 177 10 [jR 56, jI i, jI n, jI (q.length : Int), jI (t - 1)] [] hp (jK (some (jI (jrch K q n))) hp) := by
  have hN4 := hW.1
  have hN6 := hW.2.1
  obtain ⟨es, eN, s0, s60, hi, hpt⟩ := id hV
  intro fu
  induction fu with
  | zero => intro t h0 h1 hno hm; omega
  | succ fu ih =>
    intro t h0 h1 hno hm
    refine jm_Ev.bl 4 (pc' := 15) (A' := [jR 56, jI i, jI n, jI (q.length : Int), jI (t - 1)]) (st' := [jI ((q.length : Int) - 2), jI (t - 1)]) (hp' := hp) rfl ?_
    refine jE_icmp_ge rfl (by omega) (by omega) (fun c15 => ?_) (fun c15 => ?_)
    · refine jm_Ev.bl 1 (pc' := 44) (A' := [jR 56, jI i, jI n, jI (q.length : Int), jI (t - 1)]) (st' := [jI (t - 1)]) (hp' := hp) rfl ?_
      have z := jfind_none (p := (fun s : Nat => !(jcq K q n (jwr q.length (n + (s : Int)))))) ((q.length : Int) - 3).toNat 2 (fun m a b => by show (!(jcq K q n (jwr q.length (n + (m : Int))))) = false; rw [hno m a (by omega)]; rfl)
      exact jE_ret rfl ⟨jrI (by unfold jrch; rw [z]; omega), rfl⟩
    · refine jm_Ev.bl 9 (pc' := 28) (A' := [jR 56, jI i, jI n, jI (q.length : Int), jI (t - 1)]) (st' := [jI (q.length : Int), jI ((n + (t - 1)) + 1), jI n, jI i, jR 56]) (hp' := hp) rfl ?_
      refine jE_irem rfl (by omega) (by omega) ?_
      obtain ⟨kk, hkk⟩ : ∃ z, z = jwr q.length (n + t) := ⟨_, rfl⟩
      have hkr := jwr_r hn.1 hn.2 (show 0 ≤ t by omega) (show t < (q.length : Int) by omega)
      have hne := (jstp2_w hn.1 hn.2 (show 1 ≤ t by omega) (show t < (q.length : Int) by omega)).2
      rw [← hkk] at hkr hne
      have hpb := jpb_n hW hn.1 hn.2 hkr.1 hkr.2 (Ne.symm hne)
      have hpr : -1 ≤ jpb q.length (jpx q) (jpy q) (jpl_ K q) (jpm K q) n kk ∧ jpb q.length (jpx q) (jpy q) (jpl_ K q) (jpm K q) n kk ≤ 2147483647 := by
        rcases Bool.eq_false_or_eq_true (jcan q.length (jpx q) (jpy q) (jpl_ K q) (jpm K q) n kk) with c | c
        · have := hpb.1 c; have z := this.2; unfold jfn at z; omega
        · rw [hpb.2 c]; omega
      refine jE_top (w := kk) (by rw [hkk, ← jwr_mod2 hn.1 hn.2 (by omega) (by omega), show n + (t - 1) + 1 = n + t by omega]) ?_
      refine jE_callI (vs := [jR 56, jI i, jI n, jI kk]) (r := []) (nx := 32) (v := jI (jpb q.length (jpx q) (jpy q) (jpl_ K q) (jpm K q) n kk)) (hp1 := hp) rfl (c_m_bits hp i s q.length (jpx q) (jpy q) (jpl_ K q) (jpm K q) hV hW n kk hn hkr (Ne.symm hne)) ?_
      refine jm_Ev.bl 1 (pc' := 33) (A' := [jR 56, jI i, jI n, jI (q.length : Int), jI (t - 1)]) (st' := [jI (-1), jI (jpb q.length (jpx q) (jpy q) (jpl_ K q) (jpm K q) n kk)]) (hp' := hp) rfl ?_
      refine jE_icmp_eq rfl (by omega) (by omega) (fun c33 => ?_) (fun c33 => ?_)
      · refine jm_Ev.bl 1 (pc' := 44) (A' := [jR 56, jI i, jI n, jI (q.length : Int), jI (t - 1)]) (st' := [jI (t - 1)]) (hp' := hp) rfl ?_
        have cf : jcq K q n kk = false := by
          rcases Bool.eq_false_or_eq_true (jcan q.length (jpx q) (jpy q) (jpl_ K q) (jpm K q) n kk) with c | c
          · have := (hpb.1 c).1; omega
          · exact c
        have z := jfind_eq (p := (fun s : Nat => !(jcq K q n (jwr q.length (n + (s : Int)))))) (n := t.toNat) (by show (!(jcq K q n (jwr q.length (n + ((t.toNat : Nat) : Int))))) = true; rw [show ((t.toNat : Nat) : Int) = t by omega, ← hkk, cf]; rfl) ((q.length : Int) - 3).toNat 2 (by omega) (by omega) (fun m a b => by show (!(jcq K q n (jwr q.length (n + (m : Int))))) = false; rw [hno m a (by omega)]; rfl)
        exact jE_ret rfl ⟨jrI (by unfold jrch; rw [z]; omega), rfl⟩
      · refine jm_Ev.bl 2 (pc' := 10) (A' := [jR 56, jI i, jI n, jI (q.length : Int), jI ((t - 1) + 1)]) (st' := []) (hp' := hp) rfl ?_
        have ct : jcq K q n kk = true := by
          rcases Bool.eq_false_or_eq_true (jcan q.length (jpx q) (jpy q) (jpl_ K q) (jpm K q) n kk) with c | c
          · exact c
          · exact absurd (hpb.2 c) c33
        have z := ih (t + 1) (by omega) (by omega) (fun m a b => by
          by_cases e : m = t.toNat
          · rw [e, show ((t.toNat : Nat) : Int) = t by omega, ← hkk]; exact ct
          · exact hno m a (by omega)) (by omega)
        rw [show t + 1 - 1 = t - 1 + 1 by omega] at z
        exact z
theorem c_m_reachOf (hp : jm_H) (K : Int → Int → Int) (q : List jT) (i s : Int) (hV : jVm hp i s q.length (jpx q) (jpy q) (jpl_ K q) (jpm K q)) (hW : jWy q.length (jpx q) (jpy q) (jpl_ K q) (jpm K q)) (n : Int) (hn : 0 ≤ n ∧ n < q.length) : jm_Ev 177 0 [jR 56, jI i, jI n, jU, jU] [] hp (jK (some (jI (jrch K q n))) hp) := by
  have hN4 := hW.1
  have hN6 := hW.2.1
  obtain ⟨es, eN, s0, s60, hi, hpt⟩ := id hV
  refine jm_Ev.bl 3 (pc' := 5) (A' := [jR 56, jI i, jI n, jU, jU]) (st' := [jI i, jR 60]) (hp' := hp) rfl ?_
  refine jE_iald (n := 32) (f := hp 60) rfl rfl (by omega) ?_
  refine jE_top (w := (q.length : Int)) (eN) ?_
  refine jm_Ev.bl 3 (pc' := 10) (A' := [jR 56, jI i, jI n, jI (q.length : Int), jI 1]) (st' := []) (hp' := hp) rfl ?_
  exact c_m_reach_L hp K q i s hV hW n hn 61 2 (by omega) (by omega) (fun m a b => by omega) (by omega)
theorem c_m_areaT_2 (hp : jm_H) (K : Int → Int → Int) (q : List jT) (i s : Int) (hV : jVm hp i s q.length (jpx q) (jpy q) (jpl_ K q) (jpm K q)) (hW : jWy q.length (jpx q) (jpy q) (jpl_ K q) (jpm K q)) : ∀ (m : Nat) (n : Int), 0 ≤ n → n ≤ q.length → q.length - n < m → jm_Ev 173 68 [jR 56, jI i, jI 1, jI s, jI (q.length : Int), jI (s + jpr q.length n), jI (jarm (jpx q) (jpy q) q.length n.toNat), jI n] [] hp (jK (some (jI (jar q))) hp) := by
  have hN4 := hW.1
  have hN6 := hW.2.1
  obtain ⟨es, eN, s0, s60, hi, hpt⟩ := id hV
  intro fu
  induction fu with
  | zero => intro n h0 h1 hm; omega
  | succ fu ih =>
    intro n h0 h1 hm
    refine jm_Ev.bl 2 (pc' := 72) (A' := [jR 56, jI i, jI 1, jI s, jI (q.length : Int), jI (s + jpr q.length n), jI (jarm (jpx q) (jpy q) q.length n.toNat), jI n]) (st' := [jI (q.length : Int), jI n]) (hp' := hp) rfl ?_
    refine jE_icmp_ge rfl (by omega) (by omega) (fun c72 => ?_) (fun c72 => ?_)
    · refine jm_Ev.bl 1 (pc' := 146) (A' := [jR 56, jI i, jI 1, jI s, jI (q.length : Int), jI (s + jpr q.length n), jI (jarm (jpx q) (jpy q) q.length n.toNat), jI n]) (st' := [jI (jarm (jpx q) (jpy q) q.length n.toNat)]) (hp' := hp) rfl ?_
      exact jE_ret rfl ⟨jrI (by rw [show n = (q.length : Int) by omega, jarm_all (by omega)]; rfl), rfl⟩
    · refine jm_Ev.bl 1 (pc' := 76) (A' := [jR 56, jI i, jI 1, jI s, jI (q.length : Int), jI (s + jpr q.length n), jI (jarm (jpx q) (jpy q) q.length n.toNat), jI n]) (st' := [jI 1]) (hp' := hp) rfl ?_
      refine jE_if_ne rfl (by omega) (fun _ => ?_) (fun c76 => absurd c76 (by omega))
      have hpr : 0 ≤ jpr q.length n ∧ jpr q.length n < q.length := by unfold jpr; split <;> omega
      have p1 := hpt (jpr q.length n) hpr.1 hpr.2
      have p2 := hpt n (by omega) (by omega)
      refine jm_Ev.bl 4 (pc' := 100) (A' := [jR 56, jI i, jI 1, jI s, jI (q.length : Int), jI (s + jpr q.length n), jI (jarm (jpx q) (jpy q) q.length n.toNat), jI n]) (st' := [jI (s + jpr q.length n), jR 61, jI (jarm (jpx q) (jpy q) q.length n.toNat)]) (hp' := hp) rfl ?_
      refine jE_iald (n := 160) (f := hp 61) rfl rfl (by omega) ?_
      refine jE_top (w := (jpx q (jpr q.length n))) (p1.1) ?_
      refine jm_Ev.bl 5 (pc' := 109) (A' := [jR 56, jI i, jI 1, jI s, jI (q.length : Int), jI (s + jpr q.length n), jI (jarm (jpx q) (jpy q) q.length n.toNat), jI n]) (st' := [jI (s + n), jR 62, jI (jpx q (jpr q.length n)), jI (jarm (jpx q) (jpy q) q.length n.toNat)]) (hp' := hp) rfl ?_
      refine jE_iald (n := 160) (f := hp 62) rfl rfl (by omega) ?_
      refine jE_top (w := (jpy q n)) (p2.2.1) ?_
      refine jm_Ev.bl 6 (pc' := 119) (A' := [jR 56, jI i, jI 1, jI s, jI (q.length : Int), jI (s + jpr q.length n), jI (jarm (jpx q) (jpy q) q.length n.toNat), jI n]) (st' := [jI (s + n), jR 61, jI ((jpx q (jpr q.length n)) * (jpy q n)), jI (jarm (jpx q) (jpy q) q.length n.toNat)]) (hp' := hp) rfl ?_
      refine jE_iald (n := 160) (f := hp 61) rfl rfl (by omega) ?_
      refine jE_top (w := (jpx q n)) (p2.1) ?_
      refine jm_Ev.bl 3 (pc' := 126) (A' := [jR 56, jI i, jI 1, jI s, jI (q.length : Int), jI (s + jpr q.length n), jI (jarm (jpx q) (jpy q) q.length n.toNat), jI n]) (st' := [jI (s + jpr q.length n), jR 62, jI (jpx q n), jI ((jpx q (jpr q.length n)) * (jpy q n)), jI (jarm (jpx q) (jpy q) q.length n.toNat)]) (hp' := hp) rfl ?_
      refine jE_iald (n := 160) (f := hp 62) rfl rfl (by omega) ?_
      refine jE_top (w := (jpy q (jpr q.length n))) (p1.2.1) ?_
      refine jm_Ev.bl 4 (pc' := 132) (A' := [jR 56, jI i, jI 1, jI s, jI (q.length : Int), jI (s + jpr q.length n), jI ((jarm (jpx q) (jpy q) q.length n.toNat) + (((jpx q (jpr q.length n)) * (jpy q n)) - ((jpx q n) * (jpy q (jpr q.length n))))), jI n]) (st' := []) (hp' := hp) rfl ?_
      rw [← jarm_s (by omega)]
      refine jm_Ev.bl 6 (pc' := 68) (A' := [jR 56, jI i, jI 1, jI s, jI (q.length : Int), jI (s + n), jI (jarm (jpx q) (jpy q) q.length (n + 1).toNat), jI (n + 1)]) (st' := []) (hp' := hp) rfl ?_
      have z := ih (n + 1) (by omega) (by omega) (by omega)
      rw [show s + jpr q.length (n + 1) = s + n by unfold jpr; rw [if_neg (by omega)]; omega] at z
      exact z
theorem c_m_areaT_1 (hp : jm_H) (K : Int → Int → Int) (q : List jT) (i s : Int) (hV : jVm hp i s q.length (jpx q) (jpy q) (jpl_ K q) (jpm K q)) (hW : jWy q.length (jpx q) (jpy q) (jpl_ K q) (jpm K q)) : ∀ (m : Nat) (n l : Int), 0 ≤ n → n ≤ q.length → (0 < n → l = s + n - 1) → q.length - n < m → jm_Ev 173 21 [jR 56, jI i, jI 1, jI s, jI (q.length : Int), jI l, jI n, jU] [] hp (jK (some (jI (jar q))) hp) := by
  have hN4 := hW.1
  have hN6 := hW.2.1
  obtain ⟨es, eN, s0, s60, hi, hpt⟩ := id hV
  intro fu
  induction fu with
  | zero => intro n l h0 h1 hl hm; omega
  | succ fu ih =>
    intro n l h0 h1 hl hm
    refine jm_Ev.bl 2 (pc' := 25) (A' := [jR 56, jI i, jI 1, jI s, jI (q.length : Int), jI l, jI n, jU]) (st' := [jI (q.length : Int), jI n]) (hp' := hp) rfl ?_
    refine jE_icmp_ge rfl (by omega) (by omega) (fun c25 => ?_) (fun c25 => ?_)
    · refine jm_Ev.bl 4 (pc' := 68) (A' := [jR 56, jI i, jI 1, jI s, jI (q.length : Int), jI l, jI 0, jI 0]) (st' := []) (hp' := hp) rfl ?_
      have z := c_m_areaT_2 hp K q i s hV hW 61 0 (by omega) (by omega) (by omega)
      rw [show s + jpr q.length 0 = l by rw [hl (by omega)]; unfold jpr; rw [if_pos rfl]; omega] at z
      exact z
    · refine jm_Ev.bl 1 (pc' := 29) (A' := [jR 56, jI i, jI 1, jI s, jI (q.length : Int), jI l, jI n, jU]) (st' := [jI 1]) (hp' := hp) rfl ?_
      refine jE_if_ne rfl (by omega) (fun _ => ?_) (fun c29 => absurd c29 (by omega))
      refine jm_Ev.bl 7 (pc' := 21) (A' := [jR 56, jI i, jI 1, jI s, jI (q.length : Int), jI (s + n), jI (n + 1), jU]) (st' := []) (hp' := hp) rfl ?_
      exact ih (n + 1) (s + n) (by omega) (by omega) (fun _ => by omega) (by omega)
theorem c_m_areaT (hp : jm_H) (K : Int → Int → Int) (q : List jT) (i s : Int) (hV : jVm hp i s q.length (jpx q) (jpy q) (jpl_ K q) (jpm K q)) (hW : jWy q.length (jpx q) (jpy q) (jpl_ K q) (jpm K q)) : jm_Ev 173 0 [jR 56, jI i, jI 1, jU, jU, jU, jU, jU] [] hp (jK (some (jI (jar q))) hp) := by
  have hN4 := hW.1
  have hN6 := hW.2.1
  obtain ⟨es, eN, s0, s60, hi, hpt⟩ := id hV
  refine jm_Ev.bl 3 (pc' := 5) (A' := [jR 56, jI i, jI 1, jU, jU, jU, jU, jU]) (st' := [jI i, jR 59]) (hp' := hp) rfl ?_
  refine jE_iald (n := 32) (f := hp 59) rfl rfl (by omega) ?_
  refine jE_top (w := s) (es) ?_
  refine jm_Ev.bl 4 (pc' := 12) (A' := [jR 56, jI i, jI 1, jI s, jU, jU, jU, jU]) (st' := [jI i, jR 60]) (hp' := hp) rfl ?_
  refine jE_iald (n := 32) (f := hp 60) rfl rfl (by omega) ?_
  refine jE_top (w := (q.length : Int)) (eN) ?_
  refine jm_Ev.bl 5 (pc' := 21) (A' := [jR 56, jI i, jI 1, jI s, jI (q.length : Int), jI (-1), jI 0, jU]) (st' := []) (hp' := hp) rfl ?_
  exact c_m_areaT_1 hp K q i s hV hW 61 0 (-1) (by omega) (by omega) (fun z => by omega) (by omega)
theorem c_m_areaF_2 (hp : jm_H) (K : Int → Int → Int) (q : List jT) (i s : Int) (hV : jVm hp i s q.length (jpx q) (jpy q) (jpl_ K q) (jpm K q)) (hW : jWy q.length (jpx q) (jpy q) (jpl_ K q) (jpm K q)) (hPw : jPw q.length (jPP K q)) (hch : ∀ x : Int, 0 ≤ x → x < q.length → hp 65 (s + x) = jb (jchk (jkq K q) (jlq K q).toNat x)) : ∀ (m : Nat) (n r : Int), 0 ≤ n → n ≤ q.length → jIr (jkq K q) (jlq K q) n r → q.length - n < m → jm_Ev 173 68 [jR 56, jI i, jI 0, jI s, jI (q.length : Int), jI (s + jkq K q (jpr (jlq K q) r)), jI (jarm (fun n => jpx q (jkq K q n)) (fun n => jpy q (jkq K q n)) (jlq K q) r.toNat), jI n] [] hp (jK (some (jI (jaq K q))) hp) := by
  have hN4 := hW.1
  have hN6 := hW.2.1
  obtain ⟨es, eN, s0, s60, hi, hpt⟩ := id hV
  have hlr := jlq_r hPw
  have hinc : ∀ n, 0 ≤ n → n + 1 < jlq K q → jkq K q n < jkq K q (n + 1) := fun n a b => (jkq_r hPw a (by omega)).2.2 b
  have hkr : ∀ n, 0 ≤ n → n < jlq K q → 0 ≤ jkq K q n ∧ jkq K q n < q.length := fun n a b => ⟨(jkq_r hPw a b).1, (jkq_r hPw a b).2.1⟩
  intro fu
  induction fu with
  | zero => intro n r h0 h1 hir hm; omega
  | succ fu ih =>
    intro n r h0 h1 hir hm
    refine jm_Ev.bl 2 (pc' := 72) (A' := [jR 56, jI i, jI 0, jI s, jI (q.length : Int), jI (s + jkq K q (jpr (jlq K q) r)), jI (jarm (fun n => jpx q (jkq K q n)) (fun n => jpy q (jkq K q n)) (jlq K q) r.toNat), jI n]) (st' := [jI (q.length : Int), jI n]) (hp' := hp) rfl ?_
    refine jE_icmp_ge rfl (by omega) (by omega) (fun c72 => ?_) (fun c72 => ?_)
    · refine jm_Ev.bl 1 (pc' := 146) (A' := [jR 56, jI i, jI 0, jI s, jI (q.length : Int), jI (s + jkq K q (jpr (jlq K q) r)), jI (jarm (fun n => jpx q (jkq K q n)) (fun n => jpy q (jkq K q n)) (jlq K q) r.toNat), jI n]) (st' := [jI (jarm (fun n => jpx q (jkq K q n)) (fun n => jpy q (jkq K q n)) (jlq K q) r.toNat)]) (hp' := hp) rfl ?_
      have er := jIr_N (show jIr (jkq K q) (jlq K q) q.length r by rw [show (q.length : Int) = n by omega]; exact hir) (fun k a b => (hkr k a b).2)
      exact jE_ret rfl ⟨jrI (by rw [er, jarm_all (by omega)]; rfl), rfl⟩
    · refine jm_Ev.bl 1 (pc' := 76) (A' := [jR 56, jI i, jI 0, jI s, jI (q.length : Int), jI (s + jkq K q (jpr (jlq K q) r)), jI (jarm (fun n => jpx q (jkq K q n)) (fun n => jpy q (jkq K q n)) (jlq K q) r.toNat), jI n]) (st' := [jI 0]) (hp' := hp) rfl ?_
      refine jE_if_ne rfl (by omega) (fun c76 => absurd c76 (by omega)) (fun _ => ?_)
      refine jm_Ev.bl 5 (pc' := 87) (A' := [jR 56, jI i, jI 0, jI s, jI (q.length : Int), jI (s + jkq K q (jpr (jlq K q) r)), jI (jarm (fun n => jpx q (jkq K q n)) (fun n => jpy q (jkq K q n)) (jlq K q) r.toNat), jI n]) (st' := [jI (s + n), jR 65]) (hp' := hp) rfl ?_
      refine jE_iald (n := 160) (f := hp 65) rfl rfl (by omega) ?_
      refine jE_top (w := (jb (jchk (jkq K q) (jlq K q).toNat n))) (hch n (by omega) (by omega)) ?_
      have hjb := jb_le (jchk (jkq K q) (jlq K q).toNat n)
      refine jm_Ev.bl 1 (pc' := 89) (A' := [jR 56, jI i, jI 0, jI s, jI (q.length : Int), jI (s + jkq K q (jpr (jlq K q) r)), jI (jarm (fun n => jpx q (jkq K q n)) (fun n => jpy q (jkq K q n)) (jlq K q) r.toNat), jI n]) (st' := [jI 1, jI (jb (jchk (jkq K q) (jlq K q).toNat n))]) (hp' := hp) rfl ?_
      refine jE_icmp_ne rfl (by omega) (by omega) (fun c89 => ?_) (fun c89 => ?_)
      · refine jm_Ev.bl 2 (pc' := 68) (A' := [jR 56, jI i, jI 0, jI s, jI (q.length : Int), jI (s + jkq K q (jpr (jlq K q) r)), jI (jarm (fun n => jpx q (jkq K q n)) (fun n => jpy q (jkq K q n)) (jlq K q) r.toNat), jI (n + 1)]) (st' := []) (hp' := hp) rfl ?_
        exact ih (n + 1) r (by omega) (by omega) (jIr_f hir (jb_nt c89)) (by omega)
      · obtain ⟨r1, r2, r3⟩ := jIr_t hinc hir (jb_1 c89)
        have hr0 := hir.1
        have hpr : 0 ≤ jpr (jlq K q) r ∧ jpr (jlq K q) r < jlq K q := by unfold jpr; split <;> omega
        have hk1 := hkr (jpr (jlq K q) r) hpr.1 hpr.2
        have p1 := hpt (jkq K q (jpr (jlq K q) r)) hk1.1 hk1.2
        have p2 := hpt n (by omega) (by omega)
        refine jm_Ev.bl 4 (pc' := 100) (A' := [jR 56, jI i, jI 0, jI s, jI (q.length : Int), jI (s + jkq K q (jpr (jlq K q) r)), jI (jarm (fun n => jpx q (jkq K q n)) (fun n => jpy q (jkq K q n)) (jlq K q) r.toNat), jI n]) (st' := [jI (s + jkq K q (jpr (jlq K q) r)), jR 61, jI (jarm (fun n => jpx q (jkq K q n)) (fun n => jpy q (jkq K q n)) (jlq K q) r.toNat)]) (hp' := hp) rfl ?_
        refine jE_iald (n := 160) (f := hp 61) rfl rfl (by omega) ?_
        refine jE_top (w := (jpx q (jkq K q (jpr (jlq K q) r)))) (p1.1) ?_
        refine jm_Ev.bl 5 (pc' := 109) (A' := [jR 56, jI i, jI 0, jI s, jI (q.length : Int), jI (s + jkq K q (jpr (jlq K q) r)), jI (jarm (fun n => jpx q (jkq K q n)) (fun n => jpy q (jkq K q n)) (jlq K q) r.toNat), jI n]) (st' := [jI (s + n), jR 62, jI (jpx q (jkq K q (jpr (jlq K q) r))), jI (jarm (fun n => jpx q (jkq K q n)) (fun n => jpy q (jkq K q n)) (jlq K q) r.toNat)]) (hp' := hp) rfl ?_
        refine jE_iald (n := 160) (f := hp 62) rfl rfl (by omega) ?_
        refine jE_top (w := (jpy q n)) (p2.2.1) ?_
        refine jm_Ev.bl 6 (pc' := 119) (A' := [jR 56, jI i, jI 0, jI s, jI (q.length : Int), jI (s + jkq K q (jpr (jlq K q) r)), jI (jarm (fun n => jpx q (jkq K q n)) (fun n => jpy q (jkq K q n)) (jlq K q) r.toNat), jI n]) (st' := [jI (s + n), jR 61, jI ((jpx q (jkq K q (jpr (jlq K q) r))) * (jpy q n)), jI (jarm (fun n => jpx q (jkq K q n)) (fun n => jpy q (jkq K q n)) (jlq K q) r.toNat)]) (hp' := hp) rfl ?_
        refine jE_iald (n := 160) (f := hp 61) rfl rfl (by omega) ?_
        refine jE_top (w := (jpx q n)) (p2.1) ?_
        refine jm_Ev.bl 3 (pc' := 126) (A' := [jR 56, jI i, jI 0, jI s, jI (q.length : Int), jI (s + jkq K q (jpr (jlq K q) r)), jI (jarm (fun n => jpx q (jkq K q n)) (fun n => jpy q (jkq K q n)) (jlq K q) r.toNat), jI n]) (st' := [jI (s + jkq K q (jpr (jlq K q) r)), jR 62, jI (jpx q n), jI ((jpx q (jkq K q (jpr (jlq K q) r))) * (jpy q n)), jI (jarm (fun n => jpx q (jkq K q n)) (fun n => jpy q (jkq K q n)) (jlq K q) r.toNat)]) (hp' := hp) rfl ?_
        refine jE_iald (n := 160) (f := hp 62) rfl rfl (by omega) ?_
        refine jE_top (w := (jpy q (jkq K q (jpr (jlq K q) r)))) (p1.2.1) ?_
        refine jm_Ev.bl 4 (pc' := 132) (A' := [jR 56, jI i, jI 0, jI s, jI (q.length : Int), jI (s + jkq K q (jpr (jlq K q) r)), jI ((jarm (fun n => jpx q (jkq K q n)) (fun n => jpy q (jkq K q n)) (jlq K q) r.toNat) + (((jpx q (jkq K q (jpr (jlq K q) r))) * (jpy q n)) - ((jpx q n) * (jpy q (jkq K q (jpr (jlq K q) r)))))), jI n]) (st' := []) (hp' := hp) rfl ?_
        have js := jarm_s (X := (fun n => jpx q (jkq K q n))) (Y := (fun n => jpy q (jkq K q n))) (N := jlq K q) (n := r) hr0
        rw [r2] at js
        rw [← js]
        refine jm_Ev.bl 6 (pc' := 68) (A' := [jR 56, jI i, jI 0, jI s, jI (q.length : Int), jI (s + n), jI (jarm (fun n => jpx q (jkq K q n)) (fun n => jpy q (jkq K q n)) (jlq K q) (r + 1).toNat), jI (n + 1)]) (st' := []) (hp' := hp) rfl ?_
        have z := ih (n + 1) (r + 1) (by omega) (by omega) r3 (by omega)
        rw [show s + jkq K q (jpr (jlq K q) (r + 1)) = s + n by unfold jpr; rw [if_neg (by omega), show r + 1 - 1 = r by omega, r2]] at z
        exact z
theorem c_m_areaF_1 (hp : jm_H) (K : Int → Int → Int) (q : List jT) (i s : Int) (hV : jVm hp i s q.length (jpx q) (jpy q) (jpl_ K q) (jpm K q)) (hW : jWy q.length (jpx q) (jpy q) (jpl_ K q) (jpm K q)) (hPw : jPw q.length (jPP K q)) (hch : ∀ x : Int, 0 ≤ x → x < q.length → hp 65 (s + x) = jb (jchk (jkq K q) (jlq K q).toNat x)) : ∀ (m : Nat) (n r l : Int), 0 ≤ n → n ≤ q.length → jIr (jkq K q) (jlq K q) n r → (0 < r → l = s + jkq K q (r - 1)) → q.length - n < m → jm_Ev 173 21 [jR 56, jI i, jI 0, jI s, jI (q.length : Int), jI l, jI n, jU] [] hp (jK (some (jI (jaq K q))) hp) := by
  have hN4 := hW.1
  have hN6 := hW.2.1
  obtain ⟨es, eN, s0, s60, hi, hpt⟩ := id hV
  have hlr := jlq_r hPw
  have hinc : ∀ n, 0 ≤ n → n + 1 < jlq K q → jkq K q n < jkq K q (n + 1) := fun n a b => (jkq_r hPw a (by omega)).2.2 b
  have hkr : ∀ n, 0 ≤ n → n < jlq K q → 0 ≤ jkq K q n ∧ jkq K q n < q.length := fun n a b => ⟨(jkq_r hPw a b).1, (jkq_r hPw a b).2.1⟩
  intro fu
  induction fu with
  | zero => intro n r l h0 h1 hir hl hm; omega
  | succ fu ih =>
    intro n r l h0 h1 hir hl hm
    refine jm_Ev.bl 2 (pc' := 25) (A' := [jR 56, jI i, jI 0, jI s, jI (q.length : Int), jI l, jI n, jU]) (st' := [jI (q.length : Int), jI n]) (hp' := hp) rfl ?_
    refine jE_icmp_ge rfl (by omega) (by omega) (fun c25 => ?_) (fun c25 => ?_)
    · refine jm_Ev.bl 4 (pc' := 68) (A' := [jR 56, jI i, jI 0, jI s, jI (q.length : Int), jI l, jI 0, jI 0]) (st' := []) (hp' := hp) rfl ?_
      have er := jIr_N (show jIr (jkq K q) (jlq K q) q.length r by rw [show (q.length : Int) = n by omega]; exact hir) (fun k a b => (hkr k a b).2)
      have z := c_m_areaF_2 hp K q i s hV hW hPw hch 61 0 0 (by omega) (by omega) ⟨by omega, by omega, fun k a b => by omega, fun k a b => (hkr k a b).1⟩ (by omega)
      rw [show s + jkq K q (jpr (jlq K q) 0) = l by rw [hl (by omega), er]; unfold jpr; rw [if_pos rfl]] at z
      exact z
    · refine jm_Ev.bl 1 (pc' := 29) (A' := [jR 56, jI i, jI 0, jI s, jI (q.length : Int), jI l, jI n, jU]) (st' := [jI 0]) (hp' := hp) rfl ?_
      refine jE_if_ne rfl (by omega) (fun c29 => absurd c29 (by omega)) (fun _ => ?_)
      refine jm_Ev.bl 5 (pc' := 40) (A' := [jR 56, jI i, jI 0, jI s, jI (q.length : Int), jI l, jI n, jU]) (st' := [jI (s + n), jR 65]) (hp' := hp) rfl ?_
      refine jE_iald (n := 160) (f := hp 65) rfl rfl (by omega) ?_
      refine jE_top (w := (jb (jchk (jkq K q) (jlq K q).toNat n))) (hch n (by omega) (by omega)) ?_
      have hjb := jb_le (jchk (jkq K q) (jlq K q).toNat n)
      refine jm_Ev.bl 1 (pc' := 42) (A' := [jR 56, jI i, jI 0, jI s, jI (q.length : Int), jI l, jI n, jU]) (st' := [jI 1, jI (jb (jchk (jkq K q) (jlq K q).toNat n))]) (hp' := hp) rfl ?_
      refine jE_icmp_ne rfl (by omega) (by omega) (fun c42 => ?_) (fun c42 => ?_)
      · refine jm_Ev.bl 4 (pc' := 21) (A' := [jR 56, jI i, jI 0, jI s, jI (q.length : Int), jI l, jI (n + 1), jU]) (st' := []) (hp' := hp) rfl ?_
        exact ih (n + 1) r l (by omega) (by omega) (jIr_f hir (jb_nt c42)) hl (by omega)
      · refine jm_Ev.bl 7 (pc' := 21) (A' := [jR 56, jI i, jI 0, jI s, jI (q.length : Int), jI (s + n), jI (n + 1), jU]) (st' := []) (hp' := hp) rfl ?_
        obtain ⟨r1, r2, r3⟩ := jIr_t hinc hir (jb_1 c42)
        exact ih (n + 1) (r + 1) (s + n) (by omega) (by omega) r3 (fun _ => by rw [show r + 1 - 1 = r by omega, r2]) (by omega)
theorem c_m_areaF (hp : jm_H) (K : Int → Int → Int) (q : List jT) (i s : Int) (hV : jVm hp i s q.length (jpx q) (jpy q) (jpl_ K q) (jpm K q)) (hW : jWy q.length (jpx q) (jpy q) (jpl_ K q) (jpm K q)) (hPw : jPw q.length (jPP K q)) (hch : ∀ x : Int, 0 ≤ x → x < q.length → hp 65 (s + x) = jb (jchk (jkq K q) (jlq K q).toNat x)) : jm_Ev 173 0 [jR 56, jI i, jI 0, jU, jU, jU, jU, jU] [] hp (jK (some (jI (jaq K q))) hp) := by
  have hN4 := hW.1
  have hN6 := hW.2.1
  obtain ⟨es, eN, s0, s60, hi, hpt⟩ := id hV
  have hlr := jlq_r hPw
  have hinc : ∀ n, 0 ≤ n → n + 1 < jlq K q → jkq K q n < jkq K q (n + 1) := fun n a b => (jkq_r hPw a (by omega)).2.2 b
  have hkr : ∀ n, 0 ≤ n → n < jlq K q → 0 ≤ jkq K q n ∧ jkq K q n < q.length := fun n a b => ⟨(jkq_r hPw a b).1, (jkq_r hPw a b).2.1⟩
  refine jm_Ev.bl 3 (pc' := 5) (A' := [jR 56, jI i, jI 0, jU, jU, jU, jU, jU]) (st' := [jI i, jR 59]) (hp' := hp) rfl ?_
  refine jE_iald (n := 32) (f := hp 59) rfl rfl (by omega) ?_
  refine jE_top (w := s) (es) ?_
  refine jm_Ev.bl 4 (pc' := 12) (A' := [jR 56, jI i, jI 0, jI s, jU, jU, jU, jU]) (st' := [jI i, jR 60]) (hp' := hp) rfl ?_
  refine jE_iald (n := 32) (f := hp 60) rfl rfl (by omega) ?_
  refine jE_top (w := (q.length : Int)) (eN) ?_
  refine jm_Ev.bl 5 (pc' := 21) (A' := [jR 56, jI i, jI 0, jI s, jI (q.length : Int), jI (-1), jI 0, jU]) (st' := []) (hp' := hp) rfl ?_
  exact c_m_areaF_1 hp K q i s hV hW hPw hch 61 0 0 (-1) (by omega) (by omega) ⟨by omega, by omega, fun k a b => by omega, fun k a b => (hkr k a b).1⟩ (fun z => by omega) (by omega)
theorem c_m_corner_L (hp : jm_H) (K : Int → Int → Int) (q : List jT) (i s : Int) (hV : jVm hp i s q.length (jpx q) (jpy q) (jpl_ K q) (jpm K q)) (hW : jWy q.length (jpx q) (jpy q) (jpl_ K q) (jpm K q)) (hPw : jPw q.length (jPP K q)) (hch : ∀ x : Int, 0 ≤ x → x < q.length → hp 65 (s + x) = jb (jchk (jkq K q) (jlq K q).toNat x)) (c : Int) (hcr : 0 ≤ c ∧ c < jlq K q) : ∀ (m : Nat) (n r : Int), 0 ≤ n → jIr (jkq K q) (jlq K q) n r → r ≤ c → q.length - n < m → jm_Ev 183 5 [jR 56, jI i, jI c, jI (c - r), jI n] [] hp (jK (some (jI (jkq K q c))) hp) := by
  have hN4 := hW.1
  have hN6 := hW.2.1
  obtain ⟨es, eN, s0, s60, hi, hpt⟩ := id hV
  have hlr := jlq_r hPw
  have hinc : ∀ n, 0 ≤ n → n + 1 < jlq K q → jkq K q n < jkq K q (n + 1) := fun n a b => (jkq_r hPw a (by omega)).2.2 b
  have hkr : ∀ n, 0 ≤ n → n < jlq K q → 0 ≤ jkq K q n ∧ jkq K q n < q.length := fun n a b => ⟨(jkq_r hPw a b).1, (jkq_r hPw a b).2.1⟩
  intro fu
  induction fu with
  | zero => intro n r h0 hir hrc hm; have a := hir.2.2.2 r (by omega) (by omega); have b := hir.1; have d := hkr r b (by omega); omega
  | succ fu ih =>
    intro n r h0 hir hrc hm
    have hrS0 := hir.1
    refine jm_Ev.bl 1 (pc' := 6) (A' := [jR 56, jI i, jI c, jI (c - r), jI n]) (st' := [jI (c - r)]) (hp' := hp) rfl ?_
    refine jE_if_gt rfl (by omega) (fun c6 => ?_) (fun c6 => ?_)
    · have hrS := hir.1
      have hnw := hir.2.2.2 r (by omega) (by omega)
      have hkrr := hkr r (by omega) (by omega)
      refine jm_Ev.bl 6 (pc' := 36) (A' := [jR 56, jI i, jI c, jI (c - r), jI n]) (st' := [jI i, jR 59, jR 65, jI (c - r)]) (hp' := hp) rfl ?_
      refine jE_iald (n := 32) (f := hp 59) rfl rfl (by omega) ?_
      refine jE_top (w := s) (es) ?_
      refine jm_Ev.bl 2 (pc' := 40) (A' := [jR 56, jI i, jI c, jI (c - r), jI n]) (st' := [jI (s + n), jR 65, jI (c - r)]) (hp' := hp) rfl ?_
      refine jE_iald (n := 160) (f := hp 65) rfl rfl (by omega) ?_
      refine jE_top (w := (jb (jchk (jkq K q) (jlq K q).toNat n))) (hch n (by omega) (by omega)) ?_
      have hjb := jb_le (jchk (jkq K q) (jlq K q).toNat n)
      refine jm_Ev.bl 4 (pc' := 5) (A' := [jR 56, jI i, jI c, jI ((c - r) - (jb (jchk (jkq K q) (jlq K q).toNat n))), jI (n + 1)]) (st' := []) (hp' := hp) rfl ?_
      cases hc : jchk (jkq K q) (jlq K q).toNat n
      · have z := ih (n + 1) r (by omega) (jIr_f hir hc) (by omega) (by omega)
        rw [show c - r = c - r - jb false by show c - r = c - r - 0; omega] at z
        exact z
      · obtain ⟨r1, r2, r3⟩ := jIr_t hinc hir hc
        have z := ih (n + 1) (r + 1) (by omega) r3 (by omega) (by omega)
        rw [show c - (r + 1) = c - r - jb true by show c - (r + 1) = c - r - 1; omega] at z
        exact z
    · have hrS := hir.1
      have hnw := hir.2.2.2 r (by omega) (by omega)
      have hkrr := hkr r (by omega) (by omega)
      refine jm_Ev.bl 5 (pc' := 18) (A' := [jR 56, jI i, jI c, jI (c - r), jI n]) (st' := [jI i, jR 59, jR 65]) (hp' := hp) rfl ?_
      refine jE_iald (n := 32) (f := hp 59) rfl rfl (by omega) ?_
      refine jE_top (w := s) (es) ?_
      refine jm_Ev.bl 2 (pc' := 22) (A' := [jR 56, jI i, jI c, jI (c - r), jI n]) (st' := [jI (s + n), jR 65]) (hp' := hp) rfl ?_
      refine jE_iald (n := 160) (f := hp 65) rfl rfl (by omega) ?_
      refine jE_top (w := (jb (jchk (jkq K q) (jlq K q).toNat n))) (hch n (by omega) (by omega)) ?_
      have hjb := jb_le (jchk (jkq K q) (jlq K q).toNat n)
      refine jE_if_ne rfl (by omega) (fun c23 => ?_) (fun c23 => ?_)
      · refine jm_Ev.bl 1 (pc' := 51) (A' := [jR 56, jI i, jI c, jI (c - r), jI n]) (st' := [jI n]) (hp' := hp) rfl ?_
        obtain ⟨r1, r2, r3⟩ := jIr_t hinc hir (by cases hc : jchk (jkq K q) (jlq K q).toNat n; exact absurd (by rw [hc]; rfl) c23; rfl)
        exact jE_ret rfl ⟨jrI (by rw [← r2, show r = c by omega]), rfl⟩
      · have hrS := hir.1
        have hnw := hir.2.2.2 r (by omega) (by omega)
        have hkrr := hkr r (by omega) (by omega)
        refine jm_Ev.bl 6 (pc' := 36) (A' := [jR 56, jI i, jI c, jI (c - r), jI n]) (st' := [jI i, jR 59, jR 65, jI (c - r)]) (hp' := hp) rfl ?_
        refine jE_iald (n := 32) (f := hp 59) rfl rfl (by omega) ?_
        refine jE_top (w := s) (es) ?_
        refine jm_Ev.bl 2 (pc' := 40) (A' := [jR 56, jI i, jI c, jI (c - r), jI n]) (st' := [jI (s + n), jR 65, jI (c - r)]) (hp' := hp) rfl ?_
        refine jE_iald (n := 160) (f := hp 65) rfl rfl (by omega) ?_
        refine jE_top (w := (jb (jchk (jkq K q) (jlq K q).toNat n))) (hch n (by omega) (by omega)) ?_
        have hjb := jb_le (jchk (jkq K q) (jlq K q).toNat n)
        refine jm_Ev.bl 4 (pc' := 5) (A' := [jR 56, jI i, jI c, jI ((c - r) - (jb (jchk (jkq K q) (jlq K q).toNat n))), jI (n + 1)]) (st' := []) (hp' := hp) rfl ?_
        cases hc : jchk (jkq K q) (jlq K q).toNat n
        · have z := ih (n + 1) r (by omega) (jIr_f hir hc) (by omega) (by omega)
          rw [show c - r = c - r - jb false by show c - r = c - r - 0; omega] at z
          exact z
        · obtain ⟨r1, r2, r3⟩ := jIr_t hinc hir hc
          have z := ih (n + 1) (r + 1) (by omega) r3 (by rw [hc] at c23; exact absurd c23 (by decide)) (by omega)
          rw [show c - (r + 1) = c - r - jb true by show c - (r + 1) = c - r - 1; omega] at z
          exact z
theorem c_m_cornerOf (hp : jm_H) (K : Int → Int → Int) (q : List jT) (i s : Int) (hV : jVm hp i s q.length (jpx q) (jpy q) (jpl_ K q) (jpm K q)) (hW : jWy q.length (jpx q) (jpy q) (jpl_ K q) (jpm K q)) (hPw : jPw q.length (jPP K q)) (hch : ∀ x : Int, 0 ≤ x → x < q.length → hp 65 (s + x) = jb (jchk (jkq K q) (jlq K q).toNat x)) (c : Int) (hcr : 0 ≤ c ∧ c < jlq K q) : jm_Ev 183 0 [jR 56, jI i, jI c, jU, jU] [] hp (jK (some (jI (jkq K q c))) hp) := by
  have hN4 := hW.1
  have hN6 := hW.2.1
  obtain ⟨es, eN, s0, s60, hi, hpt⟩ := id hV
  have hlr := jlq_r hPw
  have hinc : ∀ n, 0 ≤ n → n + 1 < jlq K q → jkq K q n < jkq K q (n + 1) := fun n a b => (jkq_r hPw a (by omega)).2.2 b
  have hkr : ∀ n, 0 ≤ n → n < jlq K q → 0 ≤ jkq K q n ∧ jkq K q n < q.length := fun n a b => ⟨(jkq_r hPw a b).1, (jkq_r hPw a b).2.1⟩
  refine jm_Ev.bl 4 (pc' := 5) (A' := [jR 56, jI i, jI c, jI c, jI 0]) (st' := []) (hp' := hp) rfl ?_
  have z := c_m_corner_L hp K q i s hV hW hPw hch c hcr 61 0 0 (by omega) ⟨by omega, by omega, fun k a b => by omega, fun k a b => (hkr k a b).1⟩ (by omega) (by omega)
  rw [show c - 0 = c by omega] at z
  exact z
