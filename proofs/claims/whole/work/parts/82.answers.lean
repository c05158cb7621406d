/-! answers of one outline, of one point; the class -/
def jar (q : List jT) : Int := jars (jpx q) (jpy q) q.length q.length
def jmc (K : Int → Int → Int) (q : List jT) : Nat → Int
  | 0 => 0
  | k + 1 => jmc K q k + jpm K q (k : Int)
theorem jmc_s {K : Int → Int → Int} {q : List jT} {n : Int} (h : 0 ≤ n) : jmc K q (n + 1).toNat = jmc K q n.toNat + jpm K q n := by
  have e : (n + 1).toNat = n.toNat + 1 := by omega
  have e2 : ((n.toNat : Nat) : Int) = n := by omega
  rw [e]
  conv => lhs; unfold jmc
  rw [e2]
def jcq (K : Int → Int → Int) (q : List jT) (a b : Int) : Bool := jcan q.length (jpx q) (jpy q) (jpl_ K q) (jpm K q) a b
def jrch (K : Int → Int → Int) (q : List jT) (n : Int) : Int := (jfind (fun s => !(jcq K q n (jwr q.length (n + (s : Int))))) ((q.length : Int) - 3).toNat 2 : Nat) - 1
def jto (K : Int → Int → Int) (q : List jT) (w : Int) : Int := if w = 0 then (q.length : Int) else if w = 1 then (if jar q < 0 then 1 else 0) else if w = 2 then jlq K q else if w = 3 then jbq K q else if w = 4 then ((jaq K q).natAbs : Int) else if w = 5 then ((jar q).natAbs : Int) else jmc K q q.length
def jtp (K : Int → Int → Int) (q : List jT) (n w : Int) : Int := if w = 0 then 10 * jpx q n + jpy q n else if w = 1 then jpl_ K q n else if w = 2 then jpm K q n else if w = 3 then jrch K q n else jb (jchk (jkq K q) (jlq K q).toNat n)
def jan (hp : jm_H) (K : Int → Int → Int) (O : List (List jT)) (v : Int) : Option jm_V → jm_H → Prop := fun rv h => rv = some (jI v) ∧ jCl h K O ∧ jFr hp h [31, 32, 33, 34, 35, 36, 37, 38, 39, 40, 41, 42]
def jho (O : List (List jT)) : Nat → Int
  | 0 => 0
  | i + 1 => jho O i + (if jar ((O[i]?).getD []) < 0 then 1 else 0)
theorem jho_s {O : List (List jT)} {i : Nat} {q : List jT} (h : O[i]? = some q) : jho O (i + 1) = jho O i + (if jar q < 0 then 1 else 0) := by
  show jho O i + (if jar ((O[i]?).getD []) < 0 then 1 else 0) = _
  rw [h]
  rfl
theorem jar_r {K : Int → Int → Int} {q : List jT} (hW : jWy q.length (jpx q) (jpy q) (jpl_ K q) (jpm K q)) : -1500 ≤ jar q ∧ jar q ≤ 1500 := by
  have a := jars_r (X := jpx q) (Y := jpy q) (N := q.length) (fun n a b => (hW.2.2 n a b).1) (fun n a b => (hW.2.2 n a b).2.1) q.length (by omega)
  have := hW.2.1
  unfold jar
  omega
theorem c_o_areaOf (hp : jm_H) (K : Int → Int → Int) (O : List (List jT)) (hC : jCl hp K O) (i : Nat) (q : List jT) (hq : O[i]? = some q) : jm_Ev 63 0 [jR 20, jI (i : Int)] [] hp (jK (some (jI (jar q))) hp) := by
  obtain ⟨hK, hI, hO, hA⟩ := id hC
  have hW := jOw hK hI hq
  have hPw := jOP hK hI hq
  have hV := jVo_of_20 hK hI hO hq
  have hl := jOs hK hI hq
  have hcv := hO.2 i q hq
  have hO0 := hO.1
  have hN4 := hW.1
  have hN6 := hW.2.1
  obtain ⟨es, eN, s0, s60, hi, hpt⟩ := id hV
  refine jm_Ev.bl 2 (pc' := 2) (A' := [jR 20, jI (i : Int)]) (st' := [jI (i : Int), jR 20]) (hp' := hp) rfl ?_
  refine jE_callI (vs := [jR 20, jI (i : Int)]) (r := []) (nx := 5) (v := jI (jb (decide (0 ≤ (i : Int) ∧ (i : Int) < hp 20 0)))) (hp1 := hp) rfl (c_o_has_20 hp (by omega) i (by omega)) ?_
  refine jE_ifd_eq rfl (fun c5 => ?_) (fun c5 => ?_)
  · exact absurd (show 0 ≤ (i : Int) ∧ (i : Int) < hp 20 0 by omega) c5
  · refine jm_Ev.bl 3 (pc' := 13) (A' := [jR 20, jI (i : Int)]) (st' := [jI (i : Int), jR 23]) (hp' := hp) rfl ?_
    refine jE_iald (n := 15) (f := hp 23) rfl rfl (by omega) ?_
    refine jm_Ev.bl 1 (pc' := 18) (A' := [jR 20, jI (i : Int)]) (st' := [jI (hp 23 (i : Int))]) (hp' := hp) rfl ?_
    exact jE_ret rfl ⟨jrI hcv.2.2.1, rfl⟩
theorem c_o_isHole (hp : jm_H) (K : Int → Int → Int) (O : List (List jT)) (hC : jCl hp K O) (i : Nat) (q : List jT) (hq : O[i]? = some q) : jm_Ev 64 0 [jR 20, jI (i : Int)] [] hp (jK (some (jI (if jar q < 0 then 1 else 0))) hp) := by
  obtain ⟨hK, hI, hO, hA⟩ := id hC
  have hW := jOw hK hI hq
  have hPw := jOP hK hI hq
  have hV := jVo_of_20 hK hI hO hq
  have hl := jOs hK hI hq
  have hcv := hO.2 i q hq
  have hO0 := hO.1
  have hN4 := hW.1
  have hN6 := hW.2.1
  obtain ⟨es, eN, s0, s60, hi, hpt⟩ := id hV
  have har := jar_r hW
  refine jm_Ev.bl 2 (pc' := 2) (A' := [jR 20, jI (i : Int)]) (st' := [jI (i : Int), jR 20]) (hp' := hp) rfl ?_
  refine jE_callI (vs := [jR 20, jI (i : Int)]) (r := []) (nx := 5) (v := jI (jar q)) (hp1 := hp) rfl (c_o_areaOf hp K O hC i q hq) ?_
  refine jE_if_ge rfl (by omega) (fun c5 => ?_) (fun c5 => ?_)
  · refine jm_Ev.bl 1 (pc' := 13) (A' := [jR 20, jI (i : Int)]) (st' := [jI 0]) (hp' := hp) rfl ?_
    exact jE_ret rfl ⟨jrI (by split <;> omega), rfl⟩
  · refine jm_Ev.bl 2 (pc' := 13) (A' := [jR 20, jI (i : Int)]) (st' := [jI 1]) (hp' := hp) rfl ?_
    exact jE_ret rfl ⟨jrI (by split <;> omega), rfl⟩
theorem c_o_holes_L (hp : jm_H) (K : Int → Int → Int) (O : List (List jT)) (hC : jCl hp K O) (hl : O.length ≤ 15) : ∀ (m : Nat) (i : Nat), i ≤ O.length → O.length - i < m → jm_Ev 70 4 [jR 20, jI (jho O i), jI (i : Int)] [] hp (jK (some (jI (jho O O.length))) hp) := by
  intro fu
  induction fu with
  | zero => intro i h1 hm; omega
  | succ fu ih =>
    intro i h1 hm
    refine jm_Ev.bl 3 (pc' := 9) (A' := [jR 20, jI (jho O i), jI (i : Int)]) (st' := [jI (hp 20 0), jI (i : Int)]) (hp' := hp) rfl ?_
    rw [show hp 20 0 = (O.length : Int) from hC.2.2.1.1]
    refine jE_icmp_ge rfl (by omega) (by omega) (fun c9 => ?_) (fun c9 => ?_)
    · refine jm_Ev.bl 1 (pc' := 30) (A' := [jR 20, jI (jho O i), jI (i : Int)]) (st' := [jI (jho O i)]) (hp' := hp) rfl ?_
      exact jE_ret rfl ⟨jrI (by rw [show i = O.length by omega]), rfl⟩
    · obtain ⟨q, hq⟩ : ∃ q, O[i]? = some q := ⟨_, List.getElem?_eq_getElem (show i < O.length by omega)⟩
      refine jm_Ev.bl 2 (pc' := 14) (A' := [jR 20, jI (jho O i), jI (i : Int)]) (st' := [jI (i : Int), jR 20]) (hp' := hp) rfl ?_
      refine jE_callI (vs := [jR 20, jI (i : Int)]) (r := []) (nx := 17) (v := jI (if jar q < 0 then 1 else 0)) (hp1 := hp) rfl (c_o_isHole hp K O hC i q hq) ?_
      refine jE_if_eq rfl (by split <;> omega) (fun c17 => ?_) (fun c17 => ?_)
      · rw [show (jho O i) = jho O (i + 1) by rw [jho_s hq]; split at c17 <;> omega]
        refine jm_Ev.bl 2 (pc' := 4) (A' := [jR 20, jI (jho O (i + 1)), jI ((i : Int) + 1)]) (st' := []) (hp' := hp) rfl ?_
        have z := ih (i + 1) (by omega) (by omega)
        rw [show ((i + 1 : Nat) : Int) = (i : Int) + 1 by omega] at z
        exact z
      · refine jm_Ev.bl 1 (pc' := 23) (A' := [jR 20, jI ((jho O i) + 1), jI (i : Int)]) (st' := []) (hp' := hp) rfl ?_
        rw [show ((jho O i) + 1) = jho O (i + 1) by rw [jho_s hq]; split at c17 <;> omega]
        refine jm_Ev.bl 2 (pc' := 4) (A' := [jR 20, jI (jho O (i + 1)), jI ((i : Int) + 1)]) (st' := []) (hp' := hp) rfl ?_
        have z := ih (i + 1) (by omega) (by omega)
        rw [show ((i + 1 : Nat) : Int) = (i : Int) + 1 by omega] at z
        exact z
theorem c_o_holes (hp : jm_H) (K : Int → Int → Int) (O : List (List jT)) (hC : jCl hp K O) : jm_Ev 70 0 [jR 20, jU, jU] [] hp (jK (some (jI (jho O O.length))) hp) := by
  refine jm_Ev.bl 4 (pc' := 4) (A' := [jR 20, jI 0, jI 0]) (st' := []) (hp' := hp) rfl ?_
  exact c_o_holes_L hp K O hC (jInv_15 hC.1 hC.2.1) 16 0 (by omega) (by have := jInv_15 hC.1 hC.2.1; omega)
theorem c_o_mustCount_L (hp : jm_H) (K : Int → Int → Int) (O : List (List jT)) (hC : jCl hp K O) (i : Nat) (q : List jT) (hq : O[i]? = some q) : ∀ (m : Nat) (n : Int), 0 ≤ n → n ≤ q.length → q.length - n < m → jm_Ev 71 11 [jR 20, jI (i : Int), jI ((O.take i).flatten.length : Int), jI (jmc K q n.toNat), jI n] [] hp (jK (some (jI (jmc K q q.length))) hp) := by
  obtain ⟨hK, hI, hO, hA⟩ := id hC
  have hW := jOw hK hI hq
  have hPw := jOP hK hI hq
  have hV := jVo_of_20 hK hI hO hq
  have hl := jOs hK hI hq
  have hcv := hO.2 i q hq
  have hO0 := hO.1
  have hN4 := hW.1
  have hN6 := hW.2.1
  obtain ⟨es, eN, s0, s60, hi, hpt⟩ := id hV
  intro fu
  induction fu with
  | zero => intro n h0 h1 hm; omega
  | succ fu ih =>
    intro n h0 h1 hm
    refine jm_Ev.bl 3 (pc' := 15) (A' := [jR 20, jI (i : Int), jI ((O.take i).flatten.length : Int), jI (jmc K q n.toNat), jI n]) (st' := [jI (i : Int), jR 20, jI n]) (hp' := hp) rfl ?_
    refine jE_callI (vs := [jR 20, jI (i : Int)]) (r := [jI n]) (nx := 18) (v := jI (q.length : Int)) (hp1 := hp) rfl (eN ▸ c_o_len_20 hp (by omega) i (by omega) (by omega)) ?_
    refine jE_icmp_ge rfl (by omega) (by omega) (fun c18 => ?_) (fun c18 => ?_)
    · refine jm_Ev.bl 1 (pc' := 42) (A' := [jR 20, jI (i : Int), jI ((O.take i).flatten.length : Int), jI (jmc K q n.toNat), jI n]) (st' := [jI (jmc K q n.toNat)]) (hp' := hp) rfl ?_
      exact jE_ret rfl ⟨jrI (by rw [show n = (q.length : Int) by omega]; rfl), rfl⟩
    · have pn := hpt n (by omega) (by omega)
      have rn := hW.2.2 n (by omega) (by omega)
      refine jm_Ev.bl 4 (pc' := 26) (A' := [jR 20, jI (i : Int), jI ((O.take i).flatten.length : Int), jI (jmc K q n.toNat), jI n]) (st' := [jI (((O.take i).flatten.length : Int) + n), jR 20]) (hp' := hp) rfl ?_
      refine jE_callI (vs := [jR 20, jI (((O.take i).flatten.length : Int) + n)]) (r := []) (nx := 29) (v := jI (jpm K q n)) (hp1 := hp) rfl (pn.2.2.2 ▸ c_o_mustAt_20 hp (((O.take i).flatten.length : Int) + n) (by omega) (by omega) (by rw [pn.2.2.2]; exact rn.2.2.2)) ?_
      refine jE_if_eq rfl (by have := rn.2.2.2; omega) (fun c29 => ?_) (fun c29 => ?_)
      · rw [show (jmc K q n.toNat) = jmc K q (n + 1).toNat by rw [jmc_s (by omega)]; have := rn.2.2.2; omega]
        refine jm_Ev.bl 2 (pc' := 11) (A' := [jR 20, jI (i : Int), jI ((O.take i).flatten.length : Int), jI (jmc K q (n + 1).toNat), jI (n + 1)]) (st' := []) (hp' := hp) rfl ?_
        exact ih (n + 1) (by omega) (by omega) (by omega)
      · refine jm_Ev.bl 1 (pc' := 35) (A' := [jR 20, jI (i : Int), jI ((O.take i).flatten.length : Int), jI ((jmc K q n.toNat) + 1), jI n]) (st' := []) (hp' := hp) rfl ?_
        rw [show ((jmc K q n.toNat) + 1) = jmc K q (n + 1).toNat by rw [jmc_s (by omega)]; have := rn.2.2.2; omega]
        refine jm_Ev.bl 2 (pc' := 11) (A' := [jR 20, jI (i : Int), jI ((O.take i).flatten.length : Int), jI (jmc K q (n + 1).toNat), jI (n + 1)]) (st' := []) (hp' := hp) rfl ?_
        exact ih (n + 1) (by omega) (by omega) (by omega)
theorem c_o_mustCount (hp : jm_H) (K : Int → Int → Int) (O : List (List jT)) (hC : jCl hp K O) (i : Nat) (q : List jT) (hq : O[i]? = some q) : jm_Ev 71 0 [jR 20, jI (i : Int), jU, jU, jU] [] hp (jK (some (jI (jmc K q q.length))) hp) := by
  obtain ⟨hK, hI, hO, hA⟩ := id hC
  have hW := jOw hK hI hq
  have hPw := jOP hK hI hq
  have hV := jVo_of_20 hK hI hO hq
  have hl := jOs hK hI hq
  have hcv := hO.2 i q hq
  have hO0 := hO.1
  have hN4 := hW.1
  have hN6 := hW.2.1
  obtain ⟨es, eN, s0, s60, hi, hpt⟩ := id hV
  refine jm_Ev.bl 2 (pc' := 2) (A' := [jR 20, jI (i : Int), jU, jU, jU]) (st' := [jI (i : Int), jR 20]) (hp' := hp) rfl ?_
  refine jE_callI (vs := [jR 20, jI (i : Int)]) (r := []) (nx := 5) (v := jI ((O.take i).flatten.length : Int)) (hp1 := hp) rfl (es ▸ c_o_startOf_20 hp i (by omega) (by omega)) ?_
  refine jm_Ev.bl 5 (pc' := 11) (A' := [jR 20, jI (i : Int), jI ((O.take i).flatten.length : Int), jI 0, jI 0]) (st' := []) (hp' := hp) rfl ?_
  exact c_o_mustCount_L hp K O hC i q hq 61 0 (by omega) (by omega) (by omega)
theorem c_o_reach_L (hp : jm_H) (K : Int → Int → Int) (O : List (List jT)) (hC : jCl hp K O) (i : Nat) (q : List jT) (hq : O[i]? = some q) (n : Int) (hn : 0 ≤ n ∧ n < q.length) : ∀ (m : Nat) (t : Int) (z : jm_V), 2 ≤ t → t ≤ (q.length : Int) - 1 → (∀ m : Nat, 2 ≤ m → (m : Int) < t → jcq K q n (jwr q.length (n + (m : Int))) = true) → q.length - t < m → jm_Ev 76 12 [jR 20, jI (i : Int), jI n, jI (q.length : Int), jI (t - 1), jI t, z] [] hp (jK (some (jI (jrch K q n))) hp) := by
  obtain ⟨hK, hI, hO, hA⟩ := id hC
  have hW := jOw hK hI hq
  have hPw := jOP hK hI hq
  have hV := jVo_of_20 hK hI hO hq
  have hl := jOs hK hI hq
  have hcv := hO.2 i q hq
  have hO0 := hO.1
  have hN4 := hW.1
  have hN6 := hW.2.1
  obtain ⟨es, eN, s0, s60, hi, hpt⟩ := id hV
  intro fu
  induction fu with
  | zero => intro t z h0 h1 hno hm; omega
  | succ fu ih =>
    intro t z h0 h1 hno hm
    refine jm_Ev.bl 4 (pc' := 17) (A' := [jR 20, jI (i : Int), jI n, jI (q.length : Int), jI (t - 1), jI t, z]) (st' := [jI ((q.length : Int) - 2), jI t]) (hp' := hp) rfl ?_
    refine jE_icmp_gt rfl (by omega) (by omega) (fun c17 => ?_) (fun c17 => ?_)
    · refine jm_Ev.bl 1 (pc' := 69) (A' := [jR 20, jI (i : Int), jI n, jI (q.length : Int), jI (t - 1), jI t, z]) (st' := [jI (t - 1)]) (hp' := hp) rfl ?_
      have z := jfind_none (p := (fun s : Nat => !(jcq K q n (jwr q.length (n + (s : Int)))))) ((q.length : Int) - 3).toNat 2 (fun m a b => by show (!(jcq K q n (jwr q.length (n + (m : Int))))) = false; rw [hno m a (by omega)]; rfl)
      exact jE_ret rfl ⟨jrI (by unfold jrch; rw [z]; omega), rfl⟩
    · refine jm_Ev.bl 4 (pc' := 25) (A' := [jR 20, jI (i : Int), jI n, jI (q.length : Int), jI (t - 1), jI t, z]) (st' := [jI (q.length : Int), jI (n + t)]) (hp' := hp) rfl ?_
      refine jE_icmp_ge rfl (by omega) (by omega) (fun c25 => ?_) (fun c25 => ?_)
      · refine jm_Ev.bl 6 (pc' := 43) (A' := [jR 20, jI (i : Int), jI n, jI (q.length : Int), jI (t - 1), jI t, jI ((n + t) - (q.length : Int))]) (st' := []) (hp' := hp) rfl ?_
        obtain ⟨kk, hkk⟩ : ∃ z, z = jwr q.length (n + t) := ⟨_, rfl⟩
        have hkr := jwr_r hn.1 hn.2 (show 0 ≤ t by omega) (show t < (q.length : Int) by omega)
        have hne := (jstp2_w hn.1 hn.2 (show 1 ≤ t by omega) (show t < (q.length : Int) by omega)).2
        rw [← hkk] at hkr hne
        rw [show ((n + t) - (q.length : Int)) = kk by rw [hkk]; unfold jwr; split <;> omega]
        refine jm_Ev.bl 4 (pc' := 48) (A' := [jR 20, jI (i : Int), jI n, jI (q.length : Int), jI (t - 1), jI t, jI kk]) (st' := [jI kk, jI n, jI (i : Int), jR 20]) (hp' := hp) rfl ?_
        refine jE_callI (vs := [jR 20, jI (i : Int), jI n, jI kk]) (r := []) (nx := 51) (v := jI (jb (jcq K q n kk))) (hp1 := hp) rfl (c_o_canJoin_20 hp i ((O.take i).flatten.length : Int) q.length (jpx q) (jpy q) (jpl_ K q) (jpm K q) hV hW n kk hn hkr (Ne.symm hne)) ?_
        refine jE_ifb_ne rfl (fun c51 => ?_) (fun c51 => ?_)
        · refine jm_Ev.bl 4 (pc' := 12) (A' := [jR 20, jI (i : Int), jI n, jI (q.length : Int), jI t, jI (t + 1), jI kk]) (st' := []) (hp' := hp) rfl ?_
          have z := ih (t + 1) (jI kk) (by omega) (by omega) (fun m a b => by
            by_cases e : m = t.toNat
            · rw [e, show ((t.toNat : Nat) : Int) = t by omega, ← hkk]; exact c51
            · exact hno m a (by omega)) (by omega)
          rw [show t + 1 - 1 = t by omega] at z
          exact z
        · refine jm_Ev.bl 2 (pc' := 69) (A' := [jR 20, jI (i : Int), jI n, jI (q.length : Int), jI (t - 1), jI t, jI kk]) (st' := [jI (t - 1)]) (hp' := hp) rfl ?_
          have z := jfind_eq (p := (fun s : Nat => !(jcq K q n (jwr q.length (n + (s : Int)))))) (n := t.toNat) (by show (!(jcq K q n (jwr q.length (n + ((t.toNat : Nat) : Int))))) = true; rw [show ((t.toNat : Nat) : Int) = t by omega, ← hkk, c51]; rfl) ((q.length : Int) - 3).toNat 2 (by omega) (by omega) (fun m a b => by show (!(jcq K q n (jwr q.length (n + (m : Int))))) = false; rw [hno m a (by omega)]; rfl)
          exact jE_ret rfl ⟨jrI (by unfold jrch; rw [z]; omega), rfl⟩
      · refine jm_Ev.bl 5 (pc' := 43) (A' := [jR 20, jI (i : Int), jI n, jI (q.length : Int), jI (t - 1), jI t, jI (n + t)]) (st' := []) (hp' := hp) rfl ?_
        obtain ⟨kk, hkk⟩ : ∃ z, z = jwr q.length (n + t) := ⟨_, rfl⟩
        have hkr := jwr_r hn.1 hn.2 (show 0 ≤ t by omega) (show t < (q.length : Int) by omega)
        have hne := (jstp2_w hn.1 hn.2 (show 1 ≤ t by omega) (show t < (q.length : Int) by omega)).2
        rw [← hkk] at hkr hne
        rw [show (n + t) = kk by rw [hkk]; unfold jwr; split <;> omega]
        refine jm_Ev.bl 4 (pc' := 48) (A' := [jR 20, jI (i : Int), jI n, jI (q.length : Int), jI (t - 1), jI t, jI kk]) (st' := [jI kk, jI n, jI (i : Int), jR 20]) (hp' := hp) rfl ?_
        refine jE_callI (vs := [jR 20, jI (i : Int), jI n, jI kk]) (r := []) (nx := 51) (v := jI (jb (jcq K q n kk))) (hp1 := hp) rfl (c_o_canJoin_20 hp i ((O.take i).flatten.length : Int) q.length (jpx q) (jpy q) (jpl_ K q) (jpm K q) hV hW n kk hn hkr (Ne.symm hne)) ?_
        refine jE_ifb_ne rfl (fun c51 => ?_) (fun c51 => ?_)
        · refine jm_Ev.bl 4 (pc' := 12) (A' := [jR 20, jI (i : Int), jI n, jI (q.length : Int), jI t, jI (t + 1), jI kk]) (st' := []) (hp' := hp) rfl ?_
          have z := ih (t + 1) (jI kk) (by omega) (by omega) (fun m a b => by
            by_cases e : m = t.toNat
            · rw [e, show ((t.toNat : Nat) : Int) = t by omega, ← hkk]; exact c51
            · exact hno m a (by omega)) (by omega)
          rw [show t + 1 - 1 = t by omega] at z
          exact z
        · refine jm_Ev.bl 2 (pc' := 69) (A' := [jR 20, jI (i : Int), jI n, jI (q.length : Int), jI (t - 1), jI t, jI kk]) (st' := [jI (t - 1)]) (hp' := hp) rfl ?_
          have z := jfind_eq (p := (fun s : Nat => !(jcq K q n (jwr q.length (n + (s : Int)))))) (n := t.toNat) (by show (!(jcq K q n (jwr q.length (n + ((t.toNat : Nat) : Int))))) = true; rw [show ((t.toNat : Nat) : Int) = t by omega, ← hkk, c51]; rfl) ((q.length : Int) - 3).toNat 2 (by omega) (by omega) (fun m a b => by show (!(jcq K q n (jwr q.length (n + (m : Int))))) = false; rw [hno m a (by omega)]; rfl)
          exact jE_ret rfl ⟨jrI (by unfold jrch; rw [z]; omega), rfl⟩
theorem c_o_reachOf (hp : jm_H) (K : Int → Int → Int) (O : List (List jT)) (hC : jCl hp K O) (i : Nat) (q : List jT) (hq : O[i]? = some q) (n : Int) (hn : 0 ≤ n ∧ n < q.length) : jm_Ev 76 0 [jR 20, jI (i : Int), jI n, jU, jU, jU, jU] [] hp (jK (some (jI (jrch K q n))) hp) := by
  obtain ⟨hK, hI, hO, hA⟩ := id hC
  have hW := jOw hK hI hq
  have hPw := jOP hK hI hq
  have hV := jVo_of_20 hK hI hO hq
  have hl := jOs hK hI hq
  have hcv := hO.2 i q hq
  have hO0 := hO.1
  have hN4 := hW.1
  have hN6 := hW.2.1
  obtain ⟨es, eN, s0, s60, hi, hpt⟩ := id hV
  refine jm_Ev.bl 2 (pc' := 2) (A' := [jR 20, jI (i : Int), jI n, jU, jU, jU, jU]) (st' := [jI (i : Int), jR 20]) (hp' := hp) rfl ?_
  refine jE_callI (vs := [jR 20, jI (i : Int)]) (r := []) (nx := 5) (v := jI (q.length : Int)) (hp1 := hp) rfl (eN ▸ c_o_len_20 hp (by omega) i (by omega) (by omega)) ?_
  refine jm_Ev.bl 5 (pc' := 12) (A' := [jR 20, jI (i : Int), jI n, jI (q.length : Int), jI 1, jI 2, jU]) (st' := []) (hp' := hp) rfl ?_
  exact c_o_reach_L hp K O hC i q hq n hn 61 2 _ (by omega) (by omega) (fun m a b => by omega) (by omega)
