/-! the model tells -/
def jMC (h : jm_H) : Prop := jMG h ∧ (h 56 10 = 0 ∨ h 56 10 = 1) ∧ (h 56 10 = 0 → jML h (jmK h) (jmO h))
theorem jmK_fr {hp h : jm_H} {S : List Nat} {F : List Int} (hf : jFq hp h S F) (h1 : 58 ∉ S) (h2 : 56 ∉ S) (h3 : 6 ∉ F) (h4 : 7 ∉ F) : jmK h = jmK hp ∧ jmO h = jmO hp := by
  have e : jmK h = jmK hp := by
    unfold jmK
    rw [hf.fd 6 h2 h3, hf.fd 7 h2 h4, hf.pl 58 h1 (by omega)]
  exact ⟨e, by unfold jmO; rw [e]⟩
theorem jMG_fr {hp h : jm_H} {S : List Nat} {F : List Int} (hM : jMG hp) (hf : jFq hp h S F) (h1 : 58 ∉ S) (h2 : 56 ∉ S) (h3 : 6 ∉ F) (h4 : 7 ∉ F) : jMG h := by
  unfold jMG at *
  rw [hf.fd 6 h2 h3, hf.fd 7 h2 h4, hf.pl 58 h1 (by omega)]
  exact hM
theorem jinv_nil {K : Int → Int → Int} (hK : ∀ x y, K x y = -1) {O : List (List jT)} (hI : jInv K O) : O = [] := by
  cases O with
  | nil => rfl
  | cons o O =>
    obtain ⟨⟨a, b, c⟩, hs, _⟩ := hI.1 o (by simp)
    rcases jE_cases hs with z | z | z | z
    · exact absurd (hK _ _) z.2.1
    · exact absurd (hK _ _) z.2.1
    · exact absurd (hK _ _) z.2.1
    · exact absurd (hK _ _) z.2.1
theorem jgk_nil {h : Int} {d : Int → Int} (x y : Int) : jgk 0 h d x y = -1 := by
  unfold jgk
  rw [if_neg (fun z => by omega)]
theorem jmO_nil {hp : jm_H} (hM : jMG hp) (h : hp 56 6 = 0) : jmO hp = [] := jinv_nil (K := jmK hp) (fun x y => by unfold jmK; rw [h]; exact jgk_nil x y) (jmOI hM)
def jln (O : List (List jT)) (o : Int) : Int := if 0 ≤ o then ((((O[o.toNat]?).map List.length).getD 0 : Nat) : Int) else 0
theorem jln_some {O : List (List jT)} {i : Nat} {q : List jT} (h : O[i]? = some q) : jln O i = q.length := by
  unfold jln
  rw [if_pos (by omega), Int.toNat_natCast, h]
  rfl
theorem jln_none {O : List (List jT)} {o : Int} (h : ¬ (0 ≤ o ∧ o < O.length)) : jln O o = 0 := by
  unfold jln
  split
  · rw [List.getElem?_eq_none (by omega)]; rfl
  · rfl
theorem joq {O : List (List jT)} {o : Int} (h : 0 ≤ o ∧ o < O.length) : ∃ (i : Nat) (q : List jT), o = (i : Int) ∧ O[i]? = some q := ⟨o.toNat, O[o.toNat]'(by omega), by omega, List.getElem?_eq_getElem (by omega)⟩
theorem jln_r {K : Int → Int → Int} (hK : jK5 K) {O : List (List jT)} (hI : jInv K O) (o : Int) : 0 ≤ jln O o ∧ jln O o ≤ 60 := by
  by_cases h : 0 ≤ o ∧ o < O.length
  · obtain ⟨i, q, rfl, hq⟩ := joq h
    rw [jln_some hq]
    have := (jOw hK hI hq).2.1
    omega
  · rw [jln_none h]; omega
theorem jaq_r {K : Int → Int → Int} {q : List jT} (hW : jWy q.length (jpx q) (jpy q) (jpl_ K q) (jpm K q)) (hPw : jPw q.length (jPP K q)) : jR32 (jaq K q) := by
  have hl := jlq_r hPw
  have a := jars_r (X := fun n => jpx q (jkq K q n)) (Y := fun n => jpy q (jkq K q n)) (N := jlq K q) (fun n a b => by have z := jkq_r hPw a b; exact (hW.2.2 _ z.1 z.2.1).1) (fun n a b => by have z := jkq_r hPw a b; exact (hW.2.2 _ z.1 z.2.1).2.1) (jlq K q).toNat (by omega)
  have := hW.2.1
  unfold jaq
  exact ⟨by omega, by omega⟩
def jtw (K : Int → Int → Int) (q : List jT) (w : Int) : Int := if 0 ≤ w ∧ w ≤ 6 then jto K q w else -102
def jtn (K : Int → Int → Int) (q : List jT) (n w : Int) : Int := if 0 ≤ w ∧ w ≤ 4 then jtp K q n w else -102
theorem c_m_tellOutline (hp : jm_H) (K : Int → Int → Int) (O : List (List jT)) (hK : jK5 K) (hI : jInv K O) (hL : jML hp K O) (i : Nat) (q : List jT) (hq : O[i]? = some q) (wt : Int) (hwt : jR32 wt) : jm_Ev 175 0 [jR 56, jI (i : Int), jI wt] [] hp (jK (some (jI (jtw K q wt))) hp) := by
  have hV := jVm_of hK hI hL.1 hL.2.1 hq
  have hW := jOw hK hI hq
  have hPw := jOP hK hI hq
  have hmv := hL.2.2 i q hq
  have hN4 := hW.1
  have hN6 := hW.2.1
  obtain ⟨es, eN, s0, s60, hi, hpt⟩ := id hV
  refine jm_Ev.bl 1 (pc' := 1) (A' := [jR 56, jI (i : Int), jI wt]) (st' := [jI wt]) (hp' := hp) rfl ?_
  rcases (show wt = 0 ∨ wt = 1 ∨ wt = 2 ∨ wt = 3 ∨ wt = 4 ∨ wt = 5 ∨ wt = 6 ∨ (wt < 0 ∨ 6 < wt) by omega) with c1 | c1 | c1 | c1 | c1 | c1 | c1 | c1
  · subst c1
    refine jm_Ev.bl 4 (pc' := 49) (A' := [jR 56, jI (i : Int), jI 0]) (st' := [jI (i : Int), jR 60]) (hp' := hp) rfl ?_
    refine jE_iald (n := 32) (f := hp 60) rfl rfl (by omega) ?_
    refine jE_top (w := (q.length : Int)) (eN) ?_
    exact jE_ret rfl ⟨rfl, rfl⟩
  · subst c1
    refine jm_Ev.bl 4 (pc' := 54) (A' := [jR 56, jI (i : Int), jI 1]) (st' := [jI 1, jI (i : Int), jR 56]) (hp' := hp) rfl ?_
    refine jE_callI (vs := [jR 56, jI (i : Int), jI 1]) (r := []) (nx := 57) (v := jI (jar q)) (hp1 := hp) rfl (c_m_areaT hp K q i ((O.take i).flatten.length : Int) hV hW) ?_
    refine jE_if_ge rfl (by have := jar_r hW; omega) (fun c57 => ?_) (fun c57 => ?_)
    · refine jm_Ev.bl 1 (pc' := 65) (A' := [jR 56, jI (i : Int), jI 1]) (st' := [jI 0]) (hp' := hp) rfl ?_
      exact jE_ret rfl ⟨jrI (by show _ = (if jar q < 0 then 1 else 0); split <;> omega), rfl⟩
    · refine jm_Ev.bl 2 (pc' := 65) (A' := [jR 56, jI (i : Int), jI 1]) (st' := [jI 1]) (hp' := hp) rfl ?_
      exact jE_ret rfl ⟨jrI (by show _ = (if jar q < 0 then 1 else 0); split <;> omega), rfl⟩
  · subst c1
    refine jm_Ev.bl 4 (pc' := 71) (A' := [jR 56, jI (i : Int), jI 2]) (st' := [jI (i : Int), jR 71]) (hp' := hp) rfl ?_
    refine jE_iald (n := 32) (f := hp 71) rfl rfl (by omega) ?_
    refine jE_top (w := (jlq K q)) (hmv.1) ?_
    exact jE_ret rfl ⟨rfl, rfl⟩
  · subst c1
    refine jm_Ev.bl 4 (pc' := 78) (A' := [jR 56, jI (i : Int), jI 3]) (st' := [jI (i : Int), jR 72]) (hp' := hp) rfl ?_
    refine jE_iald (n := 32) (f := hp 72) rfl rfl (by omega) ?_
    refine jE_top (w := (jbq K q)) (hmv.2.1) ?_
    exact jE_ret rfl ⟨rfl, rfl⟩
  · subst c1
    refine jm_Ev.bl 4 (pc' := 83) (A' := [jR 56, jI (i : Int), jI 4]) (st' := [jI 0, jI (i : Int), jR 56]) (hp' := hp) rfl ?_
    refine jE_callI (vs := [jR 56, jI (i : Int), jI 0]) (r := []) (nx := 86) (v := jI (jaq K q)) (hp1 := hp) rfl (c_m_areaF hp K q i ((O.take i).flatten.length : Int) hV hW hPw hmv.2.2) ?_
    refine jE_callI (vs := [jI (jaq K q)]) (r := []) (nx := 89) (v := jI (((jaq K q)).natAbs : Int)) (hp1 := hp) rfl (c_m_far hp (jaq K q) (jaq_r hW hPw)) ?_
    exact jE_ret rfl ⟨rfl, rfl⟩
  · subst c1
    refine jm_Ev.bl 4 (pc' := 93) (A' := [jR 56, jI (i : Int), jI 5]) (st' := [jI 1, jI (i : Int), jR 56]) (hp' := hp) rfl ?_
    refine jE_callI (vs := [jR 56, jI (i : Int), jI 1]) (r := []) (nx := 96) (v := jI (jar q)) (hp1 := hp) rfl (c_m_areaT hp K q i ((O.take i).flatten.length : Int) hV hW) ?_
    refine jE_callI (vs := [jI (jar q)]) (r := []) (nx := 99) (v := jI (((jar q)).natAbs : Int)) (hp1 := hp) rfl (c_m_far hp (jar q) (by have := jar_r hW; omega)) ?_
    exact jE_ret rfl ⟨rfl, rfl⟩
  · subst c1
    refine jm_Ev.bl 3 (pc' := 102) (A' := [jR 56, jI (i : Int), jI 6]) (st' := [jI (i : Int), jR 56]) (hp' := hp) rfl ?_
    refine jE_callI (vs := [jR 56, jI (i : Int)]) (r := []) (nx := 105) (v := jI (jmc K q q.length)) (hp1 := hp) rfl (c_m_mustMany hp K q i ((O.take i).flatten.length : Int) hV hW) ?_
    exact jE_ret rfl ⟨rfl, rfl⟩
  · refine jE_tswd rfl (by omega) c1 ?_
    refine jm_Ev.bl 1 (pc' := 108) (A' := [jR 56, jI (i : Int), jI wt]) (st' := [jI (-102)]) (hp' := hp) rfl ?_
    exact jE_ret rfl ⟨jrI (by unfold jtw; rw [if_neg (fun z => by omega)]), rfl⟩
theorem c_m_tellPoint (hp : jm_H) (K : Int → Int → Int) (O : List (List jT)) (hK : jK5 K) (hI : jInv K O) (hL : jML hp K O) (i : Nat) (q : List jT) (hq : O[i]? = some q) (n : Int) (hn : 0 ≤ n ∧ n < q.length) (wt : Int) (hwt : jR32 wt) : jm_Ev 178 0 [jR 56, jI (i : Int), jI n, jI wt, jU] [] hp (jK (some (jI (jtn K q n wt))) hp) := by
  have hV := jVm_of hK hI hL.1 hL.2.1 hq
  have hW := jOw hK hI hq
  have hPw := jOP hK hI hq
  have hmv := hL.2.2 i q hq
  have hN4 := hW.1
  have hN6 := hW.2.1
  obtain ⟨es, eN, s0, s60, hi, hpt⟩ := id hV
  have pn := hpt n hn.1 hn.2
  refine jm_Ev.bl 3 (pc' := 5) (A' := [jR 56, jI (i : Int), jI n, jI wt, jU]) (st' := [jI (i : Int), jR 59]) (hp' := hp) rfl ?_
  refine jE_iald (n := 32) (f := hp 59) rfl rfl (by omega) ?_
  refine jE_top (w := ((O.take i).flatten.length : Int)) (es) ?_
  refine jm_Ev.bl 4 (pc' := 11) (A' := [jR 56, jI (i : Int), jI n, jI wt, jI (((O.take i).flatten.length : Int) + n)]) (st' := [jI wt]) (hp' := hp) rfl ?_
  rcases (show wt = 0 ∨ wt = 1 ∨ wt = 2 ∨ wt = 3 ∨ wt = 4 ∨ (wt < 0 ∨ 4 < wt) by omega) with c11 | c11 | c11 | c11 | c11 | c11
  · subst c11
    refine jm_Ev.bl 5 (pc' := 52) (A' := [jR 56, jI (i : Int), jI n, jI 0, jI (((O.take i).flatten.length : Int) + n)]) (st' := [jI (((O.take i).flatten.length : Int) + n), jR 61, jI 10]) (hp' := hp) rfl ?_
    refine jE_iald (n := 160) (f := hp 61) rfl rfl (by omega) ?_
    refine jE_top (w := (jpx q n)) (pn.1) ?_
    refine jm_Ev.bl 4 (pc' := 60) (A' := [jR 56, jI (i : Int), jI n, jI 0, jI (((O.take i).flatten.length : Int) + n)]) (st' := [jI (((O.take i).flatten.length : Int) + n), jR 62, jI (10 * (jpx q n))]) (hp' := hp) rfl ?_
    refine jE_iald (n := 160) (f := hp 62) rfl rfl (by omega) ?_
    refine jE_top (w := (jpy q n)) (pn.2.1) ?_
    refine jm_Ev.bl 1 (pc' := 62) (A' := [jR 56, jI (i : Int), jI n, jI 0, jI (((O.take i).flatten.length : Int) + n)]) (st' := [jI ((10 * (jpx q n)) + (jpy q n))]) (hp' := hp) rfl ?_
    exact jE_ret rfl ⟨rfl, rfl⟩
  · subst c11
    refine jm_Ev.bl 4 (pc' := 69) (A' := [jR 56, jI (i : Int), jI n, jI 1, jI (((O.take i).flatten.length : Int) + n)]) (st' := [jI (((O.take i).flatten.length : Int) + n), jR 63]) (hp' := hp) rfl ?_
    refine jE_iald (n := 160) (f := hp 63) rfl rfl (by omega) ?_
    refine jE_top (w := (jpl_ K q n)) (pn.2.2.1) ?_
    exact jE_ret rfl ⟨rfl, rfl⟩
  · subst c11
    refine jm_Ev.bl 4 (pc' := 77) (A' := [jR 56, jI (i : Int), jI n, jI 2, jI (((O.take i).flatten.length : Int) + n)]) (st' := [jI (((O.take i).flatten.length : Int) + n), jR 64]) (hp' := hp) rfl ?_
    refine jE_iald (n := 160) (f := hp 64) rfl rfl (by omega) ?_
    refine jE_top (w := (jpm K q n)) (pn.2.2.2) ?_
    exact jE_ret rfl ⟨rfl, rfl⟩
  · subst c11
    refine jm_Ev.bl 4 (pc' := 82) (A' := [jR 56, jI (i : Int), jI n, jI 3, jI (((O.take i).flatten.length : Int) + n)]) (st' := [jI n, jI (i : Int), jR 56]) (hp' := hp) rfl ?_
    refine jE_callI (vs := [jR 56, jI (i : Int), jI n]) (r := []) (nx := 85) (v := jI (jrch K q n)) (hp1 := hp) rfl (c_m_reachOf hp K q i ((O.take i).flatten.length : Int) hV hW n hn) ?_
    exact jE_ret rfl ⟨rfl, rfl⟩
  · subst c11
    refine jm_Ev.bl 4 (pc' := 92) (A' := [jR 56, jI (i : Int), jI n, jI 4, jI (((O.take i).flatten.length : Int) + n)]) (st' := [jI (((O.take i).flatten.length : Int) + n), jR 65]) (hp' := hp) rfl ?_
    refine jE_iald (n := 160) (f := hp 65) rfl rfl (by omega) ?_
    refine jE_top (w := (jb (jchk (jkq K q) (jlq K q).toNat n))) (hmv.2.2 n hn.1 hn.2) ?_
    exact jE_ret rfl ⟨rfl, rfl⟩
  · refine jE_tswd rfl (by omega) c11 ?_
    refine jm_Ev.bl 1 (pc' := 96) (A' := [jR 56, jI (i : Int), jI n, jI wt, jI (((O.take i).flatten.length : Int) + n)]) (st' := [jI (-102)]) (hp' := hp) rfl ?_
    exact jE_ret rfl ⟨jrI (by unfold jtn; rw [if_neg (fun z => by omega)]), rfl⟩
theorem c_m_holes_L (hp : jm_H) (K : Int → Int → Int) (O : List (List jT)) (hK : jK5 K) (hI : jInv K O) (hL : jML hp K O) (hl : O.length ≤ 15) : ∀ (m : Nat) (i : Nat), i ≤ O.length → O.length - i < m → jm_Ev 209 4 [jR 56, jI (jho O i), jI (i : Int)] [] hp (jK (some (jI (jho O O.length))) hp) := by
  intro fu
  induction fu with
  | zero => intro i h1 hm; omega
  | succ fu ih =>
    intro i h1 hm
    refine jm_Ev.bl 3 (pc' := 9) (A' := [jR 56, jI (jho O i), jI (i : Int)]) (st' := [jI (hp 56 11), jI (i : Int)]) (hp' := hp) rfl ?_
    rw [show hp 56 11 = (O.length : Int) from hL.2.1.1]
    refine jE_icmp_ge rfl (by omega) (by omega) (fun c9 => ?_) (fun c9 => ?_)
    · refine jm_Ev.bl 1 (pc' := 28) (A' := [jR 56, jI (jho O i), jI (i : Int)]) (st' := [jI (jho O i)]) (hp' := hp) rfl ?_
      exact jE_ret rfl ⟨jrI (by rw [show i = O.length by omega]), rfl⟩
    · obtain ⟨q, hq⟩ : ∃ q, O[i]? = some q := ⟨_, List.getElem?_eq_getElem (show i < O.length by omega)⟩
      refine jm_Ev.bl 4 (pc' := 16) (A' := [jR 56, jI (jho O i), jI (i : Int)]) (st' := [jI 1, jI (i : Int), jR 56, jI (jho O i)]) (hp' := hp) rfl ?_
      refine jE_callI (vs := [jR 56, jI (i : Int), jI 1]) (r := [jI (jho O i)]) (nx := 19) (v := jI (jtw K q 1)) (hp1 := hp) rfl (c_m_tellOutline hp K O hK hI hL i q hq 1 (by omega)) ?_
      refine jm_Ev.bl 4 (pc' := 4) (A' := [jR 56, jI ((jho O i) + (jtw K q 1)), jI ((i : Int) + 1)]) (st' := []) (hp' := hp) rfl ?_
      have z := ih (i + 1) (by omega) (by omega)
      rw [jho_s hq, show ((i + 1 : Nat) : Int) = (i : Int) + 1 by omega] at z
      exact z
theorem c_m_holes (hp : jm_H) (K : Int → Int → Int) (O : List (List jT)) (hK : jK5 K) (hI : jInv K O) (hL : jML hp K O) : jm_Ev 209 0 [jR 56, jU, jU] [] hp (jK (some (jI (jho O O.length))) hp) := by
  refine jm_Ev.bl 4 (pc' := 4) (A' := [jR 56, jI 0, jI 0]) (st' := []) (hp' := hp) rfl ?_
  have hl := jInv_15 hK hI
  exact c_m_holes_L hp K O hK hI hL hl 16 0 (by omega) (by omega)
/-- asked of outlines: fresh then -/
def jis (hp : jm_H) (o : Int) : Option jm_V → jm_H → Prop := fun rv h => rv = some (jI (jb (decide (0 ≤ o ∧ o < (jmO hp).length)))) ∧ jMC h ∧ ((0 ≤ o ∧ o < (jmO hp).length) → h 56 10 = 0) ∧ jFq hp h [59, 60, 61, 62, 63, 64, 65, 66, 67, 68, 69, 70, 71, 72] [10, 11, 26]
theorem jMC_fre {hp h : jm_H} (hM : jMG hp) (e : h 56 10 = 0) (hL : jML h (jmK hp) (jmO hp)) (hf : jFq hp h [59, 60, 61, 62, 63, 64, 65, 66, 67, 68, 69, 70, 71, 72] [10, 11, 26]) : jMC h := by
  have k := jmK_fr hf (by simp) (by simp) (by simp) (by simp)
  exact ⟨jMG_fr hM hf (by simp) (by simp) (by simp) (by simp), Or.inl e, fun _ => by rw [k.1, k.2]; exact hL⟩
theorem c_m_isOutline (hp : jm_H) (hC : jMC hp) (o : Int) (ho : jR32 o) : jm_Ev 171 0 [jR 56, jI o] [] hp (jis hp o) := by
  refine jm_Ev.bl 1 (pc' := 1) (A' := [jR 56, jI o]) (st' := [jR 56]) (hp' := hp) rfl ?_
  refine jE_callI (vs := [jR 56]) (r := []) (nx := 4) (v := jI (jb (decide (hp 56 6 = 0)))) (hp1 := hp) rfl (c_m_lacks hp hC.1) ?_
  refine jE_ifd_eq rfl (fun c4 => ?_) (fun c4 => ?_)
  · refine jm_Ev.bl 1 (pc' := 10) (A' := [jR 56, jI o]) (st' := [jR 56]) (hp' := hp) rfl ?_
    refine jE_call (vs := [jR 56]) (r := []) (nx := 13) rfl (c_m_freshen hp hC.1 hC.2.1 hC.2.2) (fun rv10 h hh => ?_)
    obtain ⟨rfl, e10, hL, hfr⟩ := hh
    refine jm_Ev.bl 1 (pc' := 14) (A' := [jR 56, jI o]) (st' := [jI o]) (hp' := h) rfl ?_
    have e11 := hL.2.1.1
    have hl15 := jInv_15 (jmK5 hC.1) (jmOI hC.1)
    refine jE_i2l rfl (by omega) ?_
    refine jm_Ev.bl 3 (pc' := 20) (A' := [jR 56, jI o]) (st' := [jI (h 56 11), jL 0, jL o]) (hp' := h) rfl ?_
    rw [e11]
    refine jm_Ev.bl 2 (pc' := 22) (A' := [jR 56, jI o]) (st' := [jI (((jmO hp).length : Int) - 1), jL 0, jL o]) (hp' := h) rfl ?_
    refine jE_i2l rfl (by omega) ?_
    refine jE_callI (vs := [jL o, jL 0, jL (((jmO hp).length : Int) - 1)]) (r := []) (nx := 26) (v := jI (jb (decide (0 ≤ o ∧ o ≤ (((jmO hp).length : Int) - 1))))) (hp1 := h) rfl (c_m_in h o 0 (((jmO hp).length : Int) - 1) (by omega) (by omega) (by omega)) ?_
    refine jE_retZ rfl rfl ⟨jrI (congrArg jb (decide_eq_decide.mpr ⟨fun z => by omega, fun z => by omega⟩)), jMC_fre hC.1 e10 hL hfr, fun _ => e10, hfr⟩
  · refine jm_Ev.bl 1 (pc' := 8) (A' := [jR 56, jI o]) (st' := [jI 0]) (hp' := hp) rfl ?_
    exact jE_ret rfl ⟨jrI (by rw [decide_eq_false (fun z => by rw [jmO_nil hC.1 c4] at z; have := z.2; simp at this; omega)]; rfl), hC, fun z => by rw [jmO_nil hC.1 c4] at z; have := z.2; simp at this; omega, jFq.rf⟩
def jip (hp : jm_H) (o n : Int) : Option jm_V → jm_H → Prop := fun rv h => rv = some (jI (jb (decide (0 ≤ n ∧ n < jln (jmO hp) o)))) ∧ jMC h ∧ ((0 ≤ n ∧ n < jln (jmO hp) o) → h 56 10 = 0) ∧ jFq hp h [59, 60, 61, 62, 63, 64, 65, 66, 67, 68, 69, 70, 71, 72] [10, 11, 26]
theorem c_m_isPoint (hp : jm_H) (hC : jMC hp) (o n : Int) (ho : jR32 o) (hn : jR32 n) : jm_Ev 172 0 [jR 56, jI o, jI n] [] hp (jip hp o n) := by
  refine jm_Ev.bl 2 (pc' := 2) (A' := [jR 56, jI o, jI n]) (st' := [jI o, jR 56]) (hp' := hp) rfl ?_
  refine jE_call (vs := [jR 56, jI o]) (r := []) (nx := 5) rfl (c_m_isOutline hp hC o ho) (fun rv2 h hh => ?_)
  obtain ⟨rfl, hC1, e10, hfr⟩ := hh
  have kfr := jmK_fr hfr (by simp) (by simp) (by simp) (by simp)
  refine jE_ifd_eq rfl (fun c5 => ?_) (fun c5 => ?_)
  · refine jm_Ev.bl 1 (pc' := 31) (A' := [jR 56, jI o, jI n]) (st' := [jI 0]) (hp' := h) rfl ?_
    exact jE_ret rfl ⟨jrI (by rw [decide_eq_false (fun z => by rw [jln_none c5] at z; omega)]; rfl), hC1, fun z => by rw [jln_none c5] at z; omega, hfr⟩
  · obtain ⟨i, q, rfl, hq⟩ := joq c5
    have hL := hC1.2.2 (e10 c5)
    rw [kfr.1, kfr.2] at hL
    have e60 : h 60 i = q.length := (hL.2.1.2 i q hq).2.1
    have hl := (jOw (jmK5 hC.1) (jmOI hC.1) hq).2.1
    have hjl := jln_some hq
    have hl15 := jInv_15 (jmK5 hC.1) (jmOI hC.1)
    refine jm_Ev.bl 1 (pc' := 9) (A' := [jR 56, jI (i : Int), jI n]) (st' := [jI n]) (hp' := h) rfl ?_
    refine jE_i2l rfl (by omega) ?_
    refine jm_Ev.bl 4 (pc' := 16) (A' := [jR 56, jI (i : Int), jI n]) (st' := [jI (i : Int), jR 60, jL 0, jL n]) (hp' := h) rfl ?_
    refine jE_iald (n := 32) (f := h 60) rfl rfl (by omega) ?_
    refine jE_top (w := (q.length : Int)) (e60) ?_
    refine jm_Ev.bl 2 (pc' := 19) (A' := [jR 56, jI (i : Int), jI n]) (st' := [jI ((q.length : Int) - 1), jL 0, jL n]) (hp' := h) rfl ?_
    refine jE_i2l rfl (by omega) ?_
    refine jE_callI (vs := [jL n, jL 0, jL ((q.length : Int) - 1)]) (r := []) (nx := 23) (v := jI (jb (decide (0 ≤ n ∧ n ≤ ((q.length : Int) - 1))))) (hp1 := h) rfl (c_m_in h n 0 ((q.length : Int) - 1) (by omega) (by omega) (by omega)) ?_
    refine jE_ifd_eq rfl (fun c23 => ?_) (fun c23 => ?_)
    · refine jm_Ev.bl 1 (pc' := 31) (A' := [jR 56, jI (i : Int), jI n]) (st' := [jI 0]) (hp' := h) rfl ?_
      exact jE_ret rfl ⟨jrI (by rw [decide_eq_false (fun z => by omega)]; rfl), hC1, fun z => by omega, hfr⟩
    · refine jm_Ev.bl 2 (pc' := 31) (A' := [jR 56, jI (i : Int), jI n]) (st' := [jI 1]) (hp' := h) rfl ?_
      exact jE_ret rfl ⟨jrI (by rw [decide_eq_true ⟨by omega, by omega⟩]; rfl), hC1, fun _ => e10 c5, hfr⟩
def jatw (hp : jm_H) (o a b : Int) : Option jm_V → jm_H → Prop := fun rv h => rv = some (jI (jb (decide ((0 ≤ a ∧ a < jln (jmO hp) o) ∧ (0 ≤ b ∧ b < jln (jmO hp) o) ∧ a ≠ b)))) ∧ jMC h ∧ (((0 ≤ a ∧ a < jln (jmO hp) o) ∧ (0 ≤ b ∧ b < jln (jmO hp) o) ∧ a ≠ b) → h 56 10 = 0) ∧ jFq hp h [59, 60, 61, 62, 63, 64, 65, 66, 67, 68, 69, 70, 71, 72] [10, 11, 26]
theorem c_m_areTwo (hp : jm_H) (hC : jMC hp) (o a b : Int) (ho : jR32 o) (ha : jR32 a) (hb : jR32 b) : jm_Ev 180 0 [jR 56, jI o, jI a, jI b] [] hp (jatw hp o a b) := by
  refine jm_Ev.bl 3 (pc' := 3) (A' := [jR 56, jI o, jI a, jI b]) (st' := [jI a, jI o, jR 56]) (hp' := hp) rfl ?_
  refine jE_call (vs := [jR 56, jI o, jI a]) (r := []) (nx := 6) rfl (c_m_isPoint hp hC o a ho ha) (fun rv3 h1 hh => ?_)
  obtain ⟨rfl, hC1, e10, hfr⟩ := hh
  have kfr := jmK_fr hfr (by simp) (by simp) (by simp) (by simp)
  refine jE_ifd_eq rfl (fun c6 => ?_) (fun c6 => ?_)
  · refine jm_Ev.bl 1 (pc' := 28) (A' := [jR 56, jI o, jI a, jI b]) (st' := [jI 0]) (hp' := h1) rfl ?_
    exact jE_ret rfl ⟨jrI (by rw [decide_eq_false (fun z => c6 z.1)]; rfl), hC1, fun z => absurd z (fun z => c6 z.1), hfr⟩
  · refine jm_Ev.bl 3 (pc' := 12) (A' := [jR 56, jI o, jI a, jI b]) (st' := [jI b, jI o, jR 56]) (hp' := h1) rfl ?_
    refine jE_call (vs := [jR 56, jI o, jI b]) (r := []) (nx := 15) rfl (c_m_isPoint h1 hC1 o b ho hb) (fun rv12 h2 hh2 => ?_)
    obtain ⟨rfl, hC2, e102, hfr2⟩ := hh2
    rw [kfr.2] at *
    have hfr3 := hfr.tr hfr2 (V := [59, 60, 61, 62, 63, 64, 65, 66, 67, 68, 69, 70, 71, 72]) (E := [10, 11, 26]) (by simp) (by simp) (by simp) (by simp)
    refine jE_ifd_eq rfl (fun c15 => ?_) (fun c15 => ?_)
    · refine jm_Ev.bl 1 (pc' := 28) (A' := [jR 56, jI o, jI a, jI b]) (st' := [jI 0]) (hp' := h2) rfl ?_
      exact jE_ret rfl ⟨jrI (by rw [decide_eq_false (fun z => c15 z.2.1)]; rfl), hC2, fun z => absurd z (fun z => c15 z.2.1), hfr3⟩
    · refine jm_Ev.bl 2 (pc' := 20) (A' := [jR 56, jI o, jI a, jI b]) (st' := [jI b, jI a]) (hp' := h2) rfl ?_
      refine jE_icmp_eq rfl (by omega) (by omega) (fun c20 => ?_) (fun c20 => ?_)
      · refine jm_Ev.bl 1 (pc' := 28) (A' := [jR 56, jI o, jI a, jI b]) (st' := [jI 0]) (hp' := h2) rfl ?_
        exact jE_ret rfl ⟨jrI (by rw [decide_eq_false (fun z => z.2.2 c20)]; rfl), hC2, fun z => absurd z (fun z => z.2.2 c20), hfr3⟩
      · refine jm_Ev.bl 2 (pc' := 28) (A' := [jR 56, jI o, jI a, jI b]) (st' := [jI 1]) (hp' := h2) rfl ?_
        exact jE_ret rfl ⟨jrI (by rw [decide_eq_true ⟨c6, c15, c20⟩]; rfl), hC2, fun _ => e102 c15, hfr3⟩
