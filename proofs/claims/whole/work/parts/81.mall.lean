/-! the model's layAll, freshen, cornersAll -/
def jML (h : jm_H) (K : Int → Int → Int) (O : List (List jT)) : Prop := jMF h O.flatten ∧ jMO h K O ∧ ∀ (i : Nat) q, O[i]? = some q → jMv h K ((O.take i).flatten.length : Int) i q
theorem jMF_fr {hp h : jm_H} {F : List jT} (hq : jMF hp F) (e : ∀ q, 59 ≤ q → q ≤ 66 → q ≠ 65 → h q = hp q) : jMF h F := by
  unfold jMF at *
  rw [e 61 (by omega) (by omega) (by omega), e 62 (by omega) (by omega) (by omega), e 66 (by omega) (by omega) (by omega)]
  exact hq
theorem jMO_fr {hp h : jm_H} {K : Int → Int → Int} {O : List (List jT)} (hq : jMO hp K O) (e0 : h 56 11 = hp 56 11) (e : ∀ q, 59 ≤ q → q ≤ 66 → q ≠ 65 → h q = hp q) : jMO h K O := by
  unfold jMO at *
  rw [e0, e 59 (by omega) (by omega) (by omega), e 60 (by omega) (by omega) (by omega), e 63 (by omega) (by omega) (by omega), e 64 (by omega) (by omega) (by omega)]
  exact hq
theorem jMv_fr {hp h : jm_H} {K : Int → Int → Int} {s i : Int} {q : List jT} (hq : jMv hp K s i q) (e1 : h 71 i = hp 71 i) (e2 : h 72 i = hp 72 i) (e3 : ∀ x : Int, 0 ≤ x → x < q.length → h 65 (s + x) = hp 65 (s + x)) : jMv h K s i q := by
  obtain ⟨a, b, c⟩ := hq
  exact ⟨by rw [e1]; exact a, by rw [e2]; exact b, fun y y0 y1 => by rw [e3 y y0 y1]; exact c y y0 y1⟩
theorem jML_fr {hp h : jm_H} {K : Int → Int → Int} {O : List (List jT)} (hq : jML hp K O) (e0 : h 56 11 = hp 56 11) (e : ∀ q, 59 ≤ q → q ≤ 72 → h q = hp q) : jML h K O := by
  refine ⟨jMF_fr hq.1 (fun q a b _ => e q a (by omega)), jMO_fr hq.2.1 e0 (fun q a b _ => e q a (by omega)), fun i q hi => jMv_fr (hq.2.2 i q hi) ?_ ?_ ?_⟩
  · rw [e 71 (by omega) (by omega)]
  · rw [e 72 (by omega) (by omega)]
  · intro x _ _; rw [e 65 (by omega) (by omega)]
def jmK (hp : jm_H) : Int → Int → Int := jgk (hp 56 6) (hp 56 7) (hp 58)
def jmO (hp : jm_H) : List (List jT) := jSc (jmK hp) 144
def jla (hp : jm_H) : Option jm_V → jm_H → Prop := fun rv h => rv = none ∧ jML h (jmK hp) (jmO hp) ∧ jFq hp h [59, 60, 61, 62, 63, 64, 65, 66, 67, 68, 69, 70, 71, 72] [11, 26]
theorem jmK5 {hp : jm_H} (hM : jMG hp) : jK5 (jmK hp) := jK5_of hM.2.1 hM.2.2.2.1
theorem jmOI {hp : jm_H} (hM : jMG hp) : jInv (jmK hp) (jmO hp) := jSc_inv (jmK5 hM) 144
theorem c_m_layAll_L (hp : jm_H) (hM : jMG hp) (hl : (jmO hp).length ≤ 15) : ∀ (m : Nat) (i : Nat) (h : jm_H), i ≤ (jmO hp).length → jMF h (jmO hp).flatten → jMO h (jmK hp) (jmO hp) → (∀ (j : Nat) r, j < i → (jmO hp)[j]? = some r → jMv h (jmK hp) (((jmO hp).take j).flatten.length : Int) j r) → jFq hp h [59, 60, 61, 62, 63, 64, 65, 66, 67, 68, 69, 70, 71, 72] [11, 26] → (jmO hp).length - i < m → jm_Ev 168 6 [jR 56, jI (i : Int)] [] h (jla hp) := by
  intro n
  induction n with
  | zero => intro i h h1 hMF hMO hmv0 hfr hm; omega
  | succ n ih =>
    intro i h h1 hMF hMO hmv0 hfr hm
    refine jm_Ev.bl 3 (pc' := 11) (A' := [jR 56, jI (i : Int)]) (st' := [jI (h 56 11), jI (i : Int)]) (hp' := h) rfl ?_
    rw [show h 56 11 = ((jmO hp).length : Int) from hMO.1]
    refine jE_icmp_ge rfl (by omega) (by omega) (fun c11 => ?_) (fun c11 => ?_)
    · exact jE_ret rfl ⟨rfl, ⟨hMF, hMO, fun j r hr => hmv0 j r (by have := (List.getElem?_eq_some_iff.mp hr).1; omega) hr⟩, hfr⟩
    · obtain ⟨q, hq⟩ : ∃ q, (jmO hp)[i]? = some q := ⟨_, List.getElem?_eq_getElem (show i < (jmO hp).length by omega)⟩
      have hK := jmK5 hM
      have hI := jmOI hM
      have hV := jVm_of hK hI hMF hMO hq
      have hW := jOw hK hI hq
      have hPw := jOP hK hI hq
      refine jm_Ev.bl 2 (pc' := 16) (A' := [jR 56, jI (i : Int)]) (st' := [jI (i : Int), jR 56]) (hp' := h) rfl ?_
      refine jE_call (vs := [jR 56, jI (i : Int)]) (r := []) (nx := 19) rfl (c_m_layPens h (jmK hp) q i (((jmO hp).take i).flatten.length : Int) hV hW) (fun rv16 h2 hh => ?_)
      obtain ⟨rfl, hpe, hfr2⟩ := hh
      refine jm_Ev.bl 2 (pc' := 21) (A' := [jR 56, jI (i : Int)]) (st' := [jI (i : Int), jR 56]) (hp' := h2) rfl ?_
      refine jE_call (vs := [jR 56, jI (i : Int)]) (r := []) (nx := 24) rfl (c_m_layBest h2 (jmK hp) q i (((jmO hp).take i).flatten.length : Int) (jVm_fr hV (fun w _ _ => hfr2.pl w (by simp; omega) (by omega))) hPw hpe) (fun rv21 h3 hh3 => ?_)
      obtain ⟨rfl, hmv, ho1, ho2, hfr3⟩ := hh3
      refine jm_Ev.bl 2 (pc' := 6) (A' := [jR 56, jI ((i : Int) + 1)]) (st' := []) (hp' := h3) rfl ?_
      have e59 : ∀ w, 59 ≤ w → w ≤ 66 → w ≠ 65 → h3 w = h w := fun w a b c => (hfr3.pl w (by simp; omega) (by omega)).trans (hfr2.pl w (by simp; omega) (by omega))
      have z := ih (i + 1) h3 (by omega) (jMF_fr hMF e59) (jMO_fr hMO ((hfr3.fd 11 (by simp) (by simp)).trans (hfr2.fd 11 (by simp) (by simp))) e59) (fun j r hj hr => by
        by_cases e : j = i
        · subst e
          have := jsame hq hr
          subst this
          exact hmv
        · have d := jdisj hq hr (Ne.symm e)
          have o1 := ho1 (j : Int) (by omega)
          refine jMv_fr (hmv0 j r (by omega) hr) (o1.1.trans (congrFun (hfr2.pl 71 (by simp) (by simp)) _)) (o1.2.trans (congrFun (hfr2.pl 72 (by simp) (by simp)) _)) (fun y y0 y1 => ?_)
          exact (ho2 ((((jmO hp).take j).flatten.length : Int) + y) (by omega)).trans (congrFun (hfr2.pl 65 (by simp) (by simp)) _)) (hfr.tr (hfr2.tr hfr3 (V := [59, 60, 61, 62, 63, 64, 65, 66, 67, 68, 69, 70, 71, 72]) (E := [11, 26]) (by simp) (by simp) (by simp) (by simp)) (by simp) (by simp) (by simp) (by simp)) (by omega)
      rw [show ((i + 1 : Nat) : Int) = (i : Int) + 1 by omega] at z
      exact z
theorem c_m_layAll (hp : jm_H) (hM : jMG hp) : jm_Ev 168 0 [jR 56, jU] [] hp (jla hp) := by
  refine jm_Ev.bl 1 (pc' := 1) (A' := [jR 56, jU]) (st' := [jR 56]) (hp' := hp) rfl ?_
  refine jE_call (vs := [jR 56]) (r := []) (nx := 4) rfl (c_m_layOutlines hp hM) (fun rv1 h hh => ?_)
  obtain ⟨rfl, hMF, hMO, hfr⟩ := hh
  refine jm_Ev.bl 2 (pc' := 6) (A' := [jR 56, jI 0]) (st' := []) (hp' := h) rfl ?_
  have hl : (jmO hp).length ≤ 15 := jInv_15 (jmK5 hM) (jmOI hM)
  exact c_m_layAll_L hp hM hl 16 0 h (by omega) hMF hMO (fun j r a _ => by omega) (hfr.wk (by simp) (by simp)) (by omega)
/-- fresh -/
def jfre (hp : jm_H) : Option jm_V → jm_H → Prop := fun rv h => rv = none ∧ h 56 10 = 0 ∧ jML h (jmK hp) (jmO hp) ∧ jFq hp h [59, 60, 61, 62, 63, 64, 65, 66, 67, 68, 69, 70, 71, 72] [10, 11, 26]
theorem c_m_freshen (hp : jm_H) (hM : jMG hp) (h10 : hp 56 10 = 0 ∨ hp 56 10 = 1) (hF : hp 56 10 = 0 → jML hp (jmK hp) (jmO hp)) : jm_Ev 169 0 [jR 56] [] hp (jfre hp) := by
  refine jm_Ev.bl 2 (pc' := 4) (A' := [jR 56]) (st' := [jI (hp 56 10)]) (hp' := hp) rfl ?_
  refine jE_if_eq rfl (by omega) (fun c4 => ?_) (fun c4 => ?_)
  · exact jE_ret rfl ⟨rfl, c4, hF c4, jFq.rf⟩
  · refine jm_Ev.bl 1 (pc' := 8) (A' := [jR 56]) (st' := [jR 56]) (hp' := hp) rfl ?_
    refine jE_call (vs := [jR 56]) (r := []) (nx := 11) rfl (c_m_layAll hp hM) (fun rv8 h hh => ?_)
    obtain ⟨rfl, hL, hfr⟩ := hh
    refine jm_Ev.bl 3 (pc' := 16) (A' := [jR 56]) (st' := []) (hp' := (jm_hs h 56 10 0)) rfl ?_
    exact jE_ret rfl ⟨rfl, rfl, jML_fr hL rfl (fun q a b => js_hs_ne (by omega)), (hfr.wk (V := [59, 60, 61, 62, 63, 64, 65, 66, 67, 68, 69, 70, 71, 72]) (E := [10, 11, 26]) (by simp) (by simp)).sf (by simp)⟩
/-- all corners -/
def jalc (K : Int → Int → Int) (O : List (List jT)) : Nat → Int
  | 0 => 0
  | i + 1 => jalc K O i + jlq K ((O[i]?).getD [])
theorem jalc_s {K : Int → Int → Int} {O : List (List jT)} {i : Nat} {q : List jT} (h : O[i]? = some q) : jalc K O (i + 1) = jalc K O i + jlq K q := by
  show jalc K O i + jlq K ((O[i]?).getD []) = _
  rw [h]
  rfl
theorem c_m_cornersAll_L (hp : jm_H) (K : Int → Int → Int) (O : List (List jT)) (hL : jML hp K O) (hl : O.length ≤ 15) : ∀ (m : Nat) (i : Nat), i ≤ O.length → O.length - i < m → jm_Ev 170 4 [jR 56, jI (jalc K O i), jI (i : Int)] [] hp (jK (some (jI (jalc K O O.length))) hp) := by
  intro n
  induction n with
  | zero => intro i h1 hm; omega
  | succ n ih =>
    intro i h1 hm
    refine jm_Ev.bl 3 (pc' := 9) (A' := [jR 56, jI (jalc K O i), jI (i : Int)]) (st' := [jI (hp 56 11), jI (i : Int)]) (hp' := hp) rfl ?_
    rw [show hp 56 11 = (O.length : Int) from hL.2.1.1]
    refine jE_icmp_ge rfl (by omega) (by omega) (fun c9 => ?_) (fun c9 => ?_)
    · refine jm_Ev.bl 1 (pc' := 28) (A' := [jR 56, jI (jalc K O i), jI (i : Int)]) (st' := [jI (jalc K O i)]) (hp' := hp) rfl ?_
      exact jE_ret rfl ⟨jrI (by rw [show i = O.length by omega]), rfl⟩
    · obtain ⟨q, hq⟩ : ∃ q, O[i]? = some q := ⟨_, List.getElem?_eq_getElem (show i < O.length by omega)⟩
      refine jm_Ev.bl 4 (pc' := 18) (A' := [jR 56, jI (jalc K O i), jI (i : Int)]) (st' := [jI (i : Int), jR 71, jI (jalc K O i)]) (hp' := hp) rfl ?_
      refine jE_iald (n := 32) (f := hp 71) rfl rfl (by omega) ?_
      refine jE_top (w := (jlq K q)) ((hL.2.2 i q hq).1) ?_
      refine jm_Ev.bl 4 (pc' := 4) (A' := [jR 56, jI ((jalc K O i) + (jlq K q)), jI ((i : Int) + 1)]) (st' := []) (hp' := hp) rfl ?_
      have z := ih (i + 1) (by omega) (by omega)
      rw [jalc_s hq, show ((i + 1 : Nat) : Int) = (i : Int) + 1 by omega] at z
      exact z
theorem c_m_cornersAll (hp : jm_H) (K : Int → Int → Int) (O : List (List jT)) (hL : jML hp K O) (hl : O.length ≤ 15) : jm_Ev 170 0 [jR 56, jU, jU] [] hp (jK (some (jI (jalc K O O.length))) hp) := by
  refine jm_Ev.bl 4 (pc' := 4) (A' := [jR 56, jI 0, jI 0]) (st' := []) (hp' := hp) rfl ?_
  exact c_m_cornersAll_L hp K O hL hl 16 0 (by omega) (by omega)
