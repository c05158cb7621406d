/-! dots changed; blobs that are tried; the class -/
def jK0 (hp : jm_H) : Int → Int → Int := jgk (hp 3 1) (hp 3 2) (hp 4)
def jO0 (hp : jm_H) : List (List jT) := jSc (jK0 hp) 144
theorem jgk_cg {w h : Int} {d e : Int → Int} (hd : ∀ j, 0 ≤ j → j < w * h → d j = e j) : jgk w h d = jgk w h e := by
  funext x y
  unfold jgk
  split
  · rename_i z
    have a : 0 ≤ y * w := Int.mul_nonneg z.2.2.1 (by omega)
    have b : (y + 1) * w ≤ h * w := Int.mul_le_mul_of_nonneg_right (by omega) (by omega)
    rw [Int.add_mul, Int.mul_comm h w] at b
    exact hd _ (by omega) (by omega)
  · rfl
def jdch (hp : jm_H) : Option jm_V → jm_H → Prop := fun rv h => rv = none ∧ (∀ k, 0 ≤ k → k < 5 → h 19 k = 0) ∧ jCl h (jK0 hp) (jO0 hp) ∧ jFr hp h [19, 20, 21, 22, 23, 24, 25, 26, 27, 28, 29, 30, 31, 34, 35]
theorem c_j_reset_31 (hp : jm_H) : jm_Ev 39 0 [jR 31] [] hp (jK none (jm_hs hp 31 2 (-1))) := by
  refine jm_Ev.bl 3 (pc' := 5) (A' := [jR 31]) (st' := []) (hp' := (jm_hs hp 31 2 (-1))) rfl ?_
  exact jE_ret rfl ⟨rfl, rfl⟩
theorem c_j_reset_54 (hp : jm_H) : jm_Ev 39 0 [jR 54] [] hp (jK none (jm_hs hp 54 2 (-1))) := by
  refine jm_Ev.bl 3 (pc' := 5) (A' := [jR 54]) (st' := []) (hp' := (jm_hs hp 54 2 (-1))) rfl ?_
  exact jE_ret rfl ⟨rfl, rfl⟩
theorem c_x_dotsChanged (hp : jm_H) (hG : jG hp 3 4) : jm_Ev 123 0 [jR 0] [] hp (jdch hp) := by
  refine jm_Ev.bl 2 (pc' := 4) (A' := [jR 0]) (st' := [jR 17]) (hp' := hp) rfl ?_
  refine jE_callV (vs := [jR 17]) (r := []) (nx := 7) (hp1 := (jm_hs (jm_hs (jm_hs (jm_hs (jm_hs hp 19 0 0) 19 1 0) 19 2 0) 19 3 0) 19 4 0)) rfl (c_r_clear hp) ?_
  refine jm_Ev.bl 4 (pc' := 15) (A' := [jR 0]) (st' := [jR 3, jR 20]) (hp' := (jm_hs (jm_hs (jm_hs (jm_hs (jm_hs hp 19 0 0) 19 1 0) 19 2 0) 19 3 0) 19 4 0)) rfl ?_
  refine jE_call (vs := [jR 20, jR 3]) (r := []) (nx := 18) rfl (c_o_trace_20 (jm_hs (jm_hs (jm_hs (jm_hs (jm_hs hp 19 0 0) 19 1 0) 19 2 0) 19 3 0) 19 4 0) hG) (fun rv15 h1 hh => ?_)
  obtain ⟨rfl, hO, hfr⟩ := hh
  refine jm_Ev.bl 2 (pc' := 22) (A' := [jR 0]) (st' := [jR 31]) (hp' := h1) rfl ?_
  refine jE_callV (vs := [jR 31]) (r := []) (nx := 25) (hp1 := (jm_hs h1 31 2 (-1))) rfl (c_j_reset_31 h1) ?_
  refine jm_Ev.bl 2 (pc' := 29) (A' := [jR 0]) (st' := [jR 33]) (hp' := (jm_hs h1 31 2 (-1))) rfl ?_
  refine jE_call (vs := [jR 33]) (r := []) (nx := 32) rfl (c_b_reset (jm_hs h1 31 2 (-1))) (fun rv29 h2 hh2 => ?_)
  obtain ⟨rfl, hz, hfr2⟩ := hh2
  have fb : ∀ w, w ∉ [31, 34, 35] → h2 w = h1 w := fun w hw => (hfr2 w (by simp at hw ⊢; omega)).trans (js_hs_ne (by simp at hw; omega))
  have hK : jK5 (jK0 hp) := jK5_of hG.2.1 hG.2.2.2.1
  have hI : jInv (jK0 hp) (jO0 hp) := jSc_inv hK 144
  refine jE_ret rfl ⟨rfl, ?_, ⟨hK, hI, jCO_fr hO (fun w a b => fb w (by simp; omega)), ?_, ?_, ?_⟩, ?_⟩
  · intro k k0 k1
    rw [fb 19 (by simp), hfr 19 (by simp)]
    rcases (show k = 0 ∨ k = 1 ∨ k = 2 ∨ k = 3 ∨ k = 4 by omega) with rfl | rfl | rfl | rfl | rfl <;> rfl
  · rw [show h2 31 2 = -1 from congrFun (hfr2 31 (by simp)) 2]; exact ⟨by omega, by omega⟩
  · intro i q hq e
    rw [show h2 31 2 = -1 from congrFun (hfr2 31 (by simp)) 2] at e
    omega
  · intro i q hq
    have l := jOs hK hI hq
    have z := hz (i : Int) (by omega) (by omega)
    exact ⟨Or.inl z.1, Or.inl z.2⟩
  · intro w hw
    have hw2 := hw
    simp at hw2
    exact (fb w (by simp; omega)).trans ((hfr w (by simp; omega)).trans ((js_hs_ne (by omega)).trans ((js_hs_ne (by omega)).trans ((js_hs_ne (by omega)).trans ((js_hs_ne (by omega)).trans (js_hs_ne (by omega)))))))
def jtcr (hp : jm_H) (v : Int) : Option jm_V → jm_H → Prop := fun rv h => rv = some (jI v) ∧ jFr hp h [54, 55]
theorem jalc_le {K : Int → Int → Int} (hK : jK5 K) {O : List (List jT)} (hI : jInv K O) : ∀ n : Nat, n ≤ O.length → 0 ≤ jalc K O n ∧ jalc K O n ≤ ((O.take n).flatten.length : Int) := by
  intro n
  induction n with
  | zero => intro _; unfold jalc; simp
  | succ n ih =>
    intro hn
    have a := ih (by omega)
    obtain ⟨q, hq⟩ : ∃ q, O[n]? = some q := ⟨_, List.getElem?_eq_getElem (show n < O.length by omega)⟩
    have b := jlq_r (jOP hK hI hq)
    rw [jalc_s hq, jfl_take hq, List.length_append]
    omega
theorem jalc_60 {K : Int → Int → Int} (hK : jK5 K) {O : List (List jT)} (hI : jInv K O) : 0 ≤ jalc K O O.length ∧ jalc K O O.length ≤ 60 := by
  have a := jalc_le hK hI O.length (by omega)
  have b := jInv_60 hK hI
  rw [List.take_length] at a
  omega
theorem c_x_tried_L (hp : jm_H) (K : Int → Int → Int) (O : List (List jT)) (hK : jK5 K) (hI : jInv K O) (hO : jCO_43 hp K O) (hl : O.length ≤ 15) : ∀ (m : Nat) (i : Nat) (h : jm_H), i ≤ O.length → (-1 ≤ h 54 2 ∧ h 54 2 < i) → jFr hp h [54, 55] → O.length - i < m → jm_Ev 125 11 [jR 0, jI (jalc K O i), jI (i : Int)] [] h (jtcr hp (jalc K O O.length)) := by
  intro fu
  induction fu with
  | zero => intro i h h1 e2 hfr hm; omega
  | succ fu ih =>
    intro i h h1 e2 hfr hm
    refine jm_Ev.bl 4 (pc' := 19) (A' := [jR 0, jI (jalc K O i), jI (i : Int)]) (st' := [jI (h 43 0), jI (i : Int)]) (hp' := h) rfl ?_
    rw [show h 43 0 = (O.length : Int) from (congrFun (hfr 43 (by simp)) 0).trans hO.1]
    refine jE_icmp_ge rfl (by omega) (by omega) (fun c19 => ?_) (fun c19 => ?_)
    · refine jm_Ev.bl 1 (pc' := 47) (A' := [jR 0, jI (jalc K O i), jI (i : Int)]) (st' := [jI (jalc K O i)]) (hp' := h) rfl ?_
      exact jE_ret rfl ⟨jrI (by rw [show i = O.length by omega]), hfr⟩
    · obtain ⟨q, hq⟩ : ∃ q, O[i]? = some q := ⟨_, List.getElem?_eq_getElem (show i < O.length by omega)⟩
      have hW := jOw hK hI hq
      have hPw := jOP hK hI hq
      have hV := jVo_fr_43 (jVo_of_43 hK hI hO hq) (h := h) (fun w a b => hfr w (by simp; omega))
      refine jm_Ev.bl 3 (pc' := 27) (A' := [jR 0, jI (jalc K O i), jI (i : Int)]) (st' := [jI (i : Int), jR 54]) (hp' := h) rfl ?_
      refine jE_call (vs := [jR 54, jI (i : Int)]) (r := []) (nx := 30) rfl (c_j_fill_54 h i ((O.take i).flatten.length : Int) q.length (jpx q) (jpy q) (jpl_ K q) (jpm K q) hV hW (fun z => by omega) ⟨by omega, by omega⟩) (fun rv27 h1 hh => ?_)
      obtain ⟨rfl, e2, e3, hfl, hfr1⟩ := hh
      have hJ : jJr (h1 55) q.length (jPP K q) := jJr_of hW hfl
      refine jm_Ev.bl 3 (pc' := 35) (A' := [jR 0, jI (jalc K O i), jI (i : Int)]) (st' := [jR 54, jI (jalc K O i)]) (hp' := h1) rfl ?_
      refine jE_callI (vs := [jR 54]) (r := [jI (jalc K O i)]) (nx := 38) (v := jI (jlq K q)) (hp1 := h1) rfl (c_j_fewest_54 h1 q.length (jPP K q) hJ hPw e3) ?_
      refine jm_Ev.bl 4 (pc' := 11) (A' := [jR 0, jI ((jalc K O i) + (jlq K q)), jI ((i : Int) + 1)]) (st' := []) (hp' := h1) rfl ?_
      have z := ih (i + 1) h1 (by omega) (by omega) (hfr.tr hfr1 (by simp) (by simp)) (by omega)
      rw [jalc_s hq, show ((i + 1 : Nat) : Int) = (i : Int) + 1 by omega] at z
      exact z
theorem c_x_tried (hp : jm_H) (K : Int → Int → Int) (O : List (List jT)) (hK : jK5 K) (hI : jInv K O) (hO : jCO_43 hp K O) : jm_Ev 125 0 [jR 0, jU, jU] [] hp (jtcr hp (jalc K O O.length)) := by
  refine jm_Ev.bl 4 (pc' := 6) (A' := [jR 0, jI 0, jU]) (st' := [jR 54]) (hp' := hp) rfl ?_
  refine jE_callV (vs := [jR 54]) (r := []) (nx := 9) (hp1 := (jm_hs hp 54 2 (-1))) rfl (c_j_reset_54 hp) ?_
  refine jm_Ev.bl 2 (pc' := 11) (A' := [jR 0, jI 0, jI 0]) (st' := []) (hp' := (jm_hs hp 54 2 (-1))) rfl ?_
  have hl := jInv_15 hK hI
  exact c_x_tried_L hp K O hK hI hO hl 16 0 _ (by omega) (by show -1 ≤ (-1 : Int) ∧ (-1 : Int) < ((0 : Nat) : Int); omega) (jFr.rf.set (by simp)) (by omega)
/-- a blob without one dot -/
def jwd (d : Int → Int) (p : Int) : Int → Int := fun j => if j = p then -1 else d j
def jcor (w h : Int) (d : Int → Int) : Int := jalc (jgk w h d) (jSc (jgk w h d) 144) (jSc (jgk w h d) 144).length
theorem jcor_r {w h : Int} {d : Int → Int} (hw : w ≤ 5) (hh : h ≤ 5) : 0 ≤ jcor w h d ∧ jcor w h d ≤ 60 := jalc_60 (jK5_of hw hh) (jSc_inv (jK5_of hw hh) 144)
theorem jcor_cg {w h : Int} {d e : Int → Int} (hd : ∀ j, 0 ≤ j → j < w * h → d j = e j) : jcor w h d = jcor w h e := by
  unfold jcor
  rw [jgk_cg hd]
def jwf (w h : Int) (d : Int → Int) : Nat → Int × Int
  | 0 => (61, -1)
  | p + 1 => if d p ≠ -1 ∧ jcor w h (jwd d p) < (jwf w h d p).1 then (jcor w h (jwd d p), (p : Int)) else jwf w h d p
theorem jwf_s {w h : Int} {d : Int → Int} {p : Int} (h0 : 0 ≤ p) : jwf w h d (p + 1).toNat = if d p ≠ -1 ∧ jcor w h (jwd d p) < (jwf w h d p.toNat).1 then (jcor w h (jwd d p), p) else jwf w h d p.toNat := by
  have e : (p + 1).toNat = p.toNat + 1 := by omega
  have e2 : ((p.toNat : Nat) : Int) = p := by omega
  rw [e]
  conv => lhs; unfold jwf
  rw [e2]
theorem jwf_r {w h : Int} {d : Int → Int} (hw : w ≤ 5) (hh : h ≤ 5) (n : Nat) : 0 ≤ (jwf w h d n).1 ∧ (jwf w h d n).1 ≤ 61 ∧ -1 ≤ (jwf w h d n).2 ∧ (jwf w h d n).2 < n ∧ ((jwf w h d n).2 = -1 ↔ (jwf w h d n).1 = 61) := by
  induction n with
  | zero => unfold jwf; exact ⟨by decide, by decide, by decide, by decide, by decide⟩
  | succ n ih =>
    unfold jwf
    split
    · have := jcor_r (w := w) (h := h) (d := jwd d n) hw hh
      refine ⟨by show 0 ≤ jcor w h (jwd d n); omega, by show jcor w h (jwd d n) ≤ 61; omega, by show -1 ≤ (n : Int); omega, by show (n : Int) < _; omega, ?_⟩
      show (n : Int) = -1 ↔ jcor w h (jwd d n) = 61
      constructor <;> intro z <;> omega
    · exact ⟨ih.1, ih.2.1, ih.2.2.1, by have := ih.2.2.2.1; omega, ih.2.2.2.2⟩
def jhv (hp : jm_H) : Option jm_V → jm_H → Prop := fun rv h => rv = some (jI (jwf (hp 3 1) (hp 3 2) (hp 4) (hp 3 1 * hp 3 2).toNat).2) ∧ jG h 5 6 ∧ jFr hp h [5, 6, 43, 44, 45, 46, 47, 48, 49, 50, 51, 52, 53, 54, 55]
theorem c_x_heavy_L (hp : jm_H) (hG : jG hp 3 4) : ∀ (m : Nat) (p : Int) (z : jm_V) (h : jm_H), 0 ≤ p → p ≤ hp 3 1 * hp 3 2 → jG h 5 6 → jFr hp h [5, 6, 43, 44, 45, 46, 47, 48, 49, 50, 51, 52, 53, 54, 55] → hp 3 1 * hp 3 2 - p < m → jm_Ev 126 7 [jR 0, jI ((jwf (hp 3 1) (hp 3 2) (hp 4) p.toNat).1), jI ((jwf (hp 3 1) (hp 3 2) (hp 4) p.toNat).2), jI p, z] [] h (jhv hp) := by
  have hwh := jm_mulb hG.1 hG.2.1 hG.2.2.1 hG.2.2.2.1
  intro fu
  induction fu with
  | zero => intro p z h h0 h1 hG5 hfr hm; omega
  | succ fu ih =>
    intro p z h h0 h1 hG5 hfr hm
    have hwr := jwf_r (w := hp 3 1) (h := hp 3 2) (d := hp 4) hG.2.1 hG.2.2.2.1 p.toNat
    refine jm_Ev.bl 3 (pc' := 12) (A' := [jR 0, jI ((jwf (hp 3 1) (hp 3 2) (hp 4) p.toNat).1), jI ((jwf (hp 3 1) (hp 3 2) (hp 4) p.toNat).2), jI p, z]) (st' := [jR 3, jI p]) (hp' := h) rfl ?_
    refine jE_callI (vs := [jR 3]) (r := [jI p]) (nx := 15) (v := jI (hp 3 1 * hp 3 2)) (hp1 := h) rfl ((hfr 3 (by simp)) ▸ c_g_places_3 h) ?_
    refine jE_icmp_ge rfl (by omega) (by omega) (fun c15 => ?_) (fun c15 => ?_)
    · refine jm_Ev.bl 1 (pc' := 88) (A' := [jR 0, jI ((jwf (hp 3 1) (hp 3 2) (hp 4) p.toNat).1), jI ((jwf (hp 3 1) (hp 3 2) (hp 4) p.toNat).2), jI p, z]) (st' := [jI ((jwf (hp 3 1) (hp 3 2) (hp 4) p.toNat).2)]) (hp' := h) rfl ?_
      exact jE_ret rfl ⟨jrI (by rw [show p = hp 3 1 * hp 3 2 by omega]), hG5, hfr⟩
    · have ek : jgp (h 3 1) (h 3 2) (h 4) p = hp 4 p := by
        unfold jgp; rw [(hfr 3 (by simp)), (hfr 4 (by simp)), if_pos ⟨by omega, by omega⟩]
      have hkr := hG.2.2.2.2 p (by omega) (by omega)
      have hws := jwf_s (w := hp 3 1) (h := hp 3 2) (d := hp 4) (p := p) (by omega)
      have hcr := jcor_r (w := hp 3 1) (h := hp 3 2) (d := jwd (hp 4) p) hG.2.1 hG.2.2.2.1
      refine jm_Ev.bl 3 (pc' := 23) (A' := [jR 0, jI ((jwf (hp 3 1) (hp 3 2) (hp 4) p.toNat).1), jI ((jwf (hp 3 1) (hp 3 2) (hp 4) p.toNat).2), jI p, z]) (st' := [jI p, jR 3]) (hp' := h) rfl ?_
      refine jE_callI (vs := [jR 3, jI p]) (r := []) (nx := 26) (v := jI (hp 4 p)) (hp1 := h) rfl (ek ▸ c_g_kindAt_3 h (by unfold jG; rw [(hfr 3 (by simp)), (hfr 4 (by simp))]; exact hG) p (by omega)) ?_
      refine jm_Ev.bl 1 (pc' := 27) (A' := [jR 0, jI ((jwf (hp 3 1) (hp 3 2) (hp 4) p.toNat).1), jI ((jwf (hp 3 1) (hp 3 2) (hp 4) p.toNat).2), jI p, z]) (st' := [jI (-1), jI (hp 4 p)]) (hp' := h) rfl ?_
      refine jE_icmp_ne rfl (by omega) (by omega) (fun c27 => ?_) (fun c27 => ?_)
      · refine jm_Ev.bl 4 (pc' := 41) (A' := [jR 0, jI ((jwf (hp 3 1) (hp 3 2) (hp 4) p.toNat).1), jI ((jwf (hp 3 1) (hp 3 2) (hp 4) p.toNat).2), jI p, z]) (st' := [jR 3, jR 5]) (hp' := h) rfl ?_
        refine jE_call (vs := [jR 5, jR 3]) (r := []) (nx := 44) rfl (c_g_copy_5_3 h) (fun rv41 h1 hh => ?_)
        obtain ⟨rfl, a1, a2, a3, hf1⟩ := hh
        rw [(hfr 3 (by simp))] at a1 a2
        rw [(hfr 4 (by simp))] at a3
        have hG1 : jG h1 5 6 := ⟨by rw [a1]; exact hG.1, by rw [a1]; exact hG.2.1, by rw [a2]; exact hG.2.2.1, by rw [a2]; exact hG.2.2.2.1, fun j j0 j1 => by rw [a3 j j0 j1]; exact hG.2.2.2.2 j j0 j1⟩
        refine jm_Ev.bl 4 (pc' := 50) (A' := [jR 0, jI ((jwf (hp 3 1) (hp 3 2) (hp 4) p.toNat).1), jI ((jwf (hp 3 1) (hp 3 2) (hp 4) p.toNat).2), jI p, z]) (st' := [jI (-1), jI p, jR 5]) (hp' := h1) rfl ?_
        refine jE_callV (vs := [jR 5, jI p, jI (-1)]) (r := []) (nx := 53) (hp1 := (jm_hs h1 6 p (-1))) rfl (c_g_set_5 h1 hG1 p (-1) (by omega) (by rw [a1, a2]; omega)) ?_
        have hG2 : jG (jm_hs h1 6 p (-1)) 5 6 := ⟨hG1.1, hG1.2.1, hG1.2.2.1, hG1.2.2.2.1, jhs_in hG1.2.2.2.2 ⟨by omega, by omega⟩⟩
        have eK : jgk (jm_hs h1 6 p (-1) 5 1) (jm_hs h1 6 p (-1) 5 2) (jm_hs h1 6 p (-1) 6) = jgk (hp 3 1) (hp 3 2) (jwd (hp 4) p) := by
          rw [show jm_hs h1 6 p (-1) 5 1 = hp 3 1 from a1, show jm_hs h1 6 p (-1) 5 2 = hp 3 2 from a2]
          refine jgk_cg (fun j j0 j1 => ?_)
          rw [js_hs_eq]
          unfold jwd
          split
          · rfl
          · exact a3 j j0 (by omega)
        refine jm_Ev.bl 4 (pc' := 61) (A' := [jR 0, jI ((jwf (hp 3 1) (hp 3 2) (hp 4) p.toNat).1), jI ((jwf (hp 3 1) (hp 3 2) (hp 4) p.toNat).2), jI p, z]) (st' := [jR 5, jR 43]) (hp' := (jm_hs h1 6 p (-1))) rfl ?_
        refine jE_call (vs := [jR 43, jR 5]) (r := []) (nx := 64) rfl (c_o_trace_43 (jm_hs h1 6 p (-1)) hG2) (fun rv61 h2 hh2 => ?_)
        obtain ⟨rfl, hO, hf2⟩ := hh2
        rw [eK] at hO
        refine jm_Ev.bl 1 (pc' := 65) (A' := [jR 0, jI ((jwf (hp 3 1) (hp 3 2) (hp 4) p.toNat).1), jI ((jwf (hp 3 1) (hp 3 2) (hp 4) p.toNat).2), jI p, z]) (st' := [jR 0]) (hp' := h2) rfl ?_
        refine jE_call (vs := [jR 0]) (r := []) (nx := 68) rfl (c_x_tried h2 _ _ (jK5_of hG.2.1 hG.2.2.2.1) (jSc_inv (jK5_of hG.2.1 hG.2.2.2.1) 144) hO) (fun rv65 h3 hh3 => ?_)
        obtain ⟨rfl, hf3⟩ := hh3
        have hG3 : jG h3 5 6 := by unfold jG; rw [hf3 5 (by simp), hf2 5 (by simp), hf3 6 (by simp), hf2 6 (by simp)]; exact hG2
        have hf4 : jFr hp h3 [5, 6, 43, 44, 45, 46, 47, 48, 49, 50, 51, 52, 53, 54, 55] := hfr.tr (((hf1.set (j := p) (v := -1) (by simp)).tr hf2 (V := [5, 6, 43, 44, 45, 46, 47, 48, 49, 50, 51, 52, 53]) (by simp) (by simp)).tr hf3 (V := [5, 6, 43, 44, 45, 46, 47, 48, 49, 50, 51, 52, 53, 54, 55]) (by simp) (by simp)) (by simp) (by simp)
        refine jm_Ev.bl 3 (pc' := 73) (A' := [jR 0, jI ((jwf (hp 3 1) (hp 3 2) (hp 4) p.toNat).1), jI ((jwf (hp 3 1) (hp 3 2) (hp 4) p.toNat).2), jI p, jI (jcor (hp 3 1) (hp 3 2) (jwd (hp 4) p))]) (st' := [jI ((jwf (hp 3 1) (hp 3 2) (hp 4) p.toNat).1), jI (jcor (hp 3 1) (hp 3 2) (jwd (hp 4) p))]) (hp' := h3) rfl ?_
        refine jE_icmp_ge rfl (by omega) (by omega) (fun c73 => ?_) (fun c73 => ?_)
        · refine jm_Ev.bl 2 (pc' := 7) (A' := [jR 0, jI ((jwf (hp 3 1) (hp 3 2) (hp 4) p.toNat).1), jI ((jwf (hp 3 1) (hp 3 2) (hp 4) p.toNat).2), jI (p + 1), jI (jcor (hp 3 1) (hp 3 2) (jwd (hp 4) p))]) (st' := []) (hp' := h3) rfl ?_
          have e : (jwf (hp 3 1) (hp 3 2) (hp 4) (p + 1).toNat) = (jwf (hp 3 1) (hp 3 2) (hp 4) p.toNat) := by rw [hws, if_neg (fun z => absurd z.2 (by omega))]
          have z := ih (p + 1) (jI (jcor (hp 3 1) (hp 3 2) (jwd (hp 4) p))) h3 (by omega) (by omega) hG3 hf4 (by omega)
          rw [e] at z
          exact z
        · refine jm_Ev.bl 6 (pc' := 7) (A' := [jR 0, jI (jcor (hp 3 1) (hp 3 2) (jwd (hp 4) p)), jI p, jI (p + 1), jI (jcor (hp 3 1) (hp 3 2) (jwd (hp 4) p))]) (st' := []) (hp' := h3) rfl ?_
          have e : (jwf (hp 3 1) (hp 3 2) (hp 4) (p + 1).toNat) = (jcor (hp 3 1) (hp 3 2) (jwd (hp 4) p), p) := by rw [hws, if_pos ⟨c27, c73⟩]
          have z := ih (p + 1) (jI (jcor (hp 3 1) (hp 3 2) (jwd (hp 4) p))) h3 (by omega) (by omega) hG3 hf4 (by omega)
          rw [e] at z
          exact z
      · refine jm_Ev.bl 3 (pc' := 7) (A' := [jR 0, jI ((jwf (hp 3 1) (hp 3 2) (hp 4) p.toNat).1), jI ((jwf (hp 3 1) (hp 3 2) (hp 4) p.toNat).2), jI (p + 1), z]) (st' := []) (hp' := h) rfl ?_
        have e : (jwf (hp 3 1) (hp 3 2) (hp 4) (p + 1).toNat) = (jwf (hp 3 1) (hp 3 2) (hp 4) p.toNat) := by rw [hws, if_neg (fun z => z.1 c27)]
        have z := ih (p + 1) (z) h (by omega) (by omega) hG5 hfr (by omega)
        rw [e] at z
        exact z
theorem c_x_heavy (hp : jm_H) (hG : jG hp 3 4) (hG5 : jG hp 5 6) : jm_Ev 126 0 [jR 0, jU, jU, jU, jU] [] hp (jhv hp) := by
  refine jm_Ev.bl 6 (pc' := 7) (A' := [jR 0, jI 61, jI (-1), jI 0, jU]) (st' := []) (hp' := hp) rfl ?_
  have hwh := jm_mulb hG.1 hG.2.1 hG.2.2.1 hG.2.2.2.1
  exact c_x_heavy_L hp hG 26 0 _ hp (by omega) (by omega) hG5 jFr.rf (by omega)
