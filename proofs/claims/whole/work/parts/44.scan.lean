/-! the class looks at all edges -/
theorem jcand_eq {x y i : Nat} (hy : y ≤ 5) (hi : i < 4) : jcand (4 * (6 * x + y) + i) = ((x : Int), (y : Int), if i = 0 then 2 else if i = 1 then 3 else if i = 2 then 1 else 0) := by
  have e1 : (4 * (6 * x + y) + i) / 4 = 6 * x + y := by omega
  have e2 : (4 * (6 * x + y) + i) % 4 = i := by omega
  have e3 : (6 * x + y) / 6 = x := by omega
  have e4 : (6 * x + y) % 6 = y := by omega
  unfold jcand
  rw [e1, e2, e3, e4]
theorem jSC80 {i : Nat} (hi : i < 4) : jm_SC 80 (i : Int) = (if i = 0 then 2 else if i = 1 then 3 else if i = 2 then 1 else 0) := by
  have : i = 0 ∨ i = 1 ∨ i = 2 ∨ i = 3 := by omega
  rcases this with rfl | rfl | rfl | rfl <;> rfl
theorem jSc_s (K : Int → Int → Int) (c : Nat) : jSc K (c + 1) = if jed K (jcand c).1 (jcand c).2.1 (jcand c).2.2 = true ∧ jcand c ∉ (jSc K c).flatten then jSc K c ++ [jorb K (jcand c)] else jSc K c := rfl
theorem jSc_skip {K : Int → Int → Int} {c : Nat} (n : Nat) (h : ∀ q, c ≤ q → q < c + n → jed K (jcand q).1 (jcand q).2.1 (jcand q).2.2 = false) : jSc K (c + n) = jSc K c := by
  induction n with
  | zero => rfl
  | succ n ih =>
    show jSc K (c + n + 1) = _
    rw [jSc_s, if_neg (fun z => by rw [h (c + n) (by omega) (by omega)] at z; exact absurd z.1 (by simp))]
    exact ih (fun q a b => h q a (by omega))
theorem jE_wh {w h : Int} {d : Int → Int} {x y z : Int} (q : jE (jgk w h d) (x, y, z)) : x ≤ w ∧ y ≤ h := by
  have r : ∀ x y, jgk w h d x y ≠ -1 → x < w ∧ y < h := fun x y e => by
    unfold jgk at e
    split at e
    · omega
    · exact absurd rfl e
  rcases jE_cases q with ⟨_, a, _⟩ | ⟨_, a, _⟩ | ⟨_, a, _⟩ | ⟨_, a, _⟩ <;> have := r _ _ a <;> omega
theorem jSc_far {w h : Int} {d : Int → Int} {c n : Nat} (hq : ∀ q, c ≤ q → q < c + n → w < (q / 4 / 6 : Nat) ∨ h < (q / 4 % 6 : Nat)) : jSc (jgk w h d) (c + n) = jSc (jgk w h d) c := by
  refine jSc_skip n (fun q a b => ?_)
  cases e : jed (jgk w h d) (jcand q).1 (jcand q).2.1 (jcand q).2.2 with
  | false => rfl
  | true =>
    have := jE_wh (x := (jcand q).1) (y := (jcand q).2.1) (z := (jcand q).2.2) ⟨(jcand_w q).1, (jcand_w q).2, e⟩
    have h2 := hq q a b
    unfold jcand at this
    dsimp only at this
    omega
theorem c_o_scan_i_20 {Q : Option jm_V → jm_H → Prop} (hp : jm_H) (hG : jG hp 3 4) (x y : Nat) (hx : x ≤ 5) (hy : y ≤ 5) (k : ∀ (h : jm_H) (z : jm_V), jOF_20 h (jgk (hp 3 1) (hp 3 2) (hp 4)) (jSc (jgk (hp 3 1) (hp 3 2) (hp 4)) (4 * (6 * x + y) + 4)).flatten → jOO_20 h (jSc (jgk (hp 3 1) (hp 3 2) (hp 4)) (4 * (6 * x + y) + 4)) → jFr hp h [20, 21, 22, 24, 25, 26, 30] → jm_Ev 48 94 [jR 20, jR 3, jI (x : Int), jI (y : Int), jI 4, z] [] h Q) : ∀ (n : Nat) (i : Nat) (z : jm_V) (h : jm_H), i ≤ 4 → jOF_20 h (jgk (hp 3 1) (hp 3 2) (hp 4)) (jSc (jgk (hp 3 1) (hp 3 2) (hp 4)) (4 * (6 * x + y) + i)).flatten → jOO_20 h (jSc (jgk (hp 3 1) (hp 3 2) (hp 4)) (4 * (6 * x + y) + i)) → jFr hp h [20, 21, 22, 24, 25, 26, 30] → 4 - i < n → jm_Ev 48 38 [jR 20, jR 3, jI (x : Int), jI (y : Int), jI (i : Int), z] [] h Q := by
  have hK : jK5 (jgk (hp 3 1) (hp 3 2) (hp 4)) := jK5_of hG.2.1 hG.2.2.2.1
  intro n
  induction n with
  | zero => intro i z h hi hOF hOO hf hn; omega
  | succ n ih =>
    intro i z h hi hOF hOO hf hn
    refine jm_Ev.bl 2 (pc' := 41) (A' := [jR 20, jR 3, jI (x : Int), jI (y : Int), jI (i : Int), z]) (st' := [jI 4, jI (i : Int)]) (hp' := h) rfl ?_
    refine jE_icmp_ge rfl (by omega) (by omega) (fun c41 => ?_) (fun c41 => ?_)
    · have e : i = 4 := by omega
      subst e
      exact k h z hOF hOO hf
    · refine jm_Ev.bl 2 (pc' := 49) (A' := [jR 20, jR 3, jI (x : Int), jI (y : Int), jI (i : Int), z]) (st' := [jI (i : Int), jR 80]) (hp' := h) rfl ?_
      refine jE_iald (n := 4) (f := jm_SC 80) rfl rfl (by omega) ?_
      obtain ⟨W, hW⟩ : ∃ W, W = jm_SC 80 (i : Int) := ⟨_, rfl⟩
      rw [← hW]
      rw [jSC80 (by omega)] at hW
      have hWr : 0 ≤ W ∧ W ≤ 3 := by rw [hW]; (repeat' split) <;> omega
      obtain ⟨c, hc⟩ : ∃ c, c = 4 * (6 * x + y) + i := ⟨_, rfl⟩
      have hcd : jcand c = ((x : Int), (y : Int), W) := by rw [hc, jcand_eq (by omega) (by omega), hW]
      rw [← hc] at hOF hOO
      have hed := hOF.1 (x : Int) (y : Int) W (by omega) (by omega) (by omega) (by omega) hWr.1 hWr.2
      have hgn := hOF.2.2.1 (x : Int) (y : Int) W (by omega) (by omega) (by omega) (by omega) hWr.1 hWr.2
      have hSs : jSc (jgk (hp 3 1) (hp 3 2) (hp 4)) (c + 1) = if jed (jgk (hp 3 1) (hp 3 2) (hp 4)) (x : Int) (y : Int) W = true ∧ ((x : Int), (y : Int), W) ∉ (jSc (jgk (hp 3 1) (hp 3 2) (hp 4)) c).flatten then jSc (jgk (hp 3 1) (hp 3 2) (hp 4)) c ++ [jorb (jgk (hp 3 1) (hp 3 2) (hp 4)) ((x : Int), (y : Int), W)] else jSc (jgk (hp 3 1) (hp 3 2) (hp 4)) c := by
        rw [jSc_s, hcd]
      refine jm_Ev.bl 6 (pc' := 60) (A' := [jR 20, jR 3, jI (x : Int), jI (y : Int), jI (i : Int), jI W]) (st' := [jI W, jI (y : Int), jI (x : Int), jR 29]) (hp' := h) rfl ?_
      refine jE_callI (vs := [jR 29, jI (x : Int), jI (y : Int), jI W]) (r := []) (nx := 63) (v := jI (jb (jbit (h 29 ((y : Int) * 6 + (x : Int))) W))) (hp1 := h) rfl (c_o_begins_29 h (x : Int) (y : Int) W (by omega) (by omega) (by omega)) ?_
      refine jE_ifb_eq rfl (fun c63 => ?_) (fun c63 => ?_)
      · refine jm_Ev.bl 2 (pc' := 38) (A' := [jR 20, jR 3, jI (x : Int), jI (y : Int), jI ((i : Int) + 1), jI W]) (st' := []) (hp' := h) rfl ?_
        have hS1 : jSc (jgk (hp 3 1) (hp 3 2) (hp 4)) (4 * (6 * x + y) + (i + 1)) = jSc (jgk (hp 3 1) (hp 3 2) (hp 4)) c := by rw [show 4 * (6 * x + y) + (i + 1) = c + 1 by omega, hSs, if_neg (by intro z; first | exact z.2 (hgn.mp c77) | (rw [← hed, c63] at z; exact absurd z.1 (by simp)))]
        exact ih (i + 1) (jI W) h (by omega) (by rw [hS1]; exact hOF) (by rw [hS1]; exact hOO) hf (by omega)
      · refine jm_Ev.bl 5 (pc' := 74) (A' := [jR 20, jR 3, jI (x : Int), jI (y : Int), jI (i : Int), jI W]) (st' := [jI W, jI (y : Int), jI (x : Int), jR 30]) (hp' := h) rfl ?_
        refine jE_callI (vs := [jR 30, jI (x : Int), jI (y : Int), jI W]) (r := []) (nx := 77) (v := jI (jb (jbit (h 30 ((y : Int) * 6 + (x : Int))) W))) (hp1 := h) rfl (c_o_begins_30 h (x : Int) (y : Int) W (by omega) (by omega) (by omega)) ?_
        refine jE_ifb_ne rfl (fun c77 => ?_) (fun c77 => ?_)
        · refine jm_Ev.bl 2 (pc' := 38) (A' := [jR 20, jR 3, jI (x : Int), jI (y : Int), jI ((i : Int) + 1), jI W]) (st' := []) (hp' := h) rfl ?_
          have hS1 : jSc (jgk (hp 3 1) (hp 3 2) (hp 4)) (4 * (6 * x + y) + (i + 1)) = jSc (jgk (hp 3 1) (hp 3 2) (hp 4)) c := by rw [show 4 * (6 * x + y) + (i + 1) = c + 1 by omega, hSs, if_neg (by intro z; first | exact z.2 (hgn.mp c77) | (rw [← hed, c63] at z; exact absurd z.1 (by simp)))]
          exact ih (i + 1) (jI W) h (by omega) (by rw [hS1]; exact hOF) (by rw [hS1]; exact hOO) hf (by omega)
        · refine jm_Ev.bl 4 (pc' := 85) (A' := [jR 20, jR 3, jI (x : Int), jI (y : Int), jI (i : Int), jI W]) (st' := [jI W, jI (y : Int), jI (x : Int), jR 20]) (hp' := h) rfl ?_
          refine jE_call (vs := [jR 20, jI (x : Int), jI (y : Int), jI W]) (r := []) (nx := 88) rfl (c_o_follow_20 h (jgk (hp 3 1) (hp 3 2) (hp 4)) hK (jSc (jgk (hp 3 1) (hp 3 2) (hp 4)) c) (jSc_inv hK c) (x : Int) (y : Int) W ⟨hWr.1, hWr.2, hed.symm.trans c63⟩ (fun z => by rw [hgn.mpr z] at c77; exact absurd c77 (by simp)) hOF hOO) (fun rv85 h1 hq => ?_)
          obtain ⟨rfl, q1, q2, q3⟩ := hq
          refine jm_Ev.bl 2 (pc' := 38) (A' := [jR 20, jR 3, jI (x : Int), jI (y : Int), jI ((i : Int) + 1), jI W]) (st' := []) (hp' := h1) rfl ?_
          have hS1 : jSc (jgk (hp 3 1) (hp 3 2) (hp 4)) (4 * (6 * x + y) + (i + 1)) = jSc (jgk (hp 3 1) (hp 3 2) (hp 4)) c ++ [jorb (jgk (hp 3 1) (hp 3 2) (hp 4)) ((x : Int), (y : Int), W)] := by rw [show 4 * (6 * x + y) + (i + 1) = c + 1 by omega, hSs, if_pos ⟨hed.symm.trans c63, fun z => by rw [hgn.mpr z] at c77; exact absurd c77 (by simp)⟩]
          exact ih (i + 1) (jI W) h1 (by omega) (by rw [hS1]; exact q1) (by rw [hS1]; exact q2) (hf.tr q3 (by simp) (by simp)) (by omega)
theorem c_o_scan_y_20 {Q : Option jm_V → jm_H → Prop} (hp : jm_H) (hG : jG hp 3 4) (x : Nat) (hx : x ≤ 5) (k : ∀ (h : jm_H) (z1 z : jm_V) (y : Nat), jOF_20 h (jgk (hp 3 1) (hp 3 2) (hp 4)) (jSc (jgk (hp 3 1) (hp 3 2) (hp 4)) (4 * (6 * (x + 1)))).flatten → jOO_20 h (jSc (jgk (hp 3 1) (hp 3 2) (hp 4)) (4 * (6 * (x + 1)))) → jFr hp h [20, 21, 22, 24, 25, 26, 30] → jm_Ev 48 100 [jR 20, jR 3, jI (x : Int), jI (y : Int), z1, z] [] h Q) : ∀ (n : Nat) (y : Nat) (z1 z : jm_V) (h : jm_H), y ≤ hp 3 2 + 1 → jOF_20 h (jgk (hp 3 1) (hp 3 2) (hp 4)) (jSc (jgk (hp 3 1) (hp 3 2) (hp 4)) (4 * (6 * x + y))).flatten → jOO_20 h (jSc (jgk (hp 3 1) (hp 3 2) (hp 4)) (4 * (6 * x + y))) → jFr hp h [20, 21, 22, 24, 25, 26, 30] → hp 3 2 + 1 - y < n → jm_Ev 48 27 [jR 20, jR 3, jI (x : Int), jI (y : Int), z1, z] [] h Q := by
  obtain ⟨hw0, hw5, hh0, hh5, hk⟩ := id hG
  intro n
  induction n with
  | zero => intro y z1 z h hy hOF hOO hf hn; omega
  | succ n ih =>
    intro y z1 z h hy hOF hOO hf hn
    have eg1 : h 3 1 = hp 3 1 := by rw [hf 3 (by decide)]
    have eg2 : h 3 2 = hp 3 2 := by rw [hf 3 (by decide)]
    refine jm_Ev.bl 3 (pc' := 32) (A' := [jR 20, jR 3, jI (x : Int), jI (y : Int), z1, z]) (st' := [jI (h 3 2), jI (y : Int)]) (hp' := h) rfl ?_
    refine jE_icmp_gt rfl (by omega) (by omega) (fun c32 => ?_) (fun c32 => ?_)
    · have e : jSc (jgk (hp 3 1) (hp 3 2) (hp 4)) (4 * (6 * (x + 1))) = jSc (jgk (hp 3 1) (hp 3 2) (hp 4)) (4 * (6 * x + y)) := by
        rw [show 4 * (6 * (x + 1)) = 4 * (6 * x + y) + (24 - 4 * y) by omega]
        exact jSc_far (fun q a b => by right; have : q / 4 % 6 = q / 4 - 6 * x := by omega
                                       omega)
      exact k h z1 z y (by rw [e]; exact hOF) (by rw [e]; exact hOO) hf
    · refine jm_Ev.bl 2 (pc' := 38) (A' := [jR 20, jR 3, jI (x : Int), jI (y : Int), jI 0, z]) (st' := []) (hp' := h) rfl ?_
      exact c_o_scan_i_20 hp hG x y hx (by omega) (fun h z a b c => jm_Ev.bl 2 (pc' := 27) (A' := [jR 20, jR 3, jI (x : Int), jI ((y : Int) + 1), jI 4, z]) (st' := []) (hp' := h) rfl (ih (y + 1) _ z h (by omega) a b c (by omega))) 5 0 z h (by omega) hOF hOO hf (by omega)
theorem c_o_scan_20 {Q : Option jm_V → jm_H → Prop} (hp : jm_H) (hG : jG hp 3 4) (k : ∀ (h : jm_H) (x y z1 z : jm_V), jOF_20 h (jgk (hp 3 1) (hp 3 2) (hp 4)) (jSc (jgk (hp 3 1) (hp 3 2) (hp 4)) (144)).flatten → jOO_20 h (jSc (jgk (hp 3 1) (hp 3 2) (hp 4)) (144)) → jFr hp h [20, 21, 22, 24, 25, 26, 30] → jm_Ev 48 106 [jR 20, jR 3, x, y, z1, z] [] h Q) : ∀ (n : Nat) (x : Nat) (y z1 z : jm_V) (h : jm_H), x ≤ hp 3 1 + 1 → jOF_20 h (jgk (hp 3 1) (hp 3 2) (hp 4)) (jSc (jgk (hp 3 1) (hp 3 2) (hp 4)) (4 * (6 * x))).flatten → jOO_20 h (jSc (jgk (hp 3 1) (hp 3 2) (hp 4)) (4 * (6 * x))) → jFr hp h [20, 21, 22, 24, 25, 26, 30] → hp 3 1 + 1 - x < n → jm_Ev 48 17 [jR 20, jR 3, jI (x : Int), y, z1, z] [] h Q := by
  obtain ⟨hw0, hw5, hh0, hh5, hk⟩ := id hG
  intro n
  induction n with
  | zero => intro x y z1 z h hx hOF hOO hf hn; omega
  | succ n ih =>
    intro x y z1 z h hx hOF hOO hf hn
    have eg1 : h 3 1 = hp 3 1 := by rw [hf 3 (by decide)]
    have eg2 : h 3 2 = hp 3 2 := by rw [hf 3 (by decide)]
    refine jm_Ev.bl 3 (pc' := 22) (A' := [jR 20, jR 3, jI (x : Int), y, z1, z]) (st' := [jI (h 3 1), jI (x : Int)]) (hp' := h) rfl ?_
    refine jE_icmp_gt rfl (by omega) (by omega) (fun c22 => ?_) (fun c22 => ?_)
    · have e : jSc (jgk (hp 3 1) (hp 3 2) (hp 4)) 144 = jSc (jgk (hp 3 1) (hp 3 2) (hp 4)) (4 * (6 * x)) := by
        rw [show 144 = 4 * (6 * x) + (144 - 24 * x) by omega]
        exact jSc_far (fun q a b => by left; omega)
      exact k h _ y z1 z (by rw [e]; exact hOF) (by rw [e]; exact hOO) hf
    · refine jm_Ev.bl 2 (pc' := 27) (A' := [jR 20, jR 3, jI (x : Int), jI 0, z1, z]) (st' := []) (hp' := h) rfl ?_
      exact c_o_scan_y_20 hp hG x (by omega) (fun h z1 z y a b c => jm_Ev.bl 2 (pc' := 17) (A' := [jR 20, jR 3, jI ((x : Int) + 1), jI (y : Int), z1, z]) (st' := []) (hp' := h) rfl (ih (x + 1) (jI (y : Int)) z1 z h (by omega) a b c (by omega))) 7 0 z1 z h (by omega) hOF hOO hf (by omega)
theorem c_o_scan_i_43 {Q : Option jm_V → jm_H → Prop} (hp : jm_H) (hG : jG hp 5 6) (x y : Nat) (hx : x ≤ 5) (hy : y ≤ 5) (k : ∀ (h : jm_H) (z : jm_V), jOF_43 h (jgk (hp 5 1) (hp 5 2) (hp 6)) (jSc (jgk (hp 5 1) (hp 5 2) (hp 6)) (4 * (6 * x + y) + 4)).flatten → jOO_43 h (jSc (jgk (hp 5 1) (hp 5 2) (hp 6)) (4 * (6 * x + y) + 4)) → jFr hp h [43, 44, 45, 47, 48, 49, 53] → jm_Ev 48 94 [jR 43, jR 5, jI (x : Int), jI (y : Int), jI 4, z] [] h Q) : ∀ (n : Nat) (i : Nat) (z : jm_V) (h : jm_H), i ≤ 4 → jOF_43 h (jgk (hp 5 1) (hp 5 2) (hp 6)) (jSc (jgk (hp 5 1) (hp 5 2) (hp 6)) (4 * (6 * x + y) + i)).flatten → jOO_43 h (jSc (jgk (hp 5 1) (hp 5 2) (hp 6)) (4 * (6 * x + y) + i)) → jFr hp h [43, 44, 45, 47, 48, 49, 53] → 4 - i < n → jm_Ev 48 38 [jR 43, jR 5, jI (x : Int), jI (y : Int), jI (i : Int), z] [] h Q := by
  have hK : jK5 (jgk (hp 5 1) (hp 5 2) (hp 6)) := jK5_of hG.2.1 hG.2.2.2.1
  intro n
  induction n with
  | zero => intro i z h hi hOF hOO hf hn; omega
  | succ n ih =>
    intro i z h hi hOF hOO hf hn
    refine jm_Ev.bl 2 (pc' := 41) (A' := [jR 43, jR 5, jI (x : Int), jI (y : Int), jI (i : Int), z]) (st' := [jI 4, jI (i : Int)]) (hp' := h) rfl ?_
    refine jE_icmp_ge rfl (by omega) (by omega) (fun c41 => ?_) (fun c41 => ?_)
    · have e : i = 4 := by omega
      subst e
      exact k h z hOF hOO hf
    · refine jm_Ev.bl 2 (pc' := 49) (A' := [jR 43, jR 5, jI (x : Int), jI (y : Int), jI (i : Int), z]) (st' := [jI (i : Int), jR 80]) (hp' := h) rfl ?_
      refine jE_iald (n := 4) (f := jm_SC 80) rfl rfl (by omega) ?_
      obtain ⟨W, hW⟩ : ∃ W, W = jm_SC 80 (i : Int) := ⟨_, rfl⟩
      rw [← hW]
      rw [jSC80 (by omega)] at hW
      have hWr : 0 ≤ W ∧ W ≤ 3 := by rw [hW]; (repeat' split) <;> omega
      obtain ⟨c, hc⟩ : ∃ c, c = 4 * (6 * x + y) + i := ⟨_, rfl⟩
      have hcd : jcand c = ((x : Int), (y : Int), W) := by rw [hc, jcand_eq (by omega) (by omega), hW]
      rw [← hc] at hOF hOO
      have hed := hOF.1 (x : Int) (y : Int) W (by omega) (by omega) (by omega) (by omega) hWr.1 hWr.2
      have hgn := hOF.2.2.1 (x : Int) (y : Int) W (by omega) (by omega) (by omega) (by omega) hWr.1 hWr.2
      have hSs : jSc (jgk (hp 5 1) (hp 5 2) (hp 6)) (c + 1) = if jed (jgk (hp 5 1) (hp 5 2) (hp 6)) (x : Int) (y : Int) W = true ∧ ((x : Int), (y : Int), W) ∉ (jSc (jgk (hp 5 1) (hp 5 2) (hp 6)) c).flatten then jSc (jgk (hp 5 1) (hp 5 2) (hp 6)) c ++ [jorb (jgk (hp 5 1) (hp 5 2) (hp 6)) ((x : Int), (y : Int), W)] else jSc (jgk (hp 5 1) (hp 5 2) (hp 6)) c := by
        rw [jSc_s, hcd]
      refine jm_Ev.bl 6 (pc' := 60) (A' := [jR 43, jR 5, jI (x : Int), jI (y : Int), jI (i : Int), jI W]) (st' := [jI W, jI (y : Int), jI (x : Int), jR 52]) (hp' := h) rfl ?_
      refine jE_callI (vs := [jR 52, jI (x : Int), jI (y : Int), jI W]) (r := []) (nx := 63) (v := jI (jb (jbit (h 52 ((y : Int) * 6 + (x : Int))) W))) (hp1 := h) rfl (c_o_begins_52 h (x : Int) (y : Int) W (by omega) (by omega) (by omega)) ?_
      refine jE_ifb_eq rfl (fun c63 => ?_) (fun c63 => ?_)
      · refine jm_Ev.bl 2 (pc' := 38) (A' := [jR 43, jR 5, jI (x : Int), jI (y : Int), jI ((i : Int) + 1), jI W]) (st' := []) (hp' := h) rfl ?_
        have hS1 : jSc (jgk (hp 5 1) (hp 5 2) (hp 6)) (4 * (6 * x + y) + (i + 1)) = jSc (jgk (hp 5 1) (hp 5 2) (hp 6)) c := by rw [show 4 * (6 * x + y) + (i + 1) = c + 1 by omega, hSs, if_neg (by intro z; first | exact z.2 (hgn.mp c77) | (rw [← hed, c63] at z; exact absurd z.1 (by simp)))]
        exact ih (i + 1) (jI W) h (by omega) (by rw [hS1]; exact hOF) (by rw [hS1]; exact hOO) hf (by omega)
      · refine jm_Ev.bl 5 (pc' := 74) (A' := [jR 43, jR 5, jI (x : Int), jI (y : Int), jI (i : Int), jI W]) (st' := [jI W, jI (y : Int), jI (x : Int), jR 53]) (hp' := h) rfl ?_
        refine jE_callI (vs := [jR 53, jI (x : Int), jI (y : Int), jI W]) (r := []) (nx := 77) (v := jI (jb (jbit (h 53 ((y : Int) * 6 + (x : Int))) W))) (hp1 := h) rfl (c_o_begins_53 h (x : Int) (y : Int) W (by omega) (by omega) (by omega)) ?_
        refine jE_ifb_ne rfl (fun c77 => ?_) (fun c77 => ?_)
        · refine jm_Ev.bl 2 (pc' := 38) (A' := [jR 43, jR 5, jI (x : Int), jI (y : Int), jI ((i : Int) + 1), jI W]) (st' := []) (hp' := h) rfl ?_
          have hS1 : jSc (jgk (hp 5 1) (hp 5 2) (hp 6)) (4 * (6 * x + y) + (i + 1)) = jSc (jgk (hp 5 1) (hp 5 2) (hp 6)) c := by rw [show 4 * (6 * x + y) + (i + 1) = c + 1 by omega, hSs, if_neg (by intro z; first | exact z.2 (hgn.mp c77) | (rw [← hed, c63] at z; exact absurd z.1 (by simp)))]
          exact ih (i + 1) (jI W) h (by omega) (by rw [hS1]; exact hOF) (by rw [hS1]; exact hOO) hf (by omega)
        · refine jm_Ev.bl 4 (pc' := 85) (A' := [jR 43, jR 5, jI (x : Int), jI (y : Int), jI (i : Int), jI W]) (st' := [jI W, jI (y : Int), jI (x : Int), jR 43]) (hp' := h) rfl ?_
          refine jE_call (vs := [jR 43, jI (x : Int), jI (y : Int), jI W]) (r := []) (nx := 88) rfl (c_o_follow_43 h (jgk (hp 5 1) (hp 5 2) (hp 6)) hK (jSc (jgk (hp 5 1) (hp 5 2) (hp 6)) c) (jSc_inv hK c) (x : Int) (y : Int) W ⟨hWr.1, hWr.2, hed.symm.trans c63⟩ (fun z => by rw [hgn.mpr z] at c77; exact absurd c77 (by simp)) hOF hOO) (fun rv85 h1 hq => ?_)
          obtain ⟨rfl, q1, q2, q3⟩ := hq
          refine jm_Ev.bl 2 (pc' := 38) (A' := [jR 43, jR 5, jI (x : Int), jI (y : Int), jI ((i : Int) + 1), jI W]) (st' := []) (hp' := h1) rfl ?_
          have hS1 : jSc (jgk (hp 5 1) (hp 5 2) (hp 6)) (4 * (6 * x + y) + (i + 1)) = jSc (jgk (hp 5 1) (hp 5 2) (hp 6)) c ++ [jorb (jgk (hp 5 1) (hp 5 2) (hp 6)) ((x : Int), (y : Int), W)] := by rw [show 4 * (6 * x + y) + (i + 1) = c + 1 by omega, hSs, if_pos ⟨hed.symm.trans c63, fun z => by rw [hgn.mpr z] at c77; exact absurd c77 (by simp)⟩]
          exact ih (i + 1) (jI W) h1 (by omega) (by rw [hS1]; exact q1) (by rw [hS1]; exact q2) (hf.tr q3 (by simp) (by simp)) (by omega)
theorem c_o_scan_y_43 {Q : Option jm_V → jm_H → Prop} (hp : jm_H) (hG : jG hp 5 6) (x : Nat) (hx : x ≤ 5) (k : ∀ (h : jm_H) (z1 z : jm_V) (y : Nat), jOF_43 h (jgk (hp 5 1) (hp 5 2) (hp 6)) (jSc (jgk (hp 5 1) (hp 5 2) (hp 6)) (4 * (6 * (x + 1)))).flatten → jOO_43 h (jSc (jgk (hp 5 1) (hp 5 2) (hp 6)) (4 * (6 * (x + 1)))) → jFr hp h [43, 44, 45, 47, 48, 49, 53] → jm_Ev 48 100 [jR 43, jR 5, jI (x : Int), jI (y : Int), z1, z] [] h Q) : ∀ (n : Nat) (y : Nat) (z1 z : jm_V) (h : jm_H), y ≤ hp 5 2 + 1 → jOF_43 h (jgk (hp 5 1) (hp 5 2) (hp 6)) (jSc (jgk (hp 5 1) (hp 5 2) (hp 6)) (4 * (6 * x + y))).flatten → jOO_43 h (jSc (jgk (hp 5 1) (hp 5 2) (hp 6)) (4 * (6 * x + y))) → jFr hp h [43, 44, 45, 47, 48, 49, 53] → hp 5 2 + 1 - y < n → jm_Ev 48 27 [jR 43, jR 5, jI (x : Int), jI (y : Int), z1, z] [] h Q := by
  obtain ⟨hw0, hw5, hh0, hh5, hk⟩ := id hG
  intro n
  induction n with
  | zero => intro y z1 z h hy hOF hOO hf hn; omega
  | succ n ih =>
    intro y z1 z h hy hOF hOO hf hn
    have eg1 : h 5 1 = hp 5 1 := by rw [hf 5 (by decide)]
    have eg2 : h 5 2 = hp 5 2 := by rw [hf 5 (by decide)]
    refine jm_Ev.bl 3 (pc' := 32) (A' := [jR 43, jR 5, jI (x : Int), jI (y : Int), z1, z]) (st' := [jI (h 5 2), jI (y : Int)]) (hp' := h) rfl ?_
    refine jE_icmp_gt rfl (by omega) (by omega) (fun c32 => ?_) (fun c32 => ?_)
    · have e : jSc (jgk (hp 5 1) (hp 5 2) (hp 6)) (4 * (6 * (x + 1))) = jSc (jgk (hp 5 1) (hp 5 2) (hp 6)) (4 * (6 * x + y)) := by
        rw [show 4 * (6 * (x + 1)) = 4 * (6 * x + y) + (24 - 4 * y) by omega]
        exact jSc_far (fun q a b => by right; have : q / 4 % 6 = q / 4 - 6 * x := by omega
                                       omega)
      exact k h z1 z y (by rw [e]; exact hOF) (by rw [e]; exact hOO) hf
    · refine jm_Ev.bl 2 (pc' := 38) (A' := [jR 43, jR 5, jI (x : Int), jI (y : Int), jI 0, z]) (st' := []) (hp' := h) rfl ?_
      exact c_o_scan_i_43 hp hG x y hx (by omega) (fun h z a b c => jm_Ev.bl 2 (pc' := 27) (A' := [jR 43, jR 5, jI (x : Int), jI ((y : Int) + 1), jI 4, z]) (st' := []) (hp' := h) rfl (ih (y + 1) _ z h (by omega) a b c (by omega))) 5 0 z h (by omega) hOF hOO hf (by omega)
theorem c_o_scan_43 {Q : Option jm_V → jm_H → Prop} (hp : jm_H) (hG : jG hp 5 6) (k : ∀ (h : jm_H) (x y z1 z : jm_V), jOF_43 h (jgk (hp 5 1) (hp 5 2) (hp 6)) (jSc (jgk (hp 5 1) (hp 5 2) (hp 6)) (144)).flatten → jOO_43 h (jSc (jgk (hp 5 1) (hp 5 2) (hp 6)) (144)) → jFr hp h [43, 44, 45, 47, 48, 49, 53] → jm_Ev 48 106 [jR 43, jR 5, x, y, z1, z] [] h Q) : ∀ (n : Nat) (x : Nat) (y z1 z : jm_V) (h : jm_H), x ≤ hp 5 1 + 1 → jOF_43 h (jgk (hp 5 1) (hp 5 2) (hp 6)) (jSc (jgk (hp 5 1) (hp 5 2) (hp 6)) (4 * (6 * x))).flatten → jOO_43 h (jSc (jgk (hp 5 1) (hp 5 2) (hp 6)) (4 * (6 * x))) → jFr hp h [43, 44, 45, 47, 48, 49, 53] → hp 5 1 + 1 - x < n → jm_Ev 48 17 [jR 43, jR 5, jI (x : Int), y, z1, z] [] h Q := by
  obtain ⟨hw0, hw5, hh0, hh5, hk⟩ := id hG
  intro n
  induction n with
  | zero => intro x y z1 z h hx hOF hOO hf hn; omega
  | succ n ih =>
    intro x y z1 z h hx hOF hOO hf hn
    have eg1 : h 5 1 = hp 5 1 := by rw [hf 5 (by decide)]
    have eg2 : h 5 2 = hp 5 2 := by rw [hf 5 (by decide)]
    refine jm_Ev.bl 3 (pc' := 22) (A' := [jR 43, jR 5, jI (x : Int), y, z1, z]) (st' := [jI (h 5 1), jI (x : Int)]) (hp' := h) rfl ?_
    refine jE_icmp_gt rfl (by omega) (by omega) (fun c22 => ?_) (fun c22 => ?_)
    · have e : jSc (jgk (hp 5 1) (hp 5 2) (hp 6)) 144 = jSc (jgk (hp 5 1) (hp 5 2) (hp 6)) (4 * (6 * x)) := by
        rw [show 144 = 4 * (6 * x) + (144 - 24 * x) by omega]
        exact jSc_far (fun q a b => by left; omega)
      exact k h _ y z1 z (by rw [e]; exact hOF) (by rw [e]; exact hOO) hf
    · refine jm_Ev.bl 2 (pc' := 27) (A' := [jR 43, jR 5, jI (x : Int), jI 0, z1, z]) (st' := []) (hp' := h) rfl ?_
      exact c_o_scan_y_43 hp hG x (by omega) (fun h z1 z y a b c => jm_Ev.bl 2 (pc' := 17) (A' := [jR 43, jR 5, jI ((x : Int) + 1), jI (y : Int), z1, z]) (st' := []) (hp' := h) rfl (ih (x + 1) (jI (y : Int)) z1 z h (by omega) a b c (by omega))) 7 0 z1 z h (by omega) hOF hOO hf (by omega)
