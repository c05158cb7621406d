/-! the class traces a grid -/
theorem jfl_take {α : Type} {O : List (List α)} {i : Nat} {q : List α} (h : O[i]? = some q) : (O.take (i + 1)).flatten = (O.take i).flatten ++ q := by
  rw [List.take_succ, h]; simp
theorem jfl_le {α : Type} {O : List (List α)} {i j : Nat} (h : i ≤ j) : (O.take i).flatten.length ≤ (O.take j).flatten.length := by
  induction j with
  | zero => have : i = 0 := by omega
            subst this; exact Nat.le_refl _
  | succ j ih =>
    by_cases e : i = j + 1
    · subst e; exact Nat.le_refl _
    · have := ih (by omega)
      rw [List.take_succ, List.flatten_append, List.length_append]
      omega
theorem jfl_all {α : Type} {O : List (List α)} (i : Nat) : (O.take i).flatten.length ≤ O.flatten.length := by
  have := jfl_le (O := O) (i := i) (j := max i O.length) (by omega)
  rwa [List.take_of_length_le (i := max i O.length) (by omega)] at this
theorem jfl_get {α : Type} {O : List (List α)} {i n : Nat} {q : List α} (h : O[i]? = some q) (hn : n < q.length) : O.flatten[(O.take i).flatten.length + n]? = q[n]? := by
  have e : O.flatten = (O.take i).flatten ++ (q ++ (O.drop (i + 1)).flatten) := by
    conv => lhs; rw [← List.take_append_drop (i + 1) O, List.flatten_append, jfl_take h, List.append_assoc]
  rw [e, List.getElem?_append_right (by omega), Nat.add_sub_cancel_left, List.getElem?_append_left hn]
/-- the points of an outline by their number -/
def jPt (q : List jT) (n : Int) : jT := (q[n.toNat]?).getD (0, 0, 0)
def jpx (q : List jT) (n : Int) : Int := (jPt q n).1
def jpy (q : List jT) (n : Int) : Int := (jPt q n).2.1
def jpw (q : List jT) (n : Int) : Int := (jPt q n).2.2
def jpl_ (K : Int → Int → Int) (q : List jT) (n : Int) : Int := jle K (jpx q n) (jpy q n)
def jpm (K : Int → Int → Int) (q : List jT) (n : Int) : Int := jmu K (jpx q n) (jpy q n) (decide (jpw q n ≠ jpw q (if n = 0 then (q.length : Int) - 1 else n - 1)))
theorem jPt_get {q : List jT} {n : Int} (h0 : 0 ≤ n) (h1 : n < q.length) : q[n.toNat]? = some (jPt q n) := by
  unfold jPt
  rw [List.getElem?_eq_getElem (by omega)]; rfl
theorem jPt_E {K : Int → Int → Int} {O : List (List jT)} (hI : jInv K O) {i : Nat} {q : List jT} (h : O[i]? = some q) {n : Int} (h0 : 0 ≤ n) (h1 : n < q.length) : jE K (jPt q n) := by
  have hm : q ∈ O := List.mem_of_getElem? h
  obtain ⟨s, hs, rfl⟩ := hI.1 q hm
  exact jorb_E hs (List.mem_of_getElem? (jPt_get h0 h1))
def jdsc_20 (hp : jm_H) (K : Int → Int → Int) (s : Int) (q : List jT) : Option jm_V → jm_H → Prop := fun rv h => rv = none ∧ (∀ n : Int, 0 ≤ n → n < q.length → h 27 (s + n) = jpl_ K q n ∧ h 28 (s + n) = jpm K q n) ∧ (∀ j, j < s ∨ s + q.length ≤ j → h 27 j = hp 27 j ∧ h 28 j = hp 28 j) ∧ jFr hp h [27, 28]
theorem jdsc_set_20 {h : jm_H} {s n a b : Int} {P R : Int → Int} (q : ∀ j, 0 ≤ j → j < n → h 27 (s + j) = P j ∧ h 28 (s + j) = R j) (ha : a = P n) (hb : b = R n) : ∀ j, 0 ≤ j → j < n + 1 → (jm_hs (jm_hs h 27 (s + n) a) 28 (s + n) b) 27 (s + j) = P j ∧ (jm_hs (jm_hs h 27 (s + n) a) 28 (s + n) b) 28 (s + j) = R j := fun j j0 j1 => by
  rw [js_hs_ne (by decide), js_hs_eq, js_hs_eq, js_hs_ne (by decide)]
  by_cases e : j = n
  · subst e; rw [if_pos rfl, if_pos rfl]; exact ⟨ha, hb⟩
  · rw [if_neg (by omega), if_neg (by omega)]; exact q j j0 (by omega)
theorem jdsc_out_20 {hp h : jm_H} {s t a b N : Int} (q : ∀ j, j < s ∨ s + N ≤ j → h 27 j = hp 27 j ∧ h 28 j = hp 28 j) (h0 : s ≤ t) (h1 : t < s + N) : ∀ j, j < s ∨ s + N ≤ j → (jm_hs (jm_hs h 27 t a) 28 t b) 27 j = hp 27 j ∧ (jm_hs (jm_hs h 27 t a) 28 t b) 28 j = hp 28 j := fun j hj => by
  rw [js_hs_ne (by decide), js_hs_eq, js_hs_eq, js_hs_ne (by decide), if_neg (by omega), if_neg (by omega)]
  exact q j hj
theorem c_o_desc_L_20 (hp : jm_H) (hG : jG hp 3 4) (i : Int) (s : Int) (q : List jT) (hs0 : 0 ≤ s) (hsN : s + q.length ≤ 60) (hq : ∀ n : Int, 0 ≤ n → n < q.length → hp 24 (s + n) = jpx q n ∧ hp 25 (s + n) = jpy q n ∧ hp 26 (s + n) = jpw q n ∧ 0 ≤ jpx q n ∧ jpx q n ≤ 5 ∧ 0 ≤ jpy q n ∧ jpy q n ≤ 5 ∧ 0 ≤ jpw q n ∧ jpw q n ≤ 3) : ∀ (m : Nat) (n bf : Int) (z1 z2 : jm_V) (h : jm_H), 0 ≤ n → n ≤ q.length → bf = jpw q (if n = 0 then (q.length : Int) - 1 else n - 1) → (∀ j, 0 ≤ j → j < n → h 27 (s + j) = jpl_ (jgk (hp 3 1) (hp 3 2) (hp 4)) q j ∧ h 28 (s + j) = jpm (jgk (hp 3 1) (hp 3 2) (hp 4)) q j) → (∀ j, j < s ∨ s + q.length ≤ j → h 27 j = hp 27 j ∧ h 28 j = hp 28 j) → jFr hp h [27, 28] → q.length - n < m → ∀ t, t = s + n → jm_Ev 55 28 [jR 20, jR 3, jI i, jI s, jI (q.length : Int), jI bf, jI t, z1, z2] [] h (jdsc_20 hp (jgk (hp 3 1) (hp 3 2) (hp 4)) s q) := by
  intro n
  induction n with
  | zero => intro n bf z1 z2 h hn0 hn1 hbf hd ho hf hm t et; omega
  | succ n ih =>
    intro n bf z1 z2 h hn0 hn1 hbf hd ho hf hm t et
    subst et
    have hG1 : jG h 3 4 := by unfold jG; rw [hf 3 (by decide), hf 4 (by decide)]; exact hG
    have hbr : 0 ≤ q.length ∧ (0 < (q.length : Int) → 0 ≤ bf ∧ bf ≤ 3) := ⟨by omega, fun z => by
      rw [hbf]
      have := hq (if n = 0 then (q.length : Int) - 1 else n - 1) (by split <;> omega) (by split <;> omega)
      omega⟩
    have hqn : n < q.length → h 24 (s + n) = jpx q n ∧ h 25 (s + n) = jpy q n ∧ h 26 (s + n) = jpw q n ∧ 0 ≤ jpx q n ∧ jpx q n ≤ 5 ∧ 0 ≤ jpy q n ∧ jpy q n ≤ 5 ∧ 0 ≤ jpw q n ∧ jpw q n ≤ 3 := fun z => by rw [hf 24 (by decide), hf 25 (by decide), hf 26 (by decide)]; exact hq n hn0 z
    refine jm_Ev.bl 4 (pc' := 34) (A' := [jR 20, jR 3, jI i, jI s, jI (q.length : Int), jI bf, jI (s + n), z1, z2]) (st' := [jI (s + (q.length : Int)), jI (s + n)]) (hp' := h) rfl ?_
    refine jE_icmp_ge rfl (by omega) (by omega) (fun c34 => ?_) (fun c34 => ?_)
    · have e : n = q.length := by omega
      subst e
      exact jE_ret rfl ⟨rfl, hd, ho, hf⟩
    · obtain ⟨exAt, eyAt, ewayAt, b1, b2, b3, b4, b5, b6⟩ := hqn (by omega)
      refine jm_Ev.bl 2 (pc' := 41) (A' := [jR 20, jR 3, jI i, jI s, jI (q.length : Int), jI bf, jI (s + n), z1, z2]) (st' := [jI 60, jI (s + n)]) (hp' := h) rfl ?_
      refine jE_icmp_ge rfl (by omega) (by omega) (fun c41 => ?_) (fun c41 => ?_)
      · omega
      · refine jm_Ev.bl 3 (pc' := 48) (A' := [jR 20, jR 3, jI i, jI s, jI (q.length : Int), jI bf, jI (s + n), z1, z2]) (st' := [jI (s + n), jR 20, jR 3]) (hp' := h) rfl ?_
        refine jE_callI (vs := [jR 20, jI (s + n)]) (r := [jR 3]) (nx := 51) (v := jI (jpx q n)) (hp1 := h) rfl ((show h 24 (s + n) = jpx q n from exAt) ▸ c_o_xAt_20 h (s + n) (by omega) (by omega)) ?_
        refine jm_Ev.bl 2 (pc' := 54) (A' := [jR 20, jR 3, jI i, jI s, jI (q.length : Int), jI bf, jI (s + n), z1, z2]) (st' := [jI (s + n), jR 20, jI (jpx q n), jR 3]) (hp' := h) rfl ?_
        refine jE_callI (vs := [jR 20, jI (s + n)]) (r := [jI (jpx q n), jR 3]) (nx := 57) (v := jI (jpy q n)) (hp1 := h) rfl ((show h 25 (s + n) = jpy q n from eyAt) ▸ c_o_yAt_20 h (s + n) (by omega) (by omega)) ?_
        refine jE_callI (vs := [jR 3, jI (jpx q n), jI (jpy q n)]) (r := []) (nx := 60) (v := jI (jtk (jgk (h 3 1) (h 3 2) (h 4)) (jpx q n) (jpy q n))) (hp1 := h) rfl (c_o_touched_3 h hG1 (jpx q n) (jpy q n) (by omega) (by omega)) ?_
        obtain ⟨kk, hkk⟩ : ∃ z, z = jtk (jgk (h 3 1) (h 3 2) (h 4)) (jpx q n) (jpy q n) := ⟨_, rfl⟩
        rw [← hkk]
        have tk : ∀ k, 0 ≤ k → k ≤ 4 → jbit kk k = jtch (jgk (hp 3 1) (hp 3 2) (hp 4)) (jpx q n) (jpy q n) k := fun k a b => by rw [hkk, jtk_bit (jgk_r hG1) _ _ k a b, hf 3 (by decide), hf 4 (by decide)]
        have t1 := tk 1 (by omega) (by omega)
        have t2 := tk 2 (by omega) (by omega)
        have t3 := tk 3 (by omega) (by omega)
        have t4 := tk 4 (by omega) (by omega)
        refine jm_Ev.bl 3 (pc' := 65) (A' := [jR 20, jR 3, jI i, jI s, jI (q.length : Int), jI bf, jI (s + n), jI kk, z2]) (st' := [jI (s + n), jR 20]) (hp' := h) rfl ?_
        refine jE_callI (vs := [jR 20, jI (s + n)]) (r := []) (nx := 68) (v := jI (jpw q n)) (hp1 := h) rfl ((show h 26 (s + n) = jpw q n from ewayAt) ▸ c_o_wayAt_20 h (s + n) (by omega) (by omega)) ?_
        refine jm_Ev.bl 1 (pc' := 70) (A' := [jR 20, jR 3, jI i, jI s, jI (q.length : Int), jI bf, jI (s + n), jI kk, z2]) (st' := [jI bf, jI (jpw q n)]) (hp' := h) rfl ?_
        refine jE_icmp_eq rfl (by omega) (by omega) (fun c70 => ?_) (fun c70 => ?_)
        · refine jm_Ev.bl 1 (pc' := 78) (A' := [jR 20, jR 3, jI i, jI s, jI (q.length : Int), jI bf, jI (s + n), jI kk, z2]) (st' := [jI 0]) (hp' := h) rfl ?_
          have dt : decide (jpw q n ≠ bf) = false := decide_eq_false (fun z => z c70)
          refine jm_Ev.bl 3 (pc' := 83) (A' := [jR 20, jR 3, jI i, jI s, jI (q.length : Int), jI bf, jI (s + n), jI kk, jI 0]) (st' := [jI (s + n), jR 20]) (hp' := h) rfl ?_
          refine jE_callI (vs := [jR 20, jI (s + n)]) (r := []) (nx := 86) (v := jI (jpw q n)) (hp1 := h) rfl ((show h 26 (s + n) = jpw q n from ewayAt) ▸ c_o_wayAt_20 h (s + n) (by omega) (by omega)) ?_
          refine jm_Ev.bl 6 (pc' := 97) (A' := [jR 20, jR 3, jI i, jI s, jI (q.length : Int), jI (jpw q n), jI (s + n), jI kk, jI 0]) (st' := [jI 3, jI kk, jI (s + n), jR 27]) (hp' := h) rfl ?_
          refine jE_callI (vs := [jI kk, jI 3]) (r := [jI (s + n), jR 27]) (nx := 100) (v := jI (jb (jbit kk 3))) (hp1 := h) rfl (c_o_hasKind h kk 3) ?_
          refine jE_ifb_eq rfl (fun c100 => ?_) (fun c100 => ?_)
          · refine jm_Ev.bl 2 (pc' := 110) (A' := [jR 20, jR 3, jI i, jI s, jI (q.length : Int), jI (jpw q n), jI (s + n), jI kk, jI 0]) (st' := [jI 4, jI kk, jI (s + n), jR 27]) (hp' := h) rfl ?_
            refine jE_callI (vs := [jI kk, jI 4]) (r := [jI (s + n), jR 27]) (nx := 113) (v := jI (jb (jbit kk 4))) (hp1 := h) rfl (c_o_hasKind h kk 4) ?_
            refine jE_ifb_eq rfl (fun c113 => ?_) (fun c113 => ?_)
            · refine jm_Ev.bl 1 (pc' := 121) (A' := [jR 20, jR 3, jI i, jI s, jI (q.length : Int), jI (jpw q n), jI (s + n), jI kk, jI 0]) (st' := [jI 1, jI (s + n), jR 27]) (hp' := h) rfl ?_
              refine jE_iast (n := 60) rfl rfl (by omega) ?_
              refine jm_Ev.bl 5 (pc' := 131) (A' := [jR 20, jR 3, jI i, jI s, jI (q.length : Int), jI (jpw q n), jI (s + n), jI kk, jI 0]) (st' := [jI 2, jI kk, jI (s + n), jR 28]) (hp' := (jm_hs h 27 (s + n) 1)) rfl ?_
              refine jE_callI (vs := [jI kk, jI 2]) (r := [jI (s + n), jR 28]) (nx := 134) (v := jI (jb (jbit kk 2))) (hp1 := (jm_hs h 27 (s + n) 1)) rfl (c_o_hasKind (jm_hs h 27 (s + n) 1) kk 2) ?_
              refine jE_ifb_ne rfl (fun c134 => ?_) (fun c134 => ?_)
              · refine jm_Ev.bl 2 (pc' := 156) (A' := [jR 20, jR 3, jI i, jI s, jI (q.length : Int), jI (jpw q n), jI (s + n), jI kk, jI 0]) (st' := [jI 1, jI (s + n), jR 28]) (hp' := (jm_hs h 27 (s + n) 1)) rfl ?_
                refine jE_zast (n := 60) rfl rfl (by omega) (by omega) ?_
                refine jm_Ev.bl 2 (pc' := 28) (A' := [jR 20, jR 3, jI i, jI s, jI (q.length : Int), jI (jpw q n), jI ((s + n) + 1), jI kk, jI 0]) (st' := []) (hp' := (jm_hs (jm_hs h 27 (s + n) 1) 28 (s + n) 1)) rfl ?_
                have el : (1 : Int) = jpl_ (jgk (hp 3 1) (hp 3 2) (hp 4)) q n := by
                  unfold jpl_ jle
                  rw [← t3, ← t4]
                  first | rw [if_pos c100] | rw [if_neg (by rw [c100]; simp), if_pos c113] | rw [if_neg (by rw [c100]; simp), if_neg (by rw [c113]; simp)]
                have em : (1 : Int) = jpm (jgk (hp 3 1) (hp 3 2) (hp 4)) q n := by
                  unfold jpm jmu
                  rw [← hbf, dt, ← t1, ← t2, c134]
                  first | rfl | (rw [c148]; rfl)
                refine ih (n + 1) (jpw q n) _ _ (jm_hs (jm_hs h 27 (s + n) 1) 28 (s + n) 1) (by omega) (by omega) (by rw [if_neg (by omega), show n + 1 - 1 = n by omega]) (jdsc_set_20 hd el em) (jdsc_out_20 ho (by omega) (by omega)) ((hf.set (by decide)).set (by decide)) (by omega) _ (by omega)
              · refine jm_Ev.bl 1 (pc' := 139) (A' := [jR 20, jR 3, jI i, jI s, jI (q.length : Int), jI (jpw q n), jI (s + n), jI kk, jI 0]) (st' := [jI 0, jI (s + n), jR 28]) (hp' := (jm_hs h 27 (s + n) 1)) rfl ?_
                refine jE_if_eq rfl (by omega) (fun _ => ?_) (fun c139 => absurd c139 (by omega))
                refine jm_Ev.bl 1 (pc' := 156) (A' := [jR 20, jR 3, jI i, jI s, jI (q.length : Int), jI (jpw q n), jI (s + n), jI kk, jI 0]) (st' := [jI 0, jI (s + n), jR 28]) (hp' := (jm_hs h 27 (s + n) 1)) rfl ?_
                refine jE_zast (n := 60) rfl rfl (by omega) (by omega) ?_
                refine jm_Ev.bl 2 (pc' := 28) (A' := [jR 20, jR 3, jI i, jI s, jI (q.length : Int), jI (jpw q n), jI ((s + n) + 1), jI kk, jI 0]) (st' := []) (hp' := (jm_hs (jm_hs h 27 (s + n) 1) 28 (s + n) 0)) rfl ?_
                have el : (1 : Int) = jpl_ (jgk (hp 3 1) (hp 3 2) (hp 4)) q n := by
                  unfold jpl_ jle
                  rw [← t3, ← t4]
                  first | rw [if_pos c100] | rw [if_neg (by rw [c100]; simp), if_pos c113] | rw [if_neg (by rw [c100]; simp), if_neg (by rw [c113]; simp)]
                have em : (0 : Int) = jpm (jgk (hp 3 1) (hp 3 2) (hp 4)) q n := by
                  unfold jpm jmu
                  rw [← hbf, dt, ← t1, ← t2, c134]
                  first | rfl | (rw [c148]; rfl)
                refine ih (n + 1) (jpw q n) _ _ (jm_hs (jm_hs h 27 (s + n) 1) 28 (s + n) 0) (by omega) (by omega) (by rw [if_neg (by omega), show n + 1 - 1 = n by omega]) (jdsc_set_20 hd el em) (jdsc_out_20 ho (by omega) (by omega)) ((hf.set (by decide)).set (by decide)) (by omega) _ (by omega)
            · refine jm_Ev.bl 2 (pc' := 121) (A' := [jR 20, jR 3, jI i, jI s, jI (q.length : Int), jI (jpw q n), jI (s + n), jI kk, jI 0]) (st' := [jI 2, jI (s + n), jR 27]) (hp' := h) rfl ?_
              refine jE_iast (n := 60) rfl rfl (by omega) ?_
              refine jm_Ev.bl 5 (pc' := 131) (A' := [jR 20, jR 3, jI i, jI s, jI (q.length : Int), jI (jpw q n), jI (s + n), jI kk, jI 0]) (st' := [jI 2, jI kk, jI (s + n), jR 28]) (hp' := (jm_hs h 27 (s + n) 2)) rfl ?_
              refine jE_callI (vs := [jI kk, jI 2]) (r := [jI (s + n), jR 28]) (nx := 134) (v := jI (jb (jbit kk 2))) (hp1 := (jm_hs h 27 (s + n) 2)) rfl (c_o_hasKind (jm_hs h 27 (s + n) 2) kk 2) ?_
              refine jE_ifb_ne rfl (fun c134 => ?_) (fun c134 => ?_)
              · refine jm_Ev.bl 2 (pc' := 156) (A' := [jR 20, jR 3, jI i, jI s, jI (q.length : Int), jI (jpw q n), jI (s + n), jI kk, jI 0]) (st' := [jI 1, jI (s + n), jR 28]) (hp' := (jm_hs h 27 (s + n) 2)) rfl ?_
                refine jE_zast (n := 60) rfl rfl (by omega) (by omega) ?_
                refine jm_Ev.bl 2 (pc' := 28) (A' := [jR 20, jR 3, jI i, jI s, jI (q.length : Int), jI (jpw q n), jI ((s + n) + 1), jI kk, jI 0]) (st' := []) (hp' := (jm_hs (jm_hs h 27 (s + n) 2) 28 (s + n) 1)) rfl ?_
                have el : (2 : Int) = jpl_ (jgk (hp 3 1) (hp 3 2) (hp 4)) q n := by
                  unfold jpl_ jle
                  rw [← t3, ← t4]
                  first | rw [if_pos c100] | rw [if_neg (by rw [c100]; simp), if_pos c113] | rw [if_neg (by rw [c100]; simp), if_neg (by rw [c113]; simp)]
                have em : (1 : Int) = jpm (jgk (hp 3 1) (hp 3 2) (hp 4)) q n := by
                  unfold jpm jmu
                  rw [← hbf, dt, ← t1, ← t2, c134]
                  first | rfl | (rw [c148]; rfl)
                refine ih (n + 1) (jpw q n) _ _ (jm_hs (jm_hs h 27 (s + n) 2) 28 (s + n) 1) (by omega) (by omega) (by rw [if_neg (by omega), show n + 1 - 1 = n by omega]) (jdsc_set_20 hd el em) (jdsc_out_20 ho (by omega) (by omega)) ((hf.set (by decide)).set (by decide)) (by omega) _ (by omega)
              · refine jm_Ev.bl 1 (pc' := 139) (A' := [jR 20, jR 3, jI i, jI s, jI (q.length : Int), jI (jpw q n), jI (s + n), jI kk, jI 0]) (st' := [jI 0, jI (s + n), jR 28]) (hp' := (jm_hs h 27 (s + n) 2)) rfl ?_
                refine jE_if_eq rfl (by omega) (fun _ => ?_) (fun c139 => absurd c139 (by omega))
                refine jm_Ev.bl 1 (pc' := 156) (A' := [jR 20, jR 3, jI i, jI s, jI (q.length : Int), jI (jpw q n), jI (s + n), jI kk, jI 0]) (st' := [jI 0, jI (s + n), jR 28]) (hp' := (jm_hs h 27 (s + n) 2)) rfl ?_
                refine jE_zast (n := 60) rfl rfl (by omega) (by omega) ?_
                refine jm_Ev.bl 2 (pc' := 28) (A' := [jR 20, jR 3, jI i, jI s, jI (q.length : Int), jI (jpw q n), jI ((s + n) + 1), jI kk, jI 0]) (st' := []) (hp' := (jm_hs (jm_hs h 27 (s + n) 2) 28 (s + n) 0)) rfl ?_
                have el : (2 : Int) = jpl_ (jgk (hp 3 1) (hp 3 2) (hp 4)) q n := by
                  unfold jpl_ jle
                  rw [← t3, ← t4]
                  first | rw [if_pos c100] | rw [if_neg (by rw [c100]; simp), if_pos c113] | rw [if_neg (by rw [c100]; simp), if_neg (by rw [c113]; simp)]
                have em : (0 : Int) = jpm (jgk (hp 3 1) (hp 3 2) (hp 4)) q n := by
                  unfold jpm jmu
                  rw [← hbf, dt, ← t1, ← t2, c134]
                  first | rfl | (rw [c148]; rfl)
                refine ih (n + 1) (jpw q n) _ _ (jm_hs (jm_hs h 27 (s + n) 2) 28 (s + n) 0) (by omega) (by omega) (by rw [if_neg (by omega), show n + 1 - 1 = n by omega]) (jdsc_set_20 hd el em) (jdsc_out_20 ho (by omega) (by omega)) ((hf.set (by decide)).set (by decide)) (by omega) _ (by omega)
          · refine jm_Ev.bl 2 (pc' := 121) (A' := [jR 20, jR 3, jI i, jI s, jI (q.length : Int), jI (jpw q n), jI (s + n), jI kk, jI 0]) (st' := [jI 0, jI (s + n), jR 27]) (hp' := h) rfl ?_
            refine jE_iast (n := 60) rfl rfl (by omega) ?_
            refine jm_Ev.bl 5 (pc' := 131) (A' := [jR 20, jR 3, jI i, jI s, jI (q.length : Int), jI (jpw q n), jI (s + n), jI kk, jI 0]) (st' := [jI 2, jI kk, jI (s + n), jR 28]) (hp' := (jm_hs h 27 (s + n) 0)) rfl ?_
            refine jE_callI (vs := [jI kk, jI 2]) (r := [jI (s + n), jR 28]) (nx := 134) (v := jI (jb (jbit kk 2))) (hp1 := (jm_hs h 27 (s + n) 0)) rfl (c_o_hasKind (jm_hs h 27 (s + n) 0) kk 2) ?_
            refine jE_ifb_ne rfl (fun c134 => ?_) (fun c134 => ?_)
            · refine jm_Ev.bl 2 (pc' := 156) (A' := [jR 20, jR 3, jI i, jI s, jI (q.length : Int), jI (jpw q n), jI (s + n), jI kk, jI 0]) (st' := [jI 1, jI (s + n), jR 28]) (hp' := (jm_hs h 27 (s + n) 0)) rfl ?_
              refine jE_zast (n := 60) rfl rfl (by omega) (by omega) ?_
              refine jm_Ev.bl 2 (pc' := 28) (A' := [jR 20, jR 3, jI i, jI s, jI (q.length : Int), jI (jpw q n), jI ((s + n) + 1), jI kk, jI 0]) (st' := []) (hp' := (jm_hs (jm_hs h 27 (s + n) 0) 28 (s + n) 1)) rfl ?_
              have el : (0 : Int) = jpl_ (jgk (hp 3 1) (hp 3 2) (hp 4)) q n := by
                unfold jpl_ jle
                rw [← t3, ← t4]
                first | rw [if_pos c100] | rw [if_neg (by rw [c100]; simp), if_pos c113] | rw [if_neg (by rw [c100]; simp), if_neg (by rw [c113]; simp)]
              have em : (1 : Int) = jpm (jgk (hp 3 1) (hp 3 2) (hp 4)) q n := by
                unfold jpm jmu
                rw [← hbf, dt, ← t1, ← t2, c134]
                first | rfl | (rw [c148]; rfl)
              refine ih (n + 1) (jpw q n) _ _ (jm_hs (jm_hs h 27 (s + n) 0) 28 (s + n) 1) (by omega) (by omega) (by rw [if_neg (by omega), show n + 1 - 1 = n by omega]) (jdsc_set_20 hd el em) (jdsc_out_20 ho (by omega) (by omega)) ((hf.set (by decide)).set (by decide)) (by omega) _ (by omega)
            · refine jm_Ev.bl 1 (pc' := 139) (A' := [jR 20, jR 3, jI i, jI s, jI (q.length : Int), jI (jpw q n), jI (s + n), jI kk, jI 0]) (st' := [jI 0, jI (s + n), jR 28]) (hp' := (jm_hs h 27 (s + n) 0)) rfl ?_
              refine jE_if_eq rfl (by omega) (fun _ => ?_) (fun c139 => absurd c139 (by omega))
              refine jm_Ev.bl 1 (pc' := 156) (A' := [jR 20, jR 3, jI i, jI s, jI (q.length : Int), jI (jpw q n), jI (s + n), jI kk, jI 0]) (st' := [jI 0, jI (s + n), jR 28]) (hp' := (jm_hs h 27 (s + n) 0)) rfl ?_
              refine jE_zast (n := 60) rfl rfl (by omega) (by omega) ?_
              refine jm_Ev.bl 2 (pc' := 28) (A' := [jR 20, jR 3, jI i, jI s, jI (q.length : Int), jI (jpw q n), jI ((s + n) + 1), jI kk, jI 0]) (st' := []) (hp' := (jm_hs (jm_hs h 27 (s + n) 0) 28 (s + n) 0)) rfl ?_
              have el : (0 : Int) = jpl_ (jgk (hp 3 1) (hp 3 2) (hp 4)) q n := by
                unfold jpl_ jle
                rw [← t3, ← t4]
                first | rw [if_pos c100] | rw [if_neg (by rw [c100]; simp), if_pos c113] | rw [if_neg (by rw [c100]; simp), if_neg (by rw [c113]; simp)]
              have em : (0 : Int) = jpm (jgk (hp 3 1) (hp 3 2) (hp 4)) q n := by
                unfold jpm jmu
                rw [← hbf, dt, ← t1, ← t2, c134]
                first | rfl | (rw [c148]; rfl)
              refine ih (n + 1) (jpw q n) _ _ (jm_hs (jm_hs h 27 (s + n) 0) 28 (s + n) 0) (by omega) (by omega) (by rw [if_neg (by omega), show n + 1 - 1 = n by omega]) (jdsc_set_20 hd el em) (jdsc_out_20 ho (by omega) (by omega)) ((hf.set (by decide)).set (by decide)) (by omega) _ (by omega)
        · refine jm_Ev.bl 2 (pc' := 78) (A' := [jR 20, jR 3, jI i, jI s, jI (q.length : Int), jI bf, jI (s + n), jI kk, z2]) (st' := [jI 1]) (hp' := h) rfl ?_
          have dt : decide (jpw q n ≠ bf) = true := decide_eq_true c70
          refine jm_Ev.bl 3 (pc' := 83) (A' := [jR 20, jR 3, jI i, jI s, jI (q.length : Int), jI bf, jI (s + n), jI kk, jI 1]) (st' := [jI (s + n), jR 20]) (hp' := h) rfl ?_
          refine jE_callI (vs := [jR 20, jI (s + n)]) (r := []) (nx := 86) (v := jI (jpw q n)) (hp1 := h) rfl ((show h 26 (s + n) = jpw q n from ewayAt) ▸ c_o_wayAt_20 h (s + n) (by omega) (by omega)) ?_
          refine jm_Ev.bl 6 (pc' := 97) (A' := [jR 20, jR 3, jI i, jI s, jI (q.length : Int), jI (jpw q n), jI (s + n), jI kk, jI 1]) (st' := [jI 3, jI kk, jI (s + n), jR 27]) (hp' := h) rfl ?_
          refine jE_callI (vs := [jI kk, jI 3]) (r := [jI (s + n), jR 27]) (nx := 100) (v := jI (jb (jbit kk 3))) (hp1 := h) rfl (c_o_hasKind h kk 3) ?_
          refine jE_ifb_eq rfl (fun c100 => ?_) (fun c100 => ?_)
          · refine jm_Ev.bl 2 (pc' := 110) (A' := [jR 20, jR 3, jI i, jI s, jI (q.length : Int), jI (jpw q n), jI (s + n), jI kk, jI 1]) (st' := [jI 4, jI kk, jI (s + n), jR 27]) (hp' := h) rfl ?_
            refine jE_callI (vs := [jI kk, jI 4]) (r := [jI (s + n), jR 27]) (nx := 113) (v := jI (jb (jbit kk 4))) (hp1 := h) rfl (c_o_hasKind h kk 4) ?_
            refine jE_ifb_eq rfl (fun c113 => ?_) (fun c113 => ?_)
            · refine jm_Ev.bl 1 (pc' := 121) (A' := [jR 20, jR 3, jI i, jI s, jI (q.length : Int), jI (jpw q n), jI (s + n), jI kk, jI 1]) (st' := [jI 1, jI (s + n), jR 27]) (hp' := h) rfl ?_
              refine jE_iast (n := 60) rfl rfl (by omega) ?_
              refine jm_Ev.bl 5 (pc' := 131) (A' := [jR 20, jR 3, jI i, jI s, jI (q.length : Int), jI (jpw q n), jI (s + n), jI kk, jI 1]) (st' := [jI 2, jI kk, jI (s + n), jR 28]) (hp' := (jm_hs h 27 (s + n) 1)) rfl ?_
              refine jE_callI (vs := [jI kk, jI 2]) (r := [jI (s + n), jR 28]) (nx := 134) (v := jI (jb (jbit kk 2))) (hp1 := (jm_hs h 27 (s + n) 1)) rfl (c_o_hasKind (jm_hs h 27 (s + n) 1) kk 2) ?_
              refine jE_ifb_ne rfl (fun c134 => ?_) (fun c134 => ?_)
              · refine jm_Ev.bl 2 (pc' := 156) (A' := [jR 20, jR 3, jI i, jI s, jI (q.length : Int), jI (jpw q n), jI (s + n), jI kk, jI 1]) (st' := [jI 1, jI (s + n), jR 28]) (hp' := (jm_hs h 27 (s + n) 1)) rfl ?_
                refine jE_zast (n := 60) rfl rfl (by omega) (by omega) ?_
                refine jm_Ev.bl 2 (pc' := 28) (A' := [jR 20, jR 3, jI i, jI s, jI (q.length : Int), jI (jpw q n), jI ((s + n) + 1), jI kk, jI 1]) (st' := []) (hp' := (jm_hs (jm_hs h 27 (s + n) 1) 28 (s + n) 1)) rfl ?_
                have el : (1 : Int) = jpl_ (jgk (hp 3 1) (hp 3 2) (hp 4)) q n := by
                  unfold jpl_ jle
                  rw [← t3, ← t4]
                  first | rw [if_pos c100] | rw [if_neg (by rw [c100]; simp), if_pos c113] | rw [if_neg (by rw [c100]; simp), if_neg (by rw [c113]; simp)]
                have em : (1 : Int) = jpm (jgk (hp 3 1) (hp 3 2) (hp 4)) q n := by
                  unfold jpm jmu
                  rw [← hbf, dt, ← t1, ← t2, c134]
                  first | rfl | (rw [c148]; rfl)
                refine ih (n + 1) (jpw q n) _ _ (jm_hs (jm_hs h 27 (s + n) 1) 28 (s + n) 1) (by omega) (by omega) (by rw [if_neg (by omega), show n + 1 - 1 = n by omega]) (jdsc_set_20 hd el em) (jdsc_out_20 ho (by omega) (by omega)) ((hf.set (by decide)).set (by decide)) (by omega) _ (by omega)
              · refine jm_Ev.bl 1 (pc' := 139) (A' := [jR 20, jR 3, jI i, jI s, jI (q.length : Int), jI (jpw q n), jI (s + n), jI kk, jI 1]) (st' := [jI 1, jI (s + n), jR 28]) (hp' := (jm_hs h 27 (s + n) 1)) rfl ?_
                refine jE_if_eq rfl (by omega) (fun c139 => absurd c139 (by omega)) (fun _ => ?_)
                refine jm_Ev.bl 2 (pc' := 145) (A' := [jR 20, jR 3, jI i, jI s, jI (q.length : Int), jI (jpw q n), jI (s + n), jI kk, jI 1]) (st' := [jI 1, jI kk, jI (s + n), jR 28]) (hp' := (jm_hs h 27 (s + n) 1)) rfl ?_
                refine jE_callI (vs := [jI kk, jI 1]) (r := [jI (s + n), jR 28]) (nx := 148) (v := jI (jb (jbit kk 1))) (hp1 := (jm_hs h 27 (s + n) 1)) rfl (c_o_hasKind (jm_hs h 27 (s + n) 1) kk 1) ?_
                refine jE_ifb_eq rfl (fun c148 => ?_) (fun c148 => ?_)
                · refine jm_Ev.bl 1 (pc' := 156) (A' := [jR 20, jR 3, jI i, jI s, jI (q.length : Int), jI (jpw q n), jI (s + n), jI kk, jI 1]) (st' := [jI 0, jI (s + n), jR 28]) (hp' := (jm_hs h 27 (s + n) 1)) rfl ?_
                  refine jE_zast (n := 60) rfl rfl (by omega) (by omega) ?_
                  refine jm_Ev.bl 2 (pc' := 28) (A' := [jR 20, jR 3, jI i, jI s, jI (q.length : Int), jI (jpw q n), jI ((s + n) + 1), jI kk, jI 1]) (st' := []) (hp' := (jm_hs (jm_hs h 27 (s + n) 1) 28 (s + n) 0)) rfl ?_
                  have el : (1 : Int) = jpl_ (jgk (hp 3 1) (hp 3 2) (hp 4)) q n := by
                    unfold jpl_ jle
                    rw [← t3, ← t4]
                    first | rw [if_pos c100] | rw [if_neg (by rw [c100]; simp), if_pos c113] | rw [if_neg (by rw [c100]; simp), if_neg (by rw [c113]; simp)]
                  have em : (0 : Int) = jpm (jgk (hp 3 1) (hp 3 2) (hp 4)) q n := by
                    unfold jpm jmu
                    rw [← hbf, dt, ← t1, ← t2, c134]
                    first | rfl | (rw [c148]; rfl)
                  refine ih (n + 1) (jpw q n) _ _ (jm_hs (jm_hs h 27 (s + n) 1) 28 (s + n) 0) (by omega) (by omega) (by rw [if_neg (by omega), show n + 1 - 1 = n by omega]) (jdsc_set_20 hd el em) (jdsc_out_20 ho (by omega) (by omega)) ((hf.set (by decide)).set (by decide)) (by omega) _ (by omega)
                · refine jm_Ev.bl 2 (pc' := 156) (A' := [jR 20, jR 3, jI i, jI s, jI (q.length : Int), jI (jpw q n), jI (s + n), jI kk, jI 1]) (st' := [jI 1, jI (s + n), jR 28]) (hp' := (jm_hs h 27 (s + n) 1)) rfl ?_
                  refine jE_zast (n := 60) rfl rfl (by omega) (by omega) ?_
                  refine jm_Ev.bl 2 (pc' := 28) (A' := [jR 20, jR 3, jI i, jI s, jI (q.length : Int), jI (jpw q n), jI ((s + n) + 1), jI kk, jI 1]) (st' := []) (hp' := (jm_hs (jm_hs h 27 (s + n) 1) 28 (s + n) 1)) rfl ?_
                  have el : (1 : Int) = jpl_ (jgk (hp 3 1) (hp 3 2) (hp 4)) q n := by
                    unfold jpl_ jle
                    rw [← t3, ← t4]
                    first | rw [if_pos c100] | rw [if_neg (by rw [c100]; simp), if_pos c113] | rw [if_neg (by rw [c100]; simp), if_neg (by rw [c113]; simp)]
                  have em : (1 : Int) = jpm (jgk (hp 3 1) (hp 3 2) (hp 4)) q n := by
                    unfold jpm jmu
                    rw [← hbf, dt, ← t1, ← t2, c134]
                    first | rfl | (rw [c148]; rfl)
                  refine ih (n + 1) (jpw q n) _ _ (jm_hs (jm_hs h 27 (s + n) 1) 28 (s + n) 1) (by omega) (by omega) (by rw [if_neg (by omega), show n + 1 - 1 = n by omega]) (jdsc_set_20 hd el em) (jdsc_out_20 ho (by omega) (by omega)) ((hf.set (by decide)).set (by decide)) (by omega) _ (by omega)
            · refine jm_Ev.bl 2 (pc' := 121) (A' := [jR 20, jR 3, jI i, jI s, jI (q.length : Int), jI (jpw q n), jI (s + n), jI kk, jI 1]) (st' := [jI 2, jI (s + n), jR 27]) (hp' := h) rfl ?_
              refine jE_iast (n := 60) rfl rfl (by omega) ?_
              refine jm_Ev.bl 5 (pc' := 131) (A' := [jR 20, jR 3, jI i, jI s, jI (q.length : Int), jI (jpw q n), jI (s + n), jI kk, jI 1]) (st' := [jI 2, jI kk, jI (s + n), jR 28]) (hp' := (jm_hs h 27 (s + n) 2)) rfl ?_
              refine jE_callI (vs := [jI kk, jI 2]) (r := [jI (s + n), jR 28]) (nx := 134) (v := jI (jb (jbit kk 2))) (hp1 := (jm_hs h 27 (s + n) 2)) rfl (c_o_hasKind (jm_hs h 27 (s + n) 2) kk 2) ?_
              refine jE_ifb_ne rfl (fun c134 => ?_) (fun c134 => ?_)
              · refine jm_Ev.bl 2 (pc' := 156) (A' := [jR 20, jR 3, jI i, jI s, jI (q.length : Int), jI (jpw q n), jI (s + n), jI kk, jI 1]) (st' := [jI 1, jI (s + n), jR 28]) (hp' := (jm_hs h 27 (s + n) 2)) rfl ?_
                refine jE_zast (n := 60) rfl rfl (by omega) (by omega) ?_
                refine jm_Ev.bl 2 (pc' := 28) (A' := [jR 20, jR 3, jI i, jI s, jI (q.length : Int), jI (jpw q n), jI ((s + n) + 1), jI kk, jI 1]) (st' := []) (hp' := (jm_hs (jm_hs h 27 (s + n) 2) 28 (s + n) 1)) rfl ?_
                have el : (2 : Int) = jpl_ (jgk (hp 3 1) (hp 3 2) (hp 4)) q n := by
                  unfold jpl_ jle
                  rw [← t3, ← t4]
                  first | rw [if_pos c100] | rw [if_neg (by rw [c100]; simp), if_pos c113] | rw [if_neg (by rw [c100]; simp), if_neg (by rw [c113]; simp)]
                have em : (1 : Int) = jpm (jgk (hp 3 1) (hp 3 2) (hp 4)) q n := by
                  unfold jpm jmu
                  rw [← hbf, dt, ← t1, ← t2, c134]
                  first | rfl | (rw [c148]; rfl)
                refine ih (n + 1) (jpw q n) _ _ (jm_hs (jm_hs h 27 (s + n) 2) 28 (s + n) 1) (by omega) (by omega) (by rw [if_neg (by omega), show n + 1 - 1 = n by omega]) (jdsc_set_20 hd el em) (jdsc_out_20 ho (by omega) (by omega)) ((hf.set (by decide)).set (by decide)) (by omega) _ (by omega)
              · refine jm_Ev.bl 1 (pc' := 139) (A' := [jR 20, jR 3, jI i, jI s, jI (q.length : Int), jI (jpw q n), jI (s + n), jI kk, jI 1]) (st' := [jI 1, jI (s + n), jR 28]) (hp' := (jm_hs h 27 (s + n) 2)) rfl ?_
                refine jE_if_eq rfl (by omega) (fun c139 => absurd c139 (by omega)) (fun _ => ?_)
                refine jm_Ev.bl 2 (pc' := 145) (A' := [jR 20, jR 3, jI i, jI s, jI (q.length : Int), jI (jpw q n), jI (s + n), jI kk, jI 1]) (st' := [jI 1, jI kk, jI (s + n), jR 28]) (hp' := (jm_hs h 27 (s + n) 2)) rfl ?_
                refine jE_callI (vs := [jI kk, jI 1]) (r := [jI (s + n), jR 28]) (nx := 148) (v := jI (jb (jbit kk 1))) (hp1 := (jm_hs h 27 (s + n) 2)) rfl (c_o_hasKind (jm_hs h 27 (s + n) 2) kk 1) ?_
                refine jE_ifb_eq rfl (fun c148 => ?_) (fun c148 => ?_)
                · refine jm_Ev.bl 1 (pc' := 156) (A' := [jR 20, jR 3, jI i, jI s, jI (q.length : Int), jI (jpw q n), jI (s + n), jI kk, jI 1]) (st' := [jI 0, jI (s + n), jR 28]) (hp' := (jm_hs h 27 (s + n) 2)) rfl ?_
                  refine jE_zast (n := 60) rfl rfl (by omega) (by omega) ?_
                  refine jm_Ev.bl 2 (pc' := 28) (A' := [jR 20, jR 3, jI i, jI s, jI (q.length : Int), jI (jpw q n), jI ((s + n) + 1), jI kk, jI 1]) (st' := []) (hp' := (jm_hs (jm_hs h 27 (s + n) 2) 28 (s + n) 0)) rfl ?_
                  have el : (2 : Int) = jpl_ (jgk (hp 3 1) (hp 3 2) (hp 4)) q n := by
                    unfold jpl_ jle
                    rw [← t3, ← t4]
                    first | rw [if_pos c100] | rw [if_neg (by rw [c100]; simp), if_pos c113] | rw [if_neg (by rw [c100]; simp), if_neg (by rw [c113]; simp)]
                  have em : (0 : Int) = jpm (jgk (hp 3 1) (hp 3 2) (hp 4)) q n := by
                    unfold jpm jmu
                    rw [← hbf, dt, ← t1, ← t2, c134]
                    first | rfl | (rw [c148]; rfl)
                  refine ih (n + 1) (jpw q n) _ _ (jm_hs (jm_hs h 27 (s + n) 2) 28 (s + n) 0) (by omega) (by omega) (by rw [if_neg (by omega), show n + 1 - 1 = n by omega]) (jdsc_set_20 hd el em) (jdsc_out_20 ho (by omega) (by omega)) ((hf.set (by decide)).set (by decide)) (by omega) _ (by omega)
                · refine jm_Ev.bl 2 (pc' := 156) (A' := [jR 20, jR 3, jI i, jI s, jI (q.length : Int), jI (jpw q n), jI (s + n), jI kk, jI 1]) (st' := [jI 1, jI (s + n), jR 28]) (hp' := (jm_hs h 27 (s + n) 2)) rfl ?_
                  refine jE_zast (n := 60) rfl rfl (by omega) (by omega) ?_
                  refine jm_Ev.bl 2 (pc' := 28) (A' := [jR 20, jR 3, jI i, jI s, jI (q.length : Int), jI (jpw q n), jI ((s + n) + 1), jI kk, jI 1]) (st' := []) (hp' := (jm_hs (jm_hs h 27 (s + n) 2) 28 (s + n) 1)) rfl ?_
                  have el : (2 : Int) = jpl_ (jgk (hp 3 1) (hp 3 2) (hp 4)) q n := by
                    unfold jpl_ jle
                    rw [← t3, ← t4]
                    first | rw [if_pos c100] | rw [if_neg (by rw [c100]; simp), if_pos c113] | rw [if_neg (by rw [c100]; simp), if_neg (by rw [c113]; simp)]
                  have em : (1 : Int) = jpm (jgk (hp 3 1) (hp 3 2) (hp 4)) q n := by
                    unfold jpm jmu
                    rw [← hbf, dt, ← t1, ← t2, c134]
                    first | rfl | (rw [c148]; rfl)
                  refine ih (n + 1) (jpw q n) _ _ (jm_hs (jm_hs h 27 (s + n) 2) 28 (s + n) 1) (by omega) (by omega) (by rw [if_neg (by omega), show n + 1 - 1 = n by omega]) (jdsc_set_20 hd el em) (jdsc_out_20 ho (by omega) (by omega)) ((hf.set (by decide)).set (by decide)) (by omega) _ (by omega)
          · refine jm_Ev.bl 2 (pc' := 121) (A' := [jR 20, jR 3, jI i, jI s, jI (q.length : Int), jI (jpw q n), jI (s + n), jI kk, jI 1]) (st' := [jI 0, jI (s + n), jR 27]) (hp' := h) rfl ?_
            refine jE_iast (n := 60) rfl rfl (by omega) ?_
            refine jm_Ev.bl 5 (pc' := 131) (A' := [jR 20, jR 3, jI i, jI s, jI (q.length : Int), jI (jpw q n), jI (s + n), jI kk, jI 1]) (st' := [jI 2, jI kk, jI (s + n), jR 28]) (hp' := (jm_hs h 27 (s + n) 0)) rfl ?_
            refine jE_callI (vs := [jI kk, jI 2]) (r := [jI (s + n), jR 28]) (nx := 134) (v := jI (jb (jbit kk 2))) (hp1 := (jm_hs h 27 (s + n) 0)) rfl (c_o_hasKind (jm_hs h 27 (s + n) 0) kk 2) ?_
            refine jE_ifb_ne rfl (fun c134 => ?_) (fun c134 => ?_)
            · refine jm_Ev.bl 2 (pc' := 156) (A' := [jR 20, jR 3, jI i, jI s, jI (q.length : Int), jI (jpw q n), jI (s + n), jI kk, jI 1]) (st' := [jI 1, jI (s + n), jR 28]) (hp' := (jm_hs h 27 (s + n) 0)) rfl ?_
              refine jE_zast (n := 60) rfl rfl (by omega) (by omega) ?_
              refine jm_Ev.bl 2 (pc' := 28) (A' := [jR 20, jR 3, jI i, jI s, jI (q.length : Int), jI (jpw q n), jI ((s + n) + 1), jI kk, jI 1]) (st' := []) (hp' := (jm_hs (jm_hs h 27 (s + n) 0) 28 (s + n) 1)) rfl ?_
              have el : (0 : Int) = jpl_ (jgk (hp 3 1) (hp 3 2) (hp 4)) q n := by
                unfold jpl_ jle
                rw [← t3, ← t4]
                first | rw [if_pos c100] | rw [if_neg (by rw [c100]; simp), if_pos c113] | rw [if_neg (by rw [c100]; simp), if_neg (by rw [c113]; simp)]
              have em : (1 : Int) = jpm (jgk (hp 3 1) (hp 3 2) (hp 4)) q n := by
                unfold jpm jmu
                rw [← hbf, dt, ← t1, ← t2, c134]
                first | rfl | (rw [c148]; rfl)
              refine ih (n + 1) (jpw q n) _ _ (jm_hs (jm_hs h 27 (s + n) 0) 28 (s + n) 1) (by omega) (by omega) (by rw [if_neg (by omega), show n + 1 - 1 = n by omega]) (jdsc_set_20 hd el em) (jdsc_out_20 ho (by omega) (by omega)) ((hf.set (by decide)).set (by decide)) (by omega) _ (by omega)
            · refine jm_Ev.bl 1 (pc' := 139) (A' := [jR 20, jR 3, jI i, jI s, jI (q.length : Int), jI (jpw q n), jI (s + n), jI kk, jI 1]) (st' := [jI 1, jI (s + n), jR 28]) (hp' := (jm_hs h 27 (s + n) 0)) rfl ?_
              refine jE_if_eq rfl (by omega) (fun c139 => absurd c139 (by omega)) (fun _ => ?_)
              refine jm_Ev.bl 2 (pc' := 145) (A' := [jR 20, jR 3, jI i, jI s, jI (q.length : Int), jI (jpw q n), jI (s + n), jI kk, jI 1]) (st' := [jI 1, jI kk, jI (s + n), jR 28]) (hp' := (jm_hs h 27 (s + n) 0)) rfl ?_
              refine jE_callI (vs := [jI kk, jI 1]) (r := [jI (s + n), jR 28]) (nx := 148) (v := jI (jb (jbit kk 1))) (hp1 := (jm_hs h 27 (s + n) 0)) rfl (c_o_hasKind (jm_hs h 27 (s + n) 0) kk 1) ?_
              refine jE_ifb_eq rfl (fun c148 => ?_) (fun c148 => ?_)
              · refine jm_Ev.bl 1 (pc' := 156) (A' := [jR 20, jR 3, jI i, jI s, jI (q.length : Int), jI (jpw q n), jI (s + n), jI kk, jI 1]) (st' := [jI 0, jI (s + n), jR 28]) (hp' := (jm_hs h 27 (s + n) 0)) rfl ?_
                refine jE_zast (n := 60) rfl rfl (by omega) (by omega) ?_
                refine jm_Ev.bl 2 (pc' := 28) (A' := [jR 20, jR 3, jI i, jI s, jI (q.length : Int), jI (jpw q n), jI ((s + n) + 1), jI kk, jI 1]) (st' := []) (hp' := (jm_hs (jm_hs h 27 (s + n) 0) 28 (s + n) 0)) rfl ?_
                have el : (0 : Int) = jpl_ (jgk (hp 3 1) (hp 3 2) (hp 4)) q n := by
                  unfold jpl_ jle
                  rw [← t3, ← t4]
                  first | rw [if_pos c100] | rw [if_neg (by rw [c100]; simp), if_pos c113] | rw [if_neg (by rw [c100]; simp), if_neg (by rw [c113]; simp)]
                have em : (0 : Int) = jpm (jgk (hp 3 1) (hp 3 2) (hp 4)) q n := by
                  unfold jpm jmu
                  rw [← hbf, dt, ← t1, ← t2, c134]
                  first | rfl | (rw [c148]; rfl)
                refine ih (n + 1) (jpw q n) _ _ (jm_hs (jm_hs h 27 (s + n) 0) 28 (s + n) 0) (by omega) (by omega) (by rw [if_neg (by omega), show n + 1 - 1 = n by omega]) (jdsc_set_20 hd el em) (jdsc_out_20 ho (by omega) (by omega)) ((hf.set (by decide)).set (by decide)) (by omega) _ (by omega)
              · refine jm_Ev.bl 2 (pc' := 156) (A' := [jR 20, jR 3, jI i, jI s, jI (q.length : Int), jI (jpw q n), jI (s + n), jI kk, jI 1]) (st' := [jI 1, jI (s + n), jR 28]) (hp' := (jm_hs h 27 (s + n) 0)) rfl ?_
                refine jE_zast (n := 60) rfl rfl (by omega) (by omega) ?_
                refine jm_Ev.bl 2 (pc' := 28) (A' := [jR 20, jR 3, jI i, jI s, jI (q.length : Int), jI (jpw q n), jI ((s + n) + 1), jI kk, jI 1]) (st' := []) (hp' := (jm_hs (jm_hs h 27 (s + n) 0) 28 (s + n) 1)) rfl ?_
                have el : (0 : Int) = jpl_ (jgk (hp 3 1) (hp 3 2) (hp 4)) q n := by
                  unfold jpl_ jle
                  rw [← t3, ← t4]
                  first | rw [if_pos c100] | rw [if_neg (by rw [c100]; simp), if_pos c113] | rw [if_neg (by rw [c100]; simp), if_neg (by rw [c113]; simp)]
                have em : (1 : Int) = jpm (jgk (hp 3 1) (hp 3 2) (hp 4)) q n := by
                  unfold jpm jmu
                  rw [← hbf, dt, ← t1, ← t2, c134]
                  first | rfl | (rw [c148]; rfl)
                refine ih (n + 1) (jpw q n) _ _ (jm_hs (jm_hs h 27 (s + n) 0) 28 (s + n) 1) (by omega) (by omega) (by rw [if_neg (by omega), show n + 1 - 1 = n by omega]) (jdsc_set_20 hd el em) (jdsc_out_20 ho (by omega) (by omega)) ((hf.set (by decide)).set (by decide)) (by omega) _ (by omega)
theorem c_o_desc_20 (hp : jm_H) (hG : jG hp 3 4) (hc : 0 ≤ hp 20 0 ∧ hp 20 0 ≤ 15) (i : Int) (h0 : 0 ≤ i) (h1 : i < hp 20 0) (s : Int) (q : List jT) (hs0 : 0 ≤ s) (hsN : s + q.length ≤ 60) (hq : ∀ n : Int, 0 ≤ n → n < q.length → hp 24 (s + n) = jpx q n ∧ hp 25 (s + n) = jpy q n ∧ hp 26 (s + n) = jpw q n ∧ 0 ≤ jpx q n ∧ jpx q n ≤ 5 ∧ 0 ≤ jpy q n ∧ jpy q n ≤ 5 ∧ 0 ≤ jpw q n ∧ jpw q n ≤ 3) (hN : 0 < q.length) (es : hp 21 i = s) (eN : hp 22 i = (q.length : Int)) : jm_Ev 55 0 [jR 20, jR 3, jI i, jU, jU, jU, jU, jU, jU] [] hp (jdsc_20 hp (jgk (hp 3 1) (hp 3 2) (hp 4)) s q) := by
  refine jm_Ev.bl 2 (pc' := 2) (A' := [jR 20, jR 3, jI i, jU, jU, jU, jU, jU, jU]) (st' := [jI i, jR 20]) (hp' := hp) rfl ?_
  refine jE_callI (vs := [jR 20, jI i]) (r := []) (nx := 5) (v := jI s) (hp1 := hp) rfl (es ▸ c_o_startOf_20 hp i (by omega) (by omega)) ?_
  refine jm_Ev.bl 3 (pc' := 8) (A' := [jR 20, jR 3, jI i, jI s, jU, jU, jU, jU, jU]) (st' := [jI i, jR 20]) (hp' := hp) rfl ?_
  refine jE_callI (vs := [jR 20, jI i]) (r := []) (nx := 11) (v := jI (q.length : Int)) (hp1 := hp) rfl (eN ▸ c_o_len_20 hp hc i (by omega) (by omega)) ?_
  refine jm_Ev.bl 7 (pc' := 20) (A' := [jR 20, jR 3, jI i, jI s, jI (q.length : Int), jU, jU, jU, jU]) (st' := [jI ((s + (q.length : Int)) - 1), jR 20]) (hp' := hp) rfl ?_
  refine jE_callI (vs := [jR 20, jI ((s + (q.length : Int)) - 1)]) (r := []) (nx := 23) (v := jI (hp 26 (s + (q.length : Int) - 1))) (hp1 := hp) rfl (c_o_wayAt_20 hp _ (by omega) (by omega)) ?_
  refine jm_Ev.bl 3 (pc' := 28) (A' := [jR 20, jR 3, jI i, jI s, jI (q.length : Int), jI (hp 26 (s + (q.length : Int) - 1)), jI s, jU, jU]) (st' := []) (hp' := hp) rfl ?_
  exact c_o_desc_L_20 hp hG i s q hs0 hsN hq 61 0 _ _ _ hp (by omega) (by omega) (by rw [if_pos rfl, ← (hq ((q.length : Int) - 1) (by omega) (by omega)).2.2.1, show s + ((q.length : Int) - 1) = s + (q.length : Int) - 1 by omega]) (fun j a b => by omega) (fun j _ => ⟨rfl, rfl⟩) jFr.rf (by omega) s (by omega)
def jdsc_43 (hp : jm_H) (K : Int → Int → Int) (s : Int) (q : List jT) : Option jm_V → jm_H → Prop := fun rv h => rv = none ∧ (∀ n : Int, 0 ≤ n → n < q.length → h 50 (s + n) = jpl_ K q n ∧ h 51 (s + n) = jpm K q n) ∧ (∀ j, j < s ∨ s + q.length ≤ j → h 50 j = hp 50 j ∧ h 51 j = hp 51 j) ∧ jFr hp h [50, 51]
theorem jdsc_set_43 {h : jm_H} {s n a b : Int} {P R : Int → Int} (q : ∀ j, 0 ≤ j → j < n → h 50 (s + j) = P j ∧ h 51 (s + j) = R j) (ha : a = P n) (hb : b = R n) : ∀ j, 0 ≤ j → j < n + 1 → (jm_hs (jm_hs h 50 (s + n) a) 51 (s + n) b) 50 (s + j) = P j ∧ (jm_hs (jm_hs h 50 (s + n) a) 51 (s + n) b) 51 (s + j) = R j := fun j j0 j1 => by
  rw [js_hs_ne (by decide), js_hs_eq, js_hs_eq, js_hs_ne (by decide)]
  by_cases e : j = n
  · subst e; rw [if_pos rfl, if_pos rfl]; exact ⟨ha, hb⟩
  · rw [if_neg (by omega), if_neg (by omega)]; exact q j j0 (by omega)
theorem jdsc_out_43 {hp h : jm_H} {s t a b N : Int} (q : ∀ j, j < s ∨ s + N ≤ j → h 50 j = hp 50 j ∧ h 51 j = hp 51 j) (h0 : s ≤ t) (h1 : t < s + N) : ∀ j, j < s ∨ s + N ≤ j → (jm_hs (jm_hs h 50 t a) 51 t b) 50 j = hp 50 j ∧ (jm_hs (jm_hs h 50 t a) 51 t b) 51 j = hp 51 j := fun j hj => by
  rw [js_hs_ne (by decide), js_hs_eq, js_hs_eq, js_hs_ne (by decide), if_neg (by omega), if_neg (by omega)]
  exact q j hj
theorem c_o_desc_L_43 (hp : jm_H) (hG : jG hp 5 6) (i : Int) (s : Int) (q : List jT) (hs0 : 0 ≤ s) (hsN : s + q.length ≤ 60) (hq : ∀ n : Int, 0 ≤ n → n < q.length → hp 47 (s + n) = jpx q n ∧ hp 48 (s + n) = jpy q n ∧ hp 49 (s + n) = jpw q n ∧ 0 ≤ jpx q n ∧ jpx q n ≤ 5 ∧ 0 ≤ jpy q n ∧ jpy q n ≤ 5 ∧ 0 ≤ jpw q n ∧ jpw q n ≤ 3) : ∀ (m : Nat) (n bf : Int) (z1 z2 : jm_V) (h : jm_H), 0 ≤ n → n ≤ q.length → bf = jpw q (if n = 0 then (q.length : Int) - 1 else n - 1) → (∀ j, 0 ≤ j → j < n → h 50 (s + j) = jpl_ (jgk (hp 5 1) (hp 5 2) (hp 6)) q j ∧ h 51 (s + j) = jpm (jgk (hp 5 1) (hp 5 2) (hp 6)) q j) → (∀ j, j < s ∨ s + q.length ≤ j → h 50 j = hp 50 j ∧ h 51 j = hp 51 j) → jFr hp h [50, 51] → q.length - n < m → ∀ t, t = s + n → jm_Ev 55 28 [jR 43, jR 5, jI i, jI s, jI (q.length : Int), jI bf, jI t, z1, z2] [] h (jdsc_43 hp (jgk (hp 5 1) (hp 5 2) (hp 6)) s q) := by
  intro n
  induction n with
  | zero => intro n bf z1 z2 h hn0 hn1 hbf hd ho hf hm t et; omega
  | succ n ih =>
    intro n bf z1 z2 h hn0 hn1 hbf hd ho hf hm t et
    subst et
    have hG1 : jG h 5 6 := by unfold jG; rw [hf 5 (by decide), hf 6 (by decide)]; exact hG
    have hbr : 0 ≤ q.length ∧ (0 < (q.length : Int) → 0 ≤ bf ∧ bf ≤ 3) := ⟨by omega, fun z => by
      rw [hbf]
      have := hq (if n = 0 then (q.length : Int) - 1 else n - 1) (by split <;> omega) (by split <;> omega)
      omega⟩
    have hqn : n < q.length → h 47 (s + n) = jpx q n ∧ h 48 (s + n) = jpy q n ∧ h 49 (s + n) = jpw q n ∧ 0 ≤ jpx q n ∧ jpx q n ≤ 5 ∧ 0 ≤ jpy q n ∧ jpy q n ≤ 5 ∧ 0 ≤ jpw q n ∧ jpw q n ≤ 3 := fun z => by rw [hf 47 (by decide), hf 48 (by decide), hf 49 (by decide)]; exact hq n hn0 z
    refine jm_Ev.bl 4 (pc' := 34) (A' := [jR 43, jR 5, jI i, jI s, jI (q.length : Int), jI bf, jI (s + n), z1, z2]) (st' := [jI (s + (q.length : Int)), jI (s + n)]) (hp' := h) rfl ?_
    refine jE_icmp_ge rfl (by omega) (by omega) (fun c34 => ?_) (fun c34 => ?_)
    · have e : n = q.length := by omega
      subst e
      exact jE_ret rfl ⟨rfl, hd, ho, hf⟩
    · obtain ⟨exAt, eyAt, ewayAt, b1, b2, b3, b4, b5, b6⟩ := hqn (by omega)
      refine jm_Ev.bl 2 (pc' := 41) (A' := [jR 43, jR 5, jI i, jI s, jI (q.length : Int), jI bf, jI (s + n), z1, z2]) (st' := [jI 60, jI (s + n)]) (hp' := h) rfl ?_
      refine jE_icmp_ge rfl (by omega) (by omega) (fun c41 => ?_) (fun c41 => ?_)
      · omega
      · refine jm_Ev.bl 3 (pc' := 48) (A' := [jR 43, jR 5, jI i, jI s, jI (q.length : Int), jI bf, jI (s + n), z1, z2]) (st' := [jI (s + n), jR 43, jR 5]) (hp' := h) rfl ?_
        refine jE_callI (vs := [jR 43, jI (s + n)]) (r := [jR 5]) (nx := 51) (v := jI (jpx q n)) (hp1 := h) rfl ((show h 47 (s + n) = jpx q n from exAt) ▸ c_o_xAt_43 h (s + n) (by omega) (by omega)) ?_
        refine jm_Ev.bl 2 (pc' := 54) (A' := [jR 43, jR 5, jI i, jI s, jI (q.length : Int), jI bf, jI (s + n), z1, z2]) (st' := [jI (s + n), jR 43, jI (jpx q n), jR 5]) (hp' := h) rfl ?_
        refine jE_callI (vs := [jR 43, jI (s + n)]) (r := [jI (jpx q n), jR 5]) (nx := 57) (v := jI (jpy q n)) (hp1 := h) rfl ((show h 48 (s + n) = jpy q n from eyAt) ▸ c_o_yAt_43 h (s + n) (by omega) (by omega)) ?_
        refine jE_callI (vs := [jR 5, jI (jpx q n), jI (jpy q n)]) (r := []) (nx := 60) (v := jI (jtk (jgk (h 5 1) (h 5 2) (h 6)) (jpx q n) (jpy q n))) (hp1 := h) rfl (c_o_touched_5 h hG1 (jpx q n) (jpy q n) (by omega) (by omega)) ?_
        obtain ⟨kk, hkk⟩ : ∃ z, z = jtk (jgk (h 5 1) (h 5 2) (h 6)) (jpx q n) (jpy q n) := ⟨_, rfl⟩
        rw [← hkk]
        have tk : ∀ k, 0 ≤ k → k ≤ 4 → jbit kk k = jtch (jgk (hp 5 1) (hp 5 2) (hp 6)) (jpx q n) (jpy q n) k := fun k a b => by rw [hkk, jtk_bit (jgk_r hG1) _ _ k a b, hf 5 (by decide), hf 6 (by decide)]
        have t1 := tk 1 (by omega) (by omega)
        have t2 := tk 2 (by omega) (by omega)
        have t3 := tk 3 (by omega) (by omega)
        have t4 := tk 4 (by omega) (by omega)
        refine jm_Ev.bl 3 (pc' := 65) (A' := [jR 43, jR 5, jI i, jI s, jI (q.length : Int), jI bf, jI (s + n), jI kk, z2]) (st' := [jI (s + n), jR 43]) (hp' := h) rfl ?_
        refine jE_callI (vs := [jR 43, jI (s + n)]) (r := []) (nx := 68) (v := jI (jpw q n)) (hp1 := h) rfl ((show h 49 (s + n) = jpw q n from ewayAt) ▸ c_o_wayAt_43 h (s + n) (by omega) (by omega)) ?_
        refine jm_Ev.bl 1 (pc' := 70) (A' := [jR 43, jR 5, jI i, jI s, jI (q.length : Int), jI bf, jI (s + n), jI kk, z2]) (st' := [jI bf, jI (jpw q n)]) (hp' := h) rfl ?_
        refine jE_icmp_eq rfl (by omega) (by omega) (fun c70 => ?_) (fun c70 => ?_)
        · refine jm_Ev.bl 1 (pc' := 78) (A' := [jR 43, jR 5, jI i, jI s, jI (q.length : Int), jI bf, jI (s + n), jI kk, z2]) (st' := [jI 0]) (hp' := h) rfl ?_
          have dt : decide (jpw q n ≠ bf) = false := decide_eq_false (fun z => z c70)
          refine jm_Ev.bl 3 (pc' := 83) (A' := [jR 43, jR 5, jI i, jI s, jI (q.length : Int), jI bf, jI (s + n), jI kk, jI 0]) (st' := [jI (s + n), jR 43]) (hp' := h) rfl ?_
          refine jE_callI (vs := [jR 43, jI (s + n)]) (r := []) (nx := 86) (v := jI (jpw q n)) (hp1 := h) rfl ((show h 49 (s + n) = jpw q n from ewayAt) ▸ c_o_wayAt_43 h (s + n) (by omega) (by omega)) ?_
          refine jm_Ev.bl 6 (pc' := 97) (A' := [jR 43, jR 5, jI i, jI s, jI (q.length : Int), jI (jpw q n), jI (s + n), jI kk, jI 0]) (st' := [jI 3, jI kk, jI (s + n), jR 50]) (hp' := h) rfl ?_
          refine jE_callI (vs := [jI kk, jI 3]) (r := [jI (s + n), jR 50]) (nx := 100) (v := jI (jb (jbit kk 3))) (hp1 := h) rfl (c_o_hasKind h kk 3) ?_
          refine jE_ifb_eq rfl (fun c100 => ?_) (fun c100 => ?_)
          · refine jm_Ev.bl 2 (pc' := 110) (A' := [jR 43, jR 5, jI i, jI s, jI (q.length : Int), jI (jpw q n), jI (s + n), jI kk, jI 0]) (st' := [jI 4, jI kk, jI (s + n), jR 50]) (hp' := h) rfl ?_
            refine jE_callI (vs := [jI kk, jI 4]) (r := [jI (s + n), jR 50]) (nx := 113) (v := jI (jb (jbit kk 4))) (hp1 := h) rfl (c_o_hasKind h kk 4) ?_
            refine jE_ifb_eq rfl (fun c113 => ?_) (fun c113 => ?_)
            · refine jm_Ev.bl 1 (pc' := 121) (A' := [jR 43, jR 5, jI i, jI s, jI (q.length : Int), jI (jpw q n), jI (s + n), jI kk, jI 0]) (st' := [jI 1, jI (s + n), jR 50]) (hp' := h) rfl ?_
              refine jE_iast (n := 60) rfl rfl (by omega) ?_
              refine jm_Ev.bl 5 (pc' := 131) (A' := [jR 43, jR 5, jI i, jI s, jI (q.length : Int), jI (jpw q n), jI (s + n), jI kk, jI 0]) (st' := [jI 2, jI kk, jI (s + n), jR 51]) (hp' := (jm_hs h 50 (s + n) 1)) rfl ?_
              refine jE_callI (vs := [jI kk, jI 2]) (r := [jI (s + n), jR 51]) (nx := 134) (v := jI (jb (jbit kk 2))) (hp1 := (jm_hs h 50 (s + n) 1)) rfl (c_o_hasKind (jm_hs h 50 (s + n) 1) kk 2) ?_
              refine jE_ifb_ne rfl (fun c134 => ?_) (fun c134 => ?_)
              · refine jm_Ev.bl 2 (pc' := 156) (A' := [jR 43, jR 5, jI i, jI s, jI (q.length : Int), jI (jpw q n), jI (s + n), jI kk, jI 0]) (st' := [jI 1, jI (s + n), jR 51]) (hp' := (jm_hs h 50 (s + n) 1)) rfl ?_
                refine jE_zast (n := 60) rfl rfl (by omega) (by omega) ?_
                refine jm_Ev.bl 2 (pc' := 28) (A' := [jR 43, jR 5, jI i, jI s, jI (q.length : Int), jI (jpw q n), jI ((s + n) + 1), jI kk, jI 0]) (st' := []) (hp' := (jm_hs (jm_hs h 50 (s + n) 1) 51 (s + n) 1)) rfl ?_
                have el : (1 : Int) = jpl_ (jgk (hp 5 1) (hp 5 2) (hp 6)) q n := by
                  unfold jpl_ jle
                  rw [← t3, ← t4]
                  first | rw [if_pos c100] | rw [if_neg (by rw [c100]; simp), if_pos c113] | rw [if_neg (by rw [c100]; simp), if_neg (by rw [c113]; simp)]
                have em : (1 : Int) = jpm (jgk (hp 5 1) (hp 5 2) (hp 6)) q n := by
                  unfold jpm jmu
                  rw [← hbf, dt, ← t1, ← t2, c134]
                  first | rfl | (rw [c148]; rfl)
                refine ih (n + 1) (jpw q n) _ _ (jm_hs (jm_hs h 50 (s + n) 1) 51 (s + n) 1) (by omega) (by omega) (by rw [if_neg (by omega), show n + 1 - 1 = n by omega]) (jdsc_set_43 hd el em) (jdsc_out_43 ho (by omega) (by omega)) ((hf.set (by decide)).set (by decide)) (by omega) _ (by omega)
              · refine jm_Ev.bl 1 (pc' := 139) (A' := [jR 43, jR 5, jI i, jI s, jI (q.length : Int), jI (jpw q n), jI (s + n), jI kk, jI 0]) (st' := [jI 0, jI (s + n), jR 51]) (hp' := (jm_hs h 50 (s + n) 1)) rfl ?_
                refine jE_if_eq rfl (by omega) (fun _ => ?_) (fun c139 => absurd c139 (by omega))
                refine jm_Ev.bl 1 (pc' := 156) (A' := [jR 43, jR 5, jI i, jI s, jI (q.length : Int), jI (jpw q n), jI (s + n), jI kk, jI 0]) (st' := [jI 0, jI (s + n), jR 51]) (hp' := (jm_hs h 50 (s + n) 1)) rfl ?_
                refine jE_zast (n := 60) rfl rfl (by omega) (by omega) ?_
                refine jm_Ev.bl 2 (pc' := 28) (A' := [jR 43, jR 5, jI i, jI s, jI (q.length : Int), jI (jpw q n), jI ((s + n) + 1), jI kk, jI 0]) (st' := []) (hp' := (jm_hs (jm_hs h 50 (s + n) 1) 51 (s + n) 0)) rfl ?_
                have el : (1 : Int) = jpl_ (jgk (hp 5 1) (hp 5 2) (hp 6)) q n := by
                  unfold jpl_ jle
                  rw [← t3, ← t4]
                  first | rw [if_pos c100] | rw [if_neg (by rw [c100]; simp), if_pos c113] | rw [if_neg (by rw [c100]; simp), if_neg (by rw [c113]; simp)]
                have em : (0 : Int) = jpm (jgk (hp 5 1) (hp 5 2) (hp 6)) q n := by
                  unfold jpm jmu
                  rw [← hbf, dt, ← t1, ← t2, c134]
                  first | rfl | (rw [c148]; rfl)
                refine ih (n + 1) (jpw q n) _ _ (jm_hs (jm_hs h 50 (s + n) 1) 51 (s + n) 0) (by omega) (by omega) (by rw [if_neg (by omega), show n + 1 - 1 = n by omega]) (jdsc_set_43 hd el em) (jdsc_out_43 ho (by omega) (by omega)) ((hf.set (by decide)).set (by decide)) (by omega) _ (by omega)
            · refine jm_Ev.bl 2 (pc' := 121) (A' := [jR 43, jR 5, jI i, jI s, jI (q.length : Int), jI (jpw q n), jI (s + n), jI kk, jI 0]) (st' := [jI 2, jI (s + n), jR 50]) (hp' := h) rfl ?_
              refine jE_iast (n := 60) rfl rfl (by omega) ?_
              refine jm_Ev.bl 5 (pc' := 131) (A' := [jR 43, jR 5, jI i, jI s, jI (q.length : Int), jI (jpw q n), jI (s + n), jI kk, jI 0]) (st' := [jI 2, jI kk, jI (s + n), jR 51]) (hp' := (jm_hs h 50 (s + n) 2)) rfl ?_
              refine jE_callI (vs := [jI kk, jI 2]) (r := [jI (s + n), jR 51]) (nx := 134) (v := jI (jb (jbit kk 2))) (hp1 := (jm_hs h 50 (s + n) 2)) rfl (c_o_hasKind (jm_hs h 50 (s + n) 2) kk 2) ?_
              refine jE_ifb_ne rfl (fun c134 => ?_) (fun c134 => ?_)
              · refine jm_Ev.bl 2 (pc' := 156) (A' := [jR 43, jR 5, jI i, jI s, jI (q.length : Int), jI (jpw q n), jI (s + n), jI kk, jI 0]) (st' := [jI 1, jI (s + n), jR 51]) (hp' := (jm_hs h 50 (s + n) 2)) rfl ?_
                refine jE_zast (n := 60) rfl rfl (by omega) (by omega) ?_
                refine jm_Ev.bl 2 (pc' := 28) (A' := [jR 43, jR 5, jI i, jI s, jI (q.length : Int), jI (jpw q n), jI ((s + n) + 1), jI kk, jI 0]) (st' := []) (hp' := (jm_hs (jm_hs h 50 (s + n) 2) 51 (s + n) 1)) rfl ?_
                have el : (2 : Int) = jpl_ (jgk (hp 5 1) (hp 5 2) (hp 6)) q n := by
                  unfold jpl_ jle
                  rw [← t3, ← t4]
                  first | rw [if_pos c100] | rw [if_neg (by rw [c100]; simp), if_pos c113] | rw [if_neg (by rw [c100]; simp), if_neg (by rw [c113]; simp)]
                have em : (1 : Int) = jpm (jgk (hp 5 1) (hp 5 2) (hp 6)) q n := by
                  unfold jpm jmu
                  rw [← hbf, dt, ← t1, ← t2, c134]
                  first | rfl | (rw [c148]; rfl)
                refine ih (n + 1) (jpw q n) _ _ (jm_hs (jm_hs h 50 (s + n) 2) 51 (s + n) 1) (by omega) (by omega) (by rw [if_neg (by omega), show n + 1 - 1 = n by omega]) (jdsc_set_43 hd el em) (jdsc_out_43 ho (by omega) (by omega)) ((hf.set (by decide)).set (by decide)) (by omega) _ (by omega)
              · refine jm_Ev.bl 1 (pc' := 139) (A' := [jR 43, jR 5, jI i, jI s, jI (q.length : Int), jI (jpw q n), jI (s + n), jI kk, jI 0]) (st' := [jI 0, jI (s + n), jR 51]) (hp' := (jm_hs h 50 (s + n) 2)) rfl ?_
                refine jE_if_eq rfl (by omega) (fun _ => ?_) (fun c139 => absurd c139 (by omega))
                refine jm_Ev.bl 1 (pc' := 156) (A' := [jR 43, jR 5, jI i, jI s, jI (q.length : Int), jI (jpw q n), jI (s + n), jI kk, jI 0]) (st' := [jI 0, jI (s + n), jR 51]) (hp' := (jm_hs h 50 (s + n) 2)) rfl ?_
                refine jE_zast (n := 60) rfl rfl (by omega) (by omega) ?_
                refine jm_Ev.bl 2 (pc' := 28) (A' := [jR 43, jR 5, jI i, jI s, jI (q.length : Int), jI (jpw q n), jI ((s + n) + 1), jI kk, jI 0]) (st' := []) (hp' := (jm_hs (jm_hs h 50 (s + n) 2) 51 (s + n) 0)) rfl ?_
                have el : (2 : Int) = jpl_ (jgk (hp 5 1) (hp 5 2) (hp 6)) q n := by
                  unfold jpl_ jle
                  rw [← t3, ← t4]
                  first | rw [if_pos c100] | rw [if_neg (by rw [c100]; simp), if_pos c113] | rw [if_neg (by rw [c100]; simp), if_neg (by rw [c113]; simp)]
                have em : (0 : Int) = jpm (jgk (hp 5 1) (hp 5 2) (hp 6)) q n := by
                  unfold jpm jmu
                  rw [← hbf, dt, ← t1, ← t2, c134]
                  first | rfl | (rw [c148]; rfl)
                refine ih (n + 1) (jpw q n) _ _ (jm_hs (jm_hs h 50 (s + n) 2) 51 (s + n) 0) (by omega) (by omega) (by rw [if_neg (by omega), show n + 1 - 1 = n by omega]) (jdsc_set_43 hd el em) (jdsc_out_43 ho (by omega) (by omega)) ((hf.set (by decide)).set (by decide)) (by omega) _ (by omega)
          · refine jm_Ev.bl 2 (pc' := 121) (A' := [jR 43, jR 5, jI i, jI s, jI (q.length : Int), jI (jpw q n), jI (s + n), jI kk, jI 0]) (st' := [jI 0, jI (s + n), jR 50]) (hp' := h) rfl ?_
            refine jE_iast (n := 60) rfl rfl (by omega) ?_
            refine jm_Ev.bl 5 (pc' := 131) (A' := [jR 43, jR 5, jI i, jI s, jI (q.length : Int), jI (jpw q n), jI (s + n), jI kk, jI 0]) (st' := [jI 2, jI kk, jI (s + n), jR 51]) (hp' := (jm_hs h 50 (s + n) 0)) rfl ?_
            refine jE_callI (vs := [jI kk, jI 2]) (r := [jI (s + n), jR 51]) (nx := 134) (v := jI (jb (jbit kk 2))) (hp1 := (jm_hs h 50 (s + n) 0)) rfl (c_o_hasKind (jm_hs h 50 (s + n) 0) kk 2) ?_
            refine jE_ifb_ne rfl (fun c134 => ?_) (fun c134 => ?_)
            · refine jm_Ev.bl 2 (pc' := 156) (A' := [jR 43, jR 5, jI i, jI s, jI (q.length : Int), jI (jpw q n), jI (s + n), jI kk, jI 0]) (st' := [jI 1, jI (s + n), jR 51]) (hp' := (jm_hs h 50 (s + n) 0)) rfl ?_
              refine jE_zast (n := 60) rfl rfl (by omega) (by omega) ?_
              refine jm_Ev.bl 2 (pc' := 28) (A' := [jR 43, jR 5, jI i, jI s, jI (q.length : Int), jI (jpw q n), jI ((s + n) + 1), jI kk, jI 0]) (st' := []) (hp' := (jm_hs (jm_hs h 50 (s + n) 0) 51 (s + n) 1)) rfl ?_
              have el : (0 : Int) = jpl_ (jgk (hp 5 1) (hp 5 2) (hp 6)) q n := by
                unfold jpl_ jle
                rw [← t3, ← t4]
                first | rw [if_pos c100] | rw [if_neg (by rw [c100]; simp), if_pos c113] | rw [if_neg (by rw [c100]; simp), if_neg (by rw [c113]; simp)]
              have em : (1 : Int) = jpm (jgk (hp 5 1) (hp 5 2) (hp 6)) q n := by
                unfold jpm jmu
                rw [← hbf, dt, ← t1, ← t2, c134]
                first | rfl | (rw [c148]; rfl)
              refine ih (n + 1) (jpw q n) _ _ (jm_hs (jm_hs h 50 (s + n) 0) 51 (s + n) 1) (by omega) (by omega) (by rw [if_neg (by omega), show n + 1 - 1 = n by omega]) (jdsc_set_43 hd el em) (jdsc_out_43 ho (by omega) (by omega)) ((hf.set (by decide)).set (by decide)) (by omega) _ (by omega)
            · refine jm_Ev.bl 1 (pc' := 139) (A' := [jR 43, jR 5, jI i, jI s, jI (q.length : Int), jI (jpw q n), jI (s + n), jI kk, jI 0]) (st' := [jI 0, jI (s + n), jR 51]) (hp' := (jm_hs h 50 (s + n) 0)) rfl ?_
              refine jE_if_eq rfl (by omega) (fun _ => ?_) (fun c139 => absurd c139 (by omega))
              refine jm_Ev.bl 1 (pc' := 156) (A' := [jR 43, jR 5, jI i, jI s, jI (q.length : Int), jI (jpw q n), jI (s + n), jI kk, jI 0]) (st' := [jI 0, jI (s + n), jR 51]) (hp' := (jm_hs h 50 (s + n) 0)) rfl ?_
              refine jE_zast (n := 60) rfl rfl (by omega) (by omega) ?_
              refine jm_Ev.bl 2 (pc' := 28) (A' := [jR 43, jR 5, jI i, jI s, jI (q.length : Int), jI (jpw q n), jI ((s + n) + 1), jI kk, jI 0]) (st' := []) (hp' := (jm_hs (jm_hs h 50 (s + n) 0) 51 (s + n) 0)) rfl ?_
              have el : (0 : Int) = jpl_ (jgk (hp 5 1) (hp 5 2) (hp 6)) q n := by
                unfold jpl_ jle
                rw [← t3, ← t4]
                first | rw [if_pos c100] | rw [if_neg (by rw [c100]; simp), if_pos c113] | rw [if_neg (by rw [c100]; simp), if_neg (by rw [c113]; simp)]
              have em : (0 : Int) = jpm (jgk (hp 5 1) (hp 5 2) (hp 6)) q n := by
                unfold jpm jmu
                rw [← hbf, dt, ← t1, ← t2, c134]
                first | rfl | (rw [c148]; rfl)
              refine ih (n + 1) (jpw q n) _ _ (jm_hs (jm_hs h 50 (s + n) 0) 51 (s + n) 0) (by omega) (by omega) (by rw [if_neg (by omega), show n + 1 - 1 = n by omega]) (jdsc_set_43 hd el em) (jdsc_out_43 ho (by omega) (by omega)) ((hf.set (by decide)).set (by decide)) (by omega) _ (by omega)
        · refine jm_Ev.bl 2 (pc' := 78) (A' := [jR 43, jR 5, jI i, jI s, jI (q.length : Int), jI bf, jI (s + n), jI kk, z2]) (st' := [jI 1]) (hp' := h) rfl ?_
          have dt : decide (jpw q n ≠ bf) = true := decide_eq_true c70
          refine jm_Ev.bl 3 (pc' := 83) (A' := [jR 43, jR 5, jI i, jI s, jI (q.length : Int), jI bf, jI (s + n), jI kk, jI 1]) (st' := [jI (s + n), jR 43]) (hp' := h) rfl ?_
          refine jE_callI (vs := [jR 43, jI (s + n)]) (r := []) (nx := 86) (v := jI (jpw q n)) (hp1 := h) rfl ((show h 49 (s + n) = jpw q n from ewayAt) ▸ c_o_wayAt_43 h (s + n) (by omega) (by omega)) ?_
          refine jm_Ev.bl 6 (pc' := 97) (A' := [jR 43, jR 5, jI i, jI s, jI (q.length : Int), jI (jpw q n), jI (s + n), jI kk, jI 1]) (st' := [jI 3, jI kk, jI (s + n), jR 50]) (hp' := h) rfl ?_
          refine jE_callI (vs := [jI kk, jI 3]) (r := [jI (s + n), jR 50]) (nx := 100) (v := jI (jb (jbit kk 3))) (hp1 := h) rfl (c_o_hasKind h kk 3) ?_
          refine jE_ifb_eq rfl (fun c100 => ?_) (fun c100 => ?_)
          · refine jm_Ev.bl 2 (pc' := 110) (A' := [jR 43, jR 5, jI i, jI s, jI (q.length : Int), jI (jpw q n), jI (s + n), jI kk, jI 1]) (st' := [jI 4, jI kk, jI (s + n), jR 50]) (hp' := h) rfl ?_
            refine jE_callI (vs := [jI kk, jI 4]) (r := [jI (s + n), jR 50]) (nx := 113) (v := jI (jb (jbit kk 4))) (hp1 := h) rfl (c_o_hasKind h kk 4) ?_
            refine jE_ifb_eq rfl (fun c113 => ?_) (fun c113 => ?_)
            · refine jm_Ev.bl 1 (pc' := 121) (A' := [jR 43, jR 5, jI i, jI s, jI (q.length : Int), jI (jpw q n), jI (s + n), jI kk, jI 1]) (st' := [jI 1, jI (s + n), jR 50]) (hp' := h) rfl ?_
              refine jE_iast (n := 60) rfl rfl (by omega) ?_
              refine jm_Ev.bl 5 (pc' := 131) (A' := [jR 43, jR 5, jI i, jI s, jI (q.length : Int), jI (jpw q n), jI (s + n), jI kk, jI 1]) (st' := [jI 2, jI kk, jI (s + n), jR 51]) (hp' := (jm_hs h 50 (s + n) 1)) rfl ?_
              refine jE_callI (vs := [jI kk, jI 2]) (r := [jI (s + n), jR 51]) (nx := 134) (v := jI (jb (jbit kk 2))) (hp1 := (jm_hs h 50 (s + n) 1)) rfl (c_o_hasKind (jm_hs h 50 (s + n) 1) kk 2) ?_
              refine jE_ifb_ne rfl (fun c134 => ?_) (fun c134 => ?_)
              · refine jm_Ev.bl 2 (pc' := 156) (A' := [jR 43, jR 5, jI i, jI s, jI (q.length : Int), jI (jpw q n), jI (s + n), jI kk, jI 1]) (st' := [jI 1, jI (s + n), jR 51]) (hp' := (jm_hs h 50 (s + n) 1)) rfl ?_
                refine jE_zast (n := 60) rfl rfl (by omega) (by omega) ?_
                refine jm_Ev.bl 2 (pc' := 28) (A' := [jR 43, jR 5, jI i, jI s, jI (q.length : Int), jI (jpw q n), jI ((s + n) + 1), jI kk, jI 1]) (st' := []) (hp' := (jm_hs (jm_hs h 50 (s + n) 1) 51 (s + n) 1)) rfl ?_
                have el : (1 : Int) = jpl_ (jgk (hp 5 1) (hp 5 2) (hp 6)) q n := by
                  unfold jpl_ jle
                  rw [← t3, ← t4]
                  first | rw [if_pos c100] | rw [if_neg (by rw [c100]; simp), if_pos c113] | rw [if_neg (by rw [c100]; simp), if_neg (by rw [c113]; simp)]
                have em : (1 : Int) = jpm (jgk (hp 5 1) (hp 5 2) (hp 6)) q n := by
                  unfold jpm jmu
                  rw [← hbf, dt, ← t1, ← t2, c134]
                  first | rfl | (rw [c148]; rfl)
                refine ih (n + 1) (jpw q n) _ _ (jm_hs (jm_hs h 50 (s + n) 1) 51 (s + n) 1) (by omega) (by omega) (by rw [if_neg (by omega), show n + 1 - 1 = n by omega]) (jdsc_set_43 hd el em) (jdsc_out_43 ho (by omega) (by omega)) ((hf.set (by decide)).set (by decide)) (by omega) _ (by omega)
              · refine jm_Ev.bl 1 (pc' := 139) (A' := [jR 43, jR 5, jI i, jI s, jI (q.length : Int), jI (jpw q n), jI (s + n), jI kk, jI 1]) (st' := [jI 1, jI (s + n), jR 51]) (hp' := (jm_hs h 50 (s + n) 1)) rfl ?_
                refine jE_if_eq rfl (by omega) (fun c139 => absurd c139 (by omega)) (fun _ => ?_)
                refine jm_Ev.bl 2 (pc' := 145) (A' := [jR 43, jR 5, jI i, jI s, jI (q.length : Int), jI (jpw q n), jI (s + n), jI kk, jI 1]) (st' := [jI 1, jI kk, jI (s + n), jR 51]) (hp' := (jm_hs h 50 (s + n) 1)) rfl ?_
                refine jE_callI (vs := [jI kk, jI 1]) (r := [jI (s + n), jR 51]) (nx := 148) (v := jI (jb (jbit kk 1))) (hp1 := (jm_hs h 50 (s + n) 1)) rfl (c_o_hasKind (jm_hs h 50 (s + n) 1) kk 1) ?_
                refine jE_ifb_eq rfl (fun c148 => ?_) (fun c148 => ?_)
                · refine jm_Ev.bl 1 (pc' := 156) (A' := [jR 43, jR 5, jI i, jI s, jI (q.length : Int), jI (jpw q n), jI (s + n), jI kk, jI 1]) (st' := [jI 0, jI (s + n), jR 51]) (hp' := (jm_hs h 50 (s + n) 1)) rfl ?_
                  refine jE_zast (n := 60) rfl rfl (by omega) (by omega) ?_
                  refine jm_Ev.bl 2 (pc' := 28) (A' := [jR 43, jR 5, jI i, jI s, jI (q.length : Int), jI (jpw q n), jI ((s + n) + 1), jI kk, jI 1]) (st' := []) (hp' := (jm_hs (jm_hs h 50 (s + n) 1) 51 (s + n) 0)) rfl ?_
                  have el : (1 : Int) = jpl_ (jgk (hp 5 1) (hp 5 2) (hp 6)) q n := by
                    unfold jpl_ jle
                    rw [← t3, ← t4]
                    first | rw [if_pos c100] | rw [if_neg (by rw [c100]; simp), if_pos c113] | rw [if_neg (by rw [c100]; simp), if_neg (by rw [c113]; simp)]
                  have em : (0 : Int) = jpm (jgk (hp 5 1) (hp 5 2) (hp 6)) q n := by
                    unfold jpm jmu
                    rw [← hbf, dt, ← t1, ← t2, c134]
                    first | rfl | (rw [c148]; rfl)
                  refine ih (n + 1) (jpw q n) _ _ (jm_hs (jm_hs h 50 (s + n) 1) 51 (s + n) 0) (by omega) (by omega) (by rw [if_neg (by omega), show n + 1 - 1 = n by omega]) (jdsc_set_43 hd el em) (jdsc_out_43 ho (by omega) (by omega)) ((hf.set (by decide)).set (by decide)) (by omega) _ (by omega)
                · refine jm_Ev.bl 2 (pc' := 156) (A' := [jR 43, jR 5, jI i, jI s, jI (q.length : Int), jI (jpw q n), jI (s + n), jI kk, jI 1]) (st' := [jI 1, jI (s + n), jR 51]) (hp' := (jm_hs h 50 (s + n) 1)) rfl ?_
                  refine jE_zast (n := 60) rfl rfl (by omega) (by omega) ?_
                  refine jm_Ev.bl 2 (pc' := 28) (A' := [jR 43, jR 5, jI i, jI s, jI (q.length : Int), jI (jpw q n), jI ((s + n) + 1), jI kk, jI 1]) (st' := []) (hp' := (jm_hs (jm_hs h 50 (s + n) 1) 51 (s + n) 1)) rfl ?_
                  have el : (1 : Int) = jpl_ (jgk (hp 5 1) (hp 5 2) (hp 6)) q n := by
                    unfold jpl_ jle
                    rw [← t3, ← t4]
                    first | rw [if_pos c100] | rw [if_neg (by rw [c100]; simp), if_pos c113] | rw [if_neg (by rw [c100]; simp), if_neg (by rw [c113]; simp)]
                  have em : (1 : Int) = jpm (jgk (hp 5 1) (hp 5 2) (hp 6)) q n := by
                    unfold jpm jmu
                    rw [← hbf, dt, ← t1, ← t2, c134]
                    first | rfl | (rw [c148]; rfl)
                  refine ih (n + 1) (jpw q n) _ _ (jm_hs (jm_hs h 50 (s + n) 1) 51 (s + n) 1) (by omega) (by omega) (by rw [if_neg (by omega), show n + 1 - 1 = n by omega]) (jdsc_set_43 hd el em) (jdsc_out_43 ho (by omega) (by omega)) ((hf.set (by decide)).set (by decide)) (by omega) _ (by omega)
            · refine jm_Ev.bl 2 (pc' := 121) (A' := [jR 43, jR 5, jI i, jI s, jI (q.length : Int), jI (jpw q n), jI (s + n), jI kk, jI 1]) (st' := [jI 2, jI (s + n), jR 50]) (hp' := h) rfl ?_
              refine jE_iast (n := 60) rfl rfl (by omega) ?_
              refine jm_Ev.bl 5 (pc' := 131) (A' := [jR 43, jR 5, jI i, jI s, jI (q.length : Int), jI (jpw q n), jI (s + n), jI kk, jI 1]) (st' := [jI 2, jI kk, jI (s + n), jR 51]) (hp' := (jm_hs h 50 (s + n) 2)) rfl ?_
              refine jE_callI (vs := [jI kk, jI 2]) (r := [jI (s + n), jR 51]) (nx := 134) (v := jI (jb (jbit kk 2))) (hp1 := (jm_hs h 50 (s + n) 2)) rfl (c_o_hasKind (jm_hs h 50 (s + n) 2) kk 2) ?_
              refine jE_ifb_ne rfl (fun c134 => ?_) (fun c134 => ?_)
              · refine jm_Ev.bl 2 (pc' := 156) (A' := [jR 43, jR 5, jI i, jI s, jI (q.length : Int), jI (jpw q n), jI (s + n), jI kk, jI 1]) (st' := [jI 1, jI (s + n), jR 51]) (hp' := (jm_hs h 50 (s + n) 2)) rfl ?_
                refine jE_zast (n := 60) rfl rfl (by omega) (by omega) ?_
                refine jm_Ev.bl 2 (pc' := 28) (A' := [jR 43, jR 5, jI i, jI s, jI (q.length : Int), jI (jpw q n), jI ((s + n) + 1), jI kk, jI 1]) (st' := []) (hp' := (jm_hs (jm_hs h 50 (s + n) 2) 51 (s + n) 1)) rfl ?_
                have el : (2 : Int) = jpl_ (jgk (hp 5 1) (hp 5 2) (hp 6)) q n := by
                  unfold jpl_ jle
                  rw [← t3, ← t4]
                  first | rw [if_pos c100] | rw [if_neg (by rw [c100]; simp), if_pos c113] | rw [if_neg (by rw [c100]; simp), if_neg (by rw [c113]; simp)]
                have em : (1 : Int) = jpm (jgk (hp 5 1) (hp 5 2) (hp 6)) q n := by
                  unfold jpm jmu
                  rw [← hbf, dt, ← t1, ← t2, c134]
                  first | rfl | (rw [c148]; rfl)
                refine ih (n + 1) (jpw q n) _ _ (jm_hs (jm_hs h 50 (s + n) 2) 51 (s + n) 1) (by omega) (by omega) (by rw [if_neg (by omega), show n + 1 - 1 = n by omega]) (jdsc_set_43 hd el em) (jdsc_out_43 ho (by omega) (by omega)) ((hf.set (by decide)).set (by decide)) (by omega) _ (by omega)
              · refine jm_Ev.bl 1 (pc' := 139) (A' := [jR 43, jR 5, jI i, jI s, jI (q.length : Int), jI (jpw q n), jI (s + n), jI kk, jI 1]) (st' := [jI 1, jI (s + n), jR 51]) (hp' := (jm_hs h 50 (s + n) 2)) rfl ?_
                refine jE_if_eq rfl (by omega) (fun c139 => absurd c139 (by omega)) (fun _ => ?_)
                refine jm_Ev.bl 2 (pc' := 145) (A' := [jR 43, jR 5, jI i, jI s, jI (q.length : Int), jI (jpw q n), jI (s + n), jI kk, jI 1]) (st' := [jI 1, jI kk, jI (s + n), jR 51]) (hp' := (jm_hs h 50 (s + n) 2)) rfl ?_
                refine jE_callI (vs := [jI kk, jI 1]) (r := [jI (s + n), jR 51]) (nx := 148) (v := jI (jb (jbit kk 1))) (hp1 := (jm_hs h 50 (s + n) 2)) rfl (c_o_hasKind (jm_hs h 50 (s + n) 2) kk 1) ?_
                refine jE_ifb_eq rfl (fun c148 => ?_) (fun c148 => ?_)
                · refine jm_Ev.bl 1 (pc' := 156) (A' := [jR 43, jR 5, jI i, jI s, jI (q.length : Int), jI (jpw q n), jI (s + n), jI kk, jI 1]) (st' := [jI 0, jI (s + n), jR 51]) (hp' := (jm_hs h 50 (s + n) 2)) rfl ?_
                  refine jE_zast (n := 60) rfl rfl (by omega) (by omega) ?_
                  refine jm_Ev.bl 2 (pc' := 28) (A' := [jR 43, jR 5, jI i, jI s, jI (q.length : Int), jI (jpw q n), jI ((s + n) + 1), jI kk, jI 1]) (st' := []) (hp' := (jm_hs (jm_hs h 50 (s + n) 2) 51 (s + n) 0)) rfl ?_
                  have el : (2 : Int) = jpl_ (jgk (hp 5 1) (hp 5 2) (hp 6)) q n := by
                    unfold jpl_ jle
                    rw [← t3, ← t4]
                    first | rw [if_pos c100] | rw [if_neg (by rw [c100]; simp), if_pos c113] | rw [if_neg (by rw [c100]; simp), if_neg (by rw [c113]; simp)]
                  have em : (0 : Int) = jpm (jgk (hp 5 1) (hp 5 2) (hp 6)) q n := by
                    unfold jpm jmu
                    rw [← hbf, dt, ← t1, ← t2, c134]
                    first | rfl | (rw [c148]; rfl)
                  refine ih (n + 1) (jpw q n) _ _ (jm_hs (jm_hs h 50 (s + n) 2) 51 (s + n) 0) (by omega) (by omega) (by rw [if_neg (by omega), show n + 1 - 1 = n by omega]) (jdsc_set_43 hd el em) (jdsc_out_43 ho (by omega) (by omega)) ((hf.set (by decide)).set (by decide)) (by omega) _ (by omega)
                · refine jm_Ev.bl 2 (pc' := 156) (A' := [jR 43, jR 5, jI i, jI s, jI (q.length : Int), jI (jpw q n), jI (s + n), jI kk, jI 1]) (st' := [jI 1, jI (s + n), jR 51]) (hp' := (jm_hs h 50 (s + n) 2)) rfl ?_
                  refine jE_zast (n := 60) rfl rfl (by omega) (by omega) ?_
                  refine jm_Ev.bl 2 (pc' := 28) (A' := [jR 43, jR 5, jI i, jI s, jI (q.length : Int), jI (jpw q n), jI ((s + n) + 1), jI kk, jI 1]) (st' := []) (hp' := (jm_hs (jm_hs h 50 (s + n) 2) 51 (s + n) 1)) rfl ?_
                  have el : (2 : Int) = jpl_ (jgk (hp 5 1) (hp 5 2) (hp 6)) q n := by
                    unfold jpl_ jle
                    rw [← t3, ← t4]
                    first | rw [if_pos c100] | rw [if_neg (by rw [c100]; simp), if_pos c113] | rw [if_neg (by rw [c100]; simp), if_neg (by rw [c113]; simp)]
                  have em : (1 : Int) = jpm (jgk (hp 5 1) (hp 5 2) (hp 6)) q n := by
                    unfold jpm jmu
                    rw [← hbf, dt, ← t1, ← t2, c134]
                    first | rfl | (rw [c148]; rfl)
                  refine ih (n + 1) (jpw q n) _ _ (jm_hs (jm_hs h 50 (s + n) 2) 51 (s + n) 1) (by omega) (by omega) (by rw [if_neg (by omega), show n + 1 - 1 = n by omega]) (jdsc_set_43 hd el em) (jdsc_out_43 ho (by omega) (by omega)) ((hf.set (by decide)).set (by decide)) (by omega) _ (by omega)
          · refine jm_Ev.bl 2 (pc' := 121) (A' := [jR 43, jR 5, jI i, jI s, jI (q.length : Int), jI (jpw q n), jI (s + n), jI kk, jI 1]) (st' := [jI 0, jI (s + n), jR 50]) (hp' := h) rfl ?_
            refine jE_iast (n := 60) rfl rfl (by omega) ?_
            refine jm_Ev.bl 5 (pc' := 131) (A' := [jR 43, jR 5, jI i, jI s, jI (q.length : Int), jI (jpw q n), jI (s + n), jI kk, jI 1]) (st' := [jI 2, jI kk, jI (s + n), jR 51]) (hp' := (jm_hs h 50 (s + n) 0)) rfl ?_
            refine jE_callI (vs := [jI kk, jI 2]) (r := [jI (s + n), jR 51]) (nx := 134) (v := jI (jb (jbit kk 2))) (hp1 := (jm_hs h 50 (s + n) 0)) rfl (c_o_hasKind (jm_hs h 50 (s + n) 0) kk 2) ?_
            refine jE_ifb_ne rfl (fun c134 => ?_) (fun c134 => ?_)
            · refine jm_Ev.bl 2 (pc' := 156) (A' := [jR 43, jR 5, jI i, jI s, jI (q.length : Int), jI (jpw q n), jI (s + n), jI kk, jI 1]) (st' := [jI 1, jI (s + n), jR 51]) (hp' := (jm_hs h 50 (s + n) 0)) rfl ?_
              refine jE_zast (n := 60) rfl rfl (by omega) (by omega) ?_
              refine jm_Ev.bl 2 (pc' := 28) (A' := [jR 43, jR 5, jI i, jI s, jI (q.length : Int), jI (jpw q n), jI ((s + n) + 1), jI kk, jI 1]) (st' := []) (hp' := (jm_hs (jm_hs h 50 (s + n) 0) 51 (s + n) 1)) rfl ?_
              have el : (0 : Int) = jpl_ (jgk (hp 5 1) (hp 5 2) (hp 6)) q n := by
                unfold jpl_ jle
                rw [← t3, ← t4]
                first | rw [if_pos c100] | rw [if_neg (by rw [c100]; simp), if_pos c113] | rw [if_neg (by rw [c100]; simp), if_neg (by rw [c113]; simp)]
              have em : (1 : Int) = jpm (jgk (hp 5 1) (hp 5 2) (hp 6)) q n := by
                unfold jpm jmu
                rw [← hbf, dt, ← t1, ← t2, c134]
                first | rfl | (rw [c148]; rfl)
              refine ih (n + 1) (jpw q n) _ _ (jm_hs (jm_hs h 50 (s + n) 0) 51 (s + n) 1) (by omega) (by omega) (by rw [if_neg (by omega), show n + 1 - 1 = n by omega]) (jdsc_set_43 hd el em) (jdsc_out_43 ho (by omega) (by omega)) ((hf.set (by decide)).set (by decide)) (by omega) _ (by omega)
            · refine jm_Ev.bl 1 (pc' := 139) (A' := [jR 43, jR 5, jI i, jI s, jI (q.length : Int), jI (jpw q n), jI (s + n), jI kk, jI 1]) (st' := [jI 1, jI (s + n), jR 51]) (hp' := (jm_hs h 50 (s + n) 0)) rfl ?_
              refine jE_if_eq rfl (by omega) (fun c139 => absurd c139 (by omega)) (fun _ => ?_)
              refine jm_Ev.bl 2 (pc' := 145) (A' := [jR 43, jR 5, jI i, jI s, jI (q.length : Int), jI (jpw q n), jI (s + n), jI kk, jI 1]) (st' := [jI 1, jI kk, jI (s + n), jR 51]) (hp' := (jm_hs h 50 (s + n) 0)) rfl ?_
              refine jE_callI (vs := [jI kk, jI 1]) (r := [jI (s + n), jR 51]) (nx := 148) (v := jI (jb (jbit kk 1))) (hp1 := (jm_hs h 50 (s + n) 0)) rfl (c_o_hasKind (jm_hs h 50 (s + n) 0) kk 1) ?_
              refine jE_ifb_eq rfl (fun c148 => ?_) (fun c148 => ?_)
              · refine jm_Ev.bl 1 (pc' := 156) (A' := [jR 43, jR 5, jI i, jI s, jI (q.length : Int), jI (jpw q n), jI (s + n), jI kk, jI 1]) (st' := [jI 0, jI (s + n), jR 51]) (hp' := (jm_hs h 50 (s + n) 0)) rfl ?_
                refine jE_zast (n := 60) rfl rfl (by omega) (by omega) ?_
                refine jm_Ev.bl 2 (pc' := 28) (A' := [jR 43, jR 5, jI i, jI s, jI (q.length : Int), jI (jpw q n), jI ((s + n) + 1), jI kk, jI 1]) (st' := []) (hp' := (jm_hs (jm_hs h 50 (s + n) 0) 51 (s + n) 0)) rfl ?_
                have el : (0 : Int) = jpl_ (jgk (hp 5 1) (hp 5 2) (hp 6)) q n := by
                  unfold jpl_ jle
                  rw [← t3, ← t4]
                  first | rw [if_pos c100] | rw [if_neg (by rw [c100]; simp), if_pos c113] | rw [if_neg (by rw [c100]; simp), if_neg (by rw [c113]; simp)]
                have em : (0 : Int) = jpm (jgk (hp 5 1) (hp 5 2) (hp 6)) q n := by
                  unfold jpm jmu
                  rw [← hbf, dt, ← t1, ← t2, c134]
                  first | rfl | (rw [c148]; rfl)
                refine ih (n + 1) (jpw q n) _ _ (jm_hs (jm_hs h 50 (s + n) 0) 51 (s + n) 0) (by omega) (by omega) (by rw [if_neg (by omega), show n + 1 - 1 = n by omega]) (jdsc_set_43 hd el em) (jdsc_out_43 ho (by omega) (by omega)) ((hf.set (by decide)).set (by decide)) (by omega) _ (by omega)
              · refine jm_Ev.bl 2 (pc' := 156) (A' := [jR 43, jR 5, jI i, jI s, jI (q.length : Int), jI (jpw q n), jI (s + n), jI kk, jI 1]) (st' := [jI 1, jI (s + n), jR 51]) (hp' := (jm_hs h 50 (s + n) 0)) rfl ?_
                refine jE_zast (n := 60) rfl rfl (by omega) (by omega) ?_
                refine jm_Ev.bl 2 (pc' := 28) (A' := [jR 43, jR 5, jI i, jI s, jI (q.length : Int), jI (jpw q n), jI ((s + n) + 1), jI kk, jI 1]) (st' := []) (hp' := (jm_hs (jm_hs h 50 (s + n) 0) 51 (s + n) 1)) rfl ?_
                have el : (0 : Int) = jpl_ (jgk (hp 5 1) (hp 5 2) (hp 6)) q n := by
                  unfold jpl_ jle
                  rw [← t3, ← t4]
                  first | rw [if_pos c100] | rw [if_neg (by rw [c100]; simp), if_pos c113] | rw [if_neg (by rw [c100]; simp), if_neg (by rw [c113]; simp)]
                have em : (1 : Int) = jpm (jgk (hp 5 1) (hp 5 2) (hp 6)) q n := by
                  unfold jpm jmu
                  rw [← hbf, dt, ← t1, ← t2, c134]
                  first | rfl | (rw [c148]; rfl)
                refine ih (n + 1) (jpw q n) _ _ (jm_hs (jm_hs h 50 (s + n) 0) 51 (s + n) 1) (by omega) (by omega) (by rw [if_neg (by omega), show n + 1 - 1 = n by omega]) (jdsc_set_43 hd el em) (jdsc_out_43 ho (by omega) (by omega)) ((hf.set (by decide)).set (by decide)) (by omega) _ (by omega)
theorem c_o_desc_43 (hp : jm_H) (hG : jG hp 5 6) (hc : 0 ≤ hp 43 0 ∧ hp 43 0 ≤ 15) (i : Int) (h0 : 0 ≤ i) (h1 : i < hp 43 0) (s : Int) (q : List jT) (hs0 : 0 ≤ s) (hsN : s + q.length ≤ 60) (hq : ∀ n : Int, 0 ≤ n → n < q.length → hp 47 (s + n) = jpx q n ∧ hp 48 (s + n) = jpy q n ∧ hp 49 (s + n) = jpw q n ∧ 0 ≤ jpx q n ∧ jpx q n ≤ 5 ∧ 0 ≤ jpy q n ∧ jpy q n ≤ 5 ∧ 0 ≤ jpw q n ∧ jpw q n ≤ 3) (hN : 0 < q.length) (es : hp 44 i = s) (eN : hp 45 i = (q.length : Int)) : jm_Ev 55 0 [jR 43, jR 5, jI i, jU, jU, jU, jU, jU, jU] [] hp (jdsc_43 hp (jgk (hp 5 1) (hp 5 2) (hp 6)) s q) := by
  refine jm_Ev.bl 2 (pc' := 2) (A' := [jR 43, jR 5, jI i, jU, jU, jU, jU, jU, jU]) (st' := [jI i, jR 43]) (hp' := hp) rfl ?_
  refine jE_callI (vs := [jR 43, jI i]) (r := []) (nx := 5) (v := jI s) (hp1 := hp) rfl (es ▸ c_o_startOf_43 hp i (by omega) (by omega)) ?_
  refine jm_Ev.bl 3 (pc' := 8) (A' := [jR 43, jR 5, jI i, jI s, jU, jU, jU, jU, jU]) (st' := [jI i, jR 43]) (hp' := hp) rfl ?_
  refine jE_callI (vs := [jR 43, jI i]) (r := []) (nx := 11) (v := jI (q.length : Int)) (hp1 := hp) rfl (eN ▸ c_o_len_43 hp hc i (by omega) (by omega)) ?_
  refine jm_Ev.bl 7 (pc' := 20) (A' := [jR 43, jR 5, jI i, jI s, jI (q.length : Int), jU, jU, jU, jU]) (st' := [jI ((s + (q.length : Int)) - 1), jR 43]) (hp' := hp) rfl ?_
  refine jE_callI (vs := [jR 43, jI ((s + (q.length : Int)) - 1)]) (r := []) (nx := 23) (v := jI (hp 49 (s + (q.length : Int) - 1))) (hp1 := hp) rfl (c_o_wayAt_43 hp _ (by omega) (by omega)) ?_
  refine jm_Ev.bl 3 (pc' := 28) (A' := [jR 43, jR 5, jI i, jI s, jI (q.length : Int), jI (hp 49 (s + (q.length : Int) - 1)), jI s, jU, jU]) (st' := []) (hp' := hp) rfl ?_
  exact c_o_desc_L_43 hp hG i s q hs0 hsN hq 61 0 _ _ _ hp (by omega) (by omega) (by rw [if_pos rfl, ← (hq ((q.length : Int) - 1) (by omega) (by omega)).2.2.1, show s + ((q.length : Int) - 1) = s + (q.length : Int) - 1 by omega]) (fun j a b => by omega) (fun j _ => ⟨rfl, rfl⟩) jFr.rf (by omega) s (by omega)
