/-! Seen -/
def jtab (q : Int) : Int := if q = 0 then 6 else if q = 1 then 4 else if q = 2 then 23 else 16
def jsq (s q b : Int) : Int := (Int32.ofInt s &&& Int32.ofInt (if b = 1 then jtab q else 31 - jtab q)).toInt
def jsorts (pl qu an : Int → Int) (p : Int) : Nat → Int
  | 0 => 31
  | n + 1 => if pl n = p then jsq (jsorts pl qu an p n) (qu n) (an n) else jsorts pl qu an p n
theorem jsorts_s {pl qu an : Int → Int} {p i : Int} (h : 0 ≤ i) : jsorts pl qu an p (i + 1).toNat = if pl i = p then jsq (jsorts pl qu an p i.toNat) (qu i) (an i) else jsorts pl qu an p i.toNat := by
  have e : (i + 1).toNat = i.toNat + 1 := by omega
  have e2 : ((i.toNat : Nat) : Int) = i := by omega
  rw [e]
  show (if pl ((i.toNat : Nat) : Int) = p then jsq (jsorts pl qu an p i.toNat) (qu ((i.toNat : Nat) : Int)) (an ((i.toNat : Nat) : Int)) else jsorts pl qu an p i.toNat) = _
  rw [e2]
theorem jSC81 {q : Int} (h0 : 0 ≤ q) (h1 : q < 4) : jm_SC 81 q = jtab q := by
  have : q = 0 ∨ q = 1 ∨ q = 2 ∨ q = 3 := by omega
  rcases this with rfl | rfl | rfl | rfl <;> rfl
theorem jtab_r (q : Int) : 0 ≤ jtab q ∧ jtab q ≤ 31 := by unfold jtab; split <;> (try split) <;> (try split) <;> omega
theorem jlt32 {s : Int} (h0 : 0 ≤ s) (h1 : s ≤ 31) {P : Int → Prop} (h : ∀ k : Fin 32, P (k.val : Int)) : P s := by
  have := h ⟨s.toNat, by omega⟩
  have e : ((s.toNat : Nat) : Int) = s := by omega
  dsimp only at this
  rwa [e] at this
/-- 31 and what is not in t, against what is not in t at all: of five bits the same -/
theorem jnot_b : ∀ s : Fin 32, ∀ q : Fin 4, (Int32.ofInt (s.val : Int) &&& Int32.ofInt (Int32.ofInt (jtab (q.val : Int)) ^^^ Int32.ofInt (-1)).toInt).toInt = (Int32.ofInt (s.val : Int) &&& Int32.ofInt (31 - jtab (q.val : Int))).toInt := by decide +kernel
theorem jnot {s q : Int} (h0 : 0 ≤ s) (h1 : s ≤ 31) (h2 : 0 ≤ q) (h3 : q < 4) : (Int32.ofInt s &&& Int32.ofInt (Int32.ofInt (jtab q) ^^^ Int32.ofInt (-1)).toInt).toInt = (Int32.ofInt s &&& Int32.ofInt (31 - jtab q)).toInt := by
  refine jlt32 (P := fun s => (Int32.ofInt s &&& Int32.ofInt (Int32.ofInt (jtab q) ^^^ Int32.ofInt (-1)).toInt).toInt = (Int32.ofInt s &&& Int32.ofInt (31 - jtab q)).toInt) h0 h1 (fun k => ?_)
  have : q = 0 ∨ q = 1 ∨ q = 2 ∨ q = 3 := by omega
  rcases this with rfl | rfl | rfl | rfl
  · exact jnot_b k 0
  · exact jnot_b k 1
  · exact jnot_b k 2
  · exact jnot_b k 3
theorem jsq_b : ∀ s : Fin 32, ∀ q : Fin 4, (0 ≤ jsq (s.val : Int) (q.val : Int) 1 ∧ jsq (s.val : Int) (q.val : Int) 1 ≤ 31) ∧ (0 ≤ jsq (s.val : Int) (q.val : Int) 0 ∧ jsq (s.val : Int) (q.val : Int) 0 ≤ 31) := by decide +kernel
theorem jsq_r {s q b : Int} (h0 : 0 ≤ s) (h1 : s ≤ 31) (h2 : 0 ≤ q) (h3 : q < 4) : 0 ≤ jsq s q b ∧ jsq s q b ≤ 31 := by
  refine jlt32 (P := fun s => 0 ≤ jsq s q b ∧ jsq s q b ≤ 31) h0 h1 (fun k => ?_)
  by_cases hb : b = 1
  · subst hb
    have : q = 0 ∨ q = 1 ∨ q = 2 ∨ q = 3 := by omega
    rcases this with rfl | rfl | rfl | rfl
    · exact (jsq_b k 0).1
    · exact (jsq_b k 1).1
    · exact (jsq_b k 2).1
    · exact (jsq_b k 3).1
  · have e : ∀ s q, jsq s q b = jsq s q 0 := fun s q => by unfold jsq; rw [if_neg hb, if_neg (by decide)]
    rw [e]
    have : q = 0 ∨ q = 1 ∨ q = 2 ∨ q = 3 := by omega
    rcases this with rfl | rfl | rfl | rfl
    · exact (jsq_b k 0).2
    · exact (jsq_b k 1).2
    · exact (jsq_b k 2).2
    · exact (jsq_b k 3).2
theorem jsorts_r {pl qu an : Int → Int} {p : Int} (n : Nat) (hq : ∀ j : Int, 0 ≤ j → j < n → 0 ≤ qu j ∧ qu j ≤ 3) : 0 ≤ jsorts pl qu an p n ∧ jsorts pl qu an p n ≤ 31 := by
  induction n with
  | zero => simp [jsorts]
  | succ n ih =>
    have h1 := ih (fun j a b => hq j a (by omega))
    unfold jsorts
    split
    · have := hq n (by omega) (by omega)
      exact jsq_r h1.1 h1.2 (by omega) (by omega)
    · exact h1
/-- a Seen at the place o, its arrays at a, b, c -/
def jSn (hp : jm_H) (o a b c : Nat) : Prop := 0 ≤ hp o 3 ∧ hp o 3 ≤ 6 ∧ (∀ j, 0 ≤ j → j < 6 → jR32 (hp a j)) ∧ (∀ j, 0 ≤ j → j < 6 → 0 ≤ hp b j ∧ hp b j ≤ 3) ∧ (∀ j, 0 ≤ j → j < 6 → hp c j = 0 ∨ hp c j = 1)
theorem c_s_are (hp : jm_H) (q : Int) (h0 : 0 ≤ q) (h1 : q < 4) : jm_Ev 92 0 [jI q] [] hp (jK (some (jI (jtab q))) hp) := by
  refine jm_Ev.bl 1 (pc' := 1) (A' := [jI q]) (st' := [jI q]) (hp' := hp) rfl ?_
  refine jE_if_lt rfl (by omega) (fun c1 => ?_) (fun c1 => ?_)
  · omega
  · refine jm_Ev.bl 2 (pc' := 6) (A' := [jI q]) (st' := [jI 4, jI q]) (hp' := hp) rfl ?_
    refine jE_icmp_ge rfl (by omega) (by omega) (fun c6 => ?_) (fun c6 => ?_)
    · omega
    · refine jm_Ev.bl 2 (pc' := 13) (A' := [jI q]) (st' := [jI q, jR 81]) (hp' := hp) rfl ?_
      refine jE_iald (n := 4) (f := jm_SC 81) rfl rfl (by omega) ?_
      refine jm_Ev.bl 1 (pc' := 19) (A' := [jI q]) (st' := [jI (jm_SC 81 q)]) (hp' := hp) rfl ?_
      exact jE_ret rfl ⟨jrI (jSC81 h0 h1), rfl⟩
theorem c_s_sortsOf_L {Q : Option jm_V → jm_H → Prop} (hp : jm_H) (hS : jSn hp 9 10 11 12) (p : Int) (hp32 : jR32 p) (k : ∀ z, jm_Ev 90 67 [jR 9, jI p, jI (jsorts (hp 10) (hp 11) (hp 12) p (hp 9 3).toNat), jI (hp 9 3), z] [] hp Q) : ∀ (n : Nat) (i c : Int) (z : jm_V), 0 ≤ i → i ≤ hp 9 3 → c = (jsorts (hp 10) (hp 11) (hp 12) p i.toNat) → hp 9 3 - i < n → jm_Ev 90 5 [jR 9, jI p, jI c, jI i, z] [] hp Q := by
  obtain ⟨h0, h6, h1, h2, h3⟩ := id hS
  intro n
  induction n with
  | zero => intro i c z hi0 hi1 hs hn; omega
  | succ n ih =>
    intro i c z hi0 hi1 hs hn
    refine jm_Ev.bl 3 (pc' := 10) (A' := [jR 9, jI p, jI c, jI i, z]) (st' := [jI (hp 9 3), jI i]) (hp' := hp) rfl ?_
    refine jE_icmp_ge rfl (by omega) (by omega) (fun c10 => ?_) (fun c10 => ?_)
    · have e : i = hp 9 3 := by omega
      subst e
      rw [hs]
      exact k z
    · refine jm_Ev.bl 2 (pc' := 16) (A' := [jR 9, jI p, jI c, jI i, z]) (st' := [jI 6, jI i]) (hp' := hp) rfl ?_
      refine jE_icmp_ge rfl (by omega) (by omega) (fun c16 => ?_) (fun c16 => ?_)
      · omega
      · have hq := h2 i hi0 (by omega)
        have hz := h3 i hi0 (by omega)
        have hsr := jsorts_r (pl := hp 10) (qu := hp 11) (an := hp 12) (p := p) i.toNat (fun j a b => h2 j a (by omega))
        refine jm_Ev.bl 3 (pc' := 24) (A' := [jR 9, jI p, jI c, jI i, z]) (st' := [jI i, jR 10]) (hp' := hp) rfl ?_
        refine jE_iald (n := 6) (f := hp 10) rfl rfl (by omega) ?_
        refine jm_Ev.bl 1 (pc' := 26) (A' := [jR 9, jI p, jI c, jI i, z]) (st' := [jI p, jI (hp 10 i)]) (hp' := hp) rfl ?_
        refine jE_icmp_ne rfl (by first | omega | exact h1 i hi0 (by omega)) (by first | omega | exact h1 i hi0 (by omega)) (fun c26 => ?_) (fun c26 => ?_)
        · refine jm_Ev.bl 2 (pc' := 5) (A' := [jR 9, jI p, jI c, jI (i + 1), z]) (st' := []) (hp' := hp) rfl ?_
          exact ih (i + 1) c (z) (by omega) (by omega) (by rw [jsorts_s hi0, ← hs]; rw [if_neg c26]) (by omega)
        · refine jm_Ev.bl 3 (pc' := 34) (A' := [jR 9, jI p, jI c, jI i, z]) (st' := [jI i, jR 11]) (hp' := hp) rfl ?_
          refine jE_iald (n := 6) (f := hp 11) rfl rfl (by omega) ?_
          refine jE_callI (vs := [jI (hp 11 i)]) (r := []) (nx := 38) (v := jI (jtab (hp 11 i))) (hp1 := hp) rfl (c_s_are hp _ (by omega) (by omega)) ?_
          refine jm_Ev.bl 5 (pc' := 46) (A' := [jR 9, jI p, jI c, jI i, jI (jtab (hp 11 i))]) (st' := [jI i, jR 12, jI c]) (hp' := hp) rfl ?_
          refine jE_zald (n := 6) (f := hp 12) rfl rfl (by omega) ?_
          refine jE_if_eq rfl (by omega) (fun c47 => ?_) (fun c47 => ?_)
          · refine jm_Ev.bl 7 (pc' := 5) (A' := [jR 9, jI p, jI ((Int32.ofInt c &&& Int32.ofInt ((Int32.ofInt (jtab (hp 11 i)) ^^^ Int32.ofInt (-1)).toInt)).toInt), jI (i + 1), jI (jtab (hp 11 i))]) (st' := []) (hp' := hp) rfl ?_
            exact ih (i + 1) ((Int32.ofInt c &&& Int32.ofInt ((Int32.ofInt (jtab (hp 11 i)) ^^^ Int32.ofInt (-1)).toInt)).toInt) (jI (jtab (hp 11 i))) (by omega) (by omega) (by rw [jsorts_s hi0, ← hs]; rw [if_pos c26]; unfold jsq; rw [if_neg (by omega)]; exact jnot (by omega) (by omega) (by omega) (by omega)) (by omega)
          · refine jm_Ev.bl 6 (pc' := 5) (A' := [jR 9, jI p, jI ((Int32.ofInt c &&& Int32.ofInt (jtab (hp 11 i))).toInt), jI (i + 1), jI (jtab (hp 11 i))]) (st' := []) (hp' := hp) rfl ?_
            exact ih (i + 1) ((Int32.ofInt c &&& Int32.ofInt (jtab (hp 11 i))).toInt) (jI (jtab (hp 11 i))) (by omega) (by omega) (by rw [jsorts_s hi0, ← hs]; rw [if_pos c26]; unfold jsq; rw [if_pos (by rcases hz with h | h; exact absurd h c47; exact h)]) (by omega)
theorem c_s_sortsOf (hp : jm_H) (hS : jSn hp 9 10 11 12) (p : Int) (hp32 : jR32 p) : jm_Ev 90 0 [jR 9, jI p, jU, jU, jU] [] hp (jK (some (jI (jsorts (hp 10) (hp 11) (hp 12) p (hp 9 3).toNat))) hp) := by
  obtain ⟨h0, h6, h1, h2, h3⟩ := id hS
  refine jm_Ev.bl 4 (pc' := 5) (A' := [jR 9, jI p, jI 31, jI 0, jU]) (st' := []) (hp' := hp) rfl ?_
  exact c_s_sortsOf_L hp hS p hp32 (fun z => jE_b1 rfl (jE_ret rfl ⟨rfl, rfl⟩)) 7 0 31 _ (by omega) (by omega) rfl (by omega)
theorem c_s_add (hp : jm_H) (hS : jSn hp 9 10 11 12) (a b c : Int) (hc : c = 0 ∨ c = 1) (hn : hp 9 3 < 6) : jm_Ev 88 0 [jR 9, jI a, jI b, jI c] [] hp (jK (some (jI 1)) (jm_hs (jm_hs (jm_hs (jm_hs hp 10 (hp 9 3) a) 11 (hp 9 3) b) 12 (hp 9 3) c) 9 3 (hp 9 3 + 1))) := by
  obtain ⟨h0, h6, h1, h2, h3⟩ := id hS
  refine jm_Ev.bl 2 (pc' := 4) (A' := [jR 9, jI a, jI b, jI c]) (st' := [jI (hp 9 3)]) (hp' := hp) rfl ?_
  refine jE_if_lt rfl (by omega) (fun c4 => ?_) (fun c4 => ?_)
  · omega
  · refine jm_Ev.bl 3 (pc' := 13) (A' := [jR 9, jI a, jI b, jI c]) (st' := [jI 6, jI (hp 9 3)]) (hp' := hp) rfl ?_
    refine jE_icmp_lt rfl (by omega) (by omega) (fun c13 => ?_) (fun c13 => ?_)
    · refine jm_Ev.bl 5 (pc' := 27) (A' := [jR 9, jI a, jI b, jI c]) (st' := [jI a, jI (hp 9 3), jR 10]) (hp' := hp) rfl ?_
      refine jE_iast (n := 6) rfl rfl (by omega) ?_
      refine jm_Ev.bl 5 (pc' := 37) (A' := [jR 9, jI a, jI b, jI c]) (st' := [jI b, jI (hp 9 3), jR 11]) (hp' := (jm_hs hp 10 (hp 9 3) a)) rfl ?_
      refine jE_iast (n := 6) rfl rfl (by omega) ?_
      refine jm_Ev.bl 5 (pc' := 47) (A' := [jR 9, jI a, jI b, jI c]) (st' := [jI c, jI (hp 9 3), jR 12]) (hp' := (jm_hs (jm_hs hp 10 (hp 9 3) a) 11 (hp 9 3) b)) rfl ?_
      refine jE_zast (n := 6) rfl rfl (by exact hc) (by omega) ?_
      refine jm_Ev.bl 7 (pc' := 59) (A' := [jR 9, jI a, jI b, jI c]) (st' := [jI 1]) (hp' := (jm_hs (jm_hs (jm_hs (jm_hs hp 10 (hp 9 3) a) 11 (hp 9 3) b) 12 (hp 9 3) c) 9 3 ((hp 9 3) + 1))) rfl ?_
      exact jE_ret rfl ⟨rfl, rfl⟩
    · omega
theorem c_s_add_full (hp : jm_H) (hn : hp 9 3 = 6) (a b c : Int) : jm_Ev 88 0 [jR 9, jI a, jI b, jI c] [] hp (jK (some (jI 0)) hp) := by
  refine jm_Ev.bl 2 (pc' := 4) (A' := [jR 9, jI a, jI b, jI c]) (st' := [jI (hp 9 3)]) (hp' := hp) rfl ?_
  refine jE_if_lt rfl (by omega) (fun c4 => ?_) (fun c4 => ?_)
  · omega
  · refine jm_Ev.bl 3 (pc' := 13) (A' := [jR 9, jI a, jI b, jI c]) (st' := [jI 6, jI (hp 9 3)]) (hp' := hp) rfl ?_
    refine jE_icmp_lt rfl (by omega) (by omega) (fun c13 => ?_) (fun c13 => ?_)
    · omega
    · refine jm_Ev.bl 1 (pc' := 17) (A' := [jR 9, jI a, jI b, jI c]) (st' := [jI 0]) (hp' := hp) rfl ?_
      exact jE_ret rfl ⟨rfl, rfl⟩
theorem c_s_copy_13_L {Q : Option jm_V → jm_H → Prop} (hp : jm_H) (h3 : ∀ j, 0 ≤ j → j < 6 → hp 12 j = 0 ∨ hp 12 j = 1) (k : ∀ h : jm_H, h 13 3 = hp 9 3 → (∀ j, 0 ≤ j → j < 6 → h 14 j = hp 10 j) → (∀ j, 0 ≤ j → j < 6 → h 15 j = hp 11 j) → (∀ j, 0 ≤ j → j < 6 → h 16 j = hp 12 j) → jFr hp h [13, 14, 15, 16] → jm_Ev 89 58 [jR 13, jR 9, jI 6] [] h Q) : ∀ (n : Nat) (i : Int) (h : jm_H), 0 ≤ i → i ≤ 6 → h 13 3 = hp 9 3 → (∀ j, 0 ≤ j → j < i → h 14 j = hp 10 j) → (∀ j, 0 ≤ j → j < i → h 15 j = hp 11 j) → (∀ j, 0 ≤ j → j < i → h 16 j = hp 12 j) → jFr hp h [13, 14, 15, 16] → 6 - i < n → jm_Ev 89 10 [jR 13, jR 9, jI i] [] h Q := by
  intro n
  induction n with
  | zero => intro i h hi0 hi1 e1 ea eb ec hf hn; omega
  | succ n ih =>
    intro i h hi0 hi1 e1 ea eb ec hf hn
    refine jm_Ev.bl 2 (pc' := 13) (A' := [jR 13, jR 9, jI i]) (st' := [jI 6, jI i]) (hp' := h) rfl ?_
    refine jE_icmp_ge rfl (by omega) (by omega) (fun c13 => ?_) (fun c13 => ?_)
    · have e : i = 6 := by omega
      subst e
      exact k h e1 ea eb ec hf
    · refine jm_Ev.bl 6 (pc' := 26) (A' := [jR 13, jR 9, jI i]) (st' := [jI i, jR 10, jI i, jR 14]) (hp' := h) rfl ?_
      refine jE_iald (n := 6) (f := h 10) rfl rfl (by omega) ?_
      refine jE_iast (n := 6) rfl rfl (by omega) ?_
      refine jm_Ev.bl 6 (pc' := 38) (A' := [jR 13, jR 9, jI i]) (st' := [jI i, jR 11, jI i, jR 15]) (hp' := (jm_hs h 14 i (h 10 i))) rfl ?_
      refine jE_iald (n := 6) (f := h 11) rfl rfl (by omega) ?_
      refine jE_iast (n := 6) rfl rfl (by omega) ?_
      refine jm_Ev.bl 6 (pc' := 50) (A' := [jR 13, jR 9, jI i]) (st' := [jI i, jR 12, jI i, jR 16]) (hp' := (jm_hs (jm_hs h 14 i (h 10 i)) 15 i (h 11 i))) rfl ?_
      refine jE_zald (n := 6) (f := h 12) rfl rfl (by omega) ?_
      refine jE_zast (n := 6) rfl rfl (by rw [hf 12 (by decide)]; exact h3 i hi0 (by omega)) (by omega) ?_
      refine jm_Ev.bl 2 (pc' := 10) (A' := [jR 13, jR 9, jI (i + 1)]) (st' := []) (hp' := (jm_hs (jm_hs (jm_hs h 14 i (h 10 i)) 15 i (h 11 i)) 16 i (h 12 i))) rfl ?_
      exact ih (i + 1) (jm_hs (jm_hs (jm_hs h 14 i (h 10 i)) 15 i (h 11 i)) 16 i (h 12 i)) (by omega) (by omega) e1 (jhs_lt (h := h) (F := hp 10) ea (by rw [hf 10 (by decide)])) (jhs_lt (h := h) (F := hp 11) eb (by rw [hf 11 (by decide)])) (jhs_lt (h := h) (F := hp 12) ec (by rw [hf 12 (by decide)])) (((hf.set (by decide)).set (by decide)).set (by decide)) (by omega)
def jscp_13 (hp : jm_H) : Option jm_V → jm_H → Prop := fun rv h => rv = none ∧ h 13 3 = hp 9 3 ∧ (∀ j, 0 ≤ j → j < 6 → h 14 j = hp 10 j) ∧ (∀ j, 0 ≤ j → j < 6 → h 15 j = hp 11 j) ∧ (∀ j, 0 ≤ j → j < 6 → h 16 j = hp 12 j) ∧ jFr hp h [13, 14, 15, 16]
theorem c_s_copy_13 (hp : jm_H) (h3 : ∀ j, 0 ≤ j → j < 6 → hp 12 j = 0 ∨ hp 12 j = 1) : jm_Ev 89 0 [jR 13, jR 9, jU] [] hp (jscp_13 hp) := by
  refine jm_Ev.bl 6 (pc' := 10) (A' := [jR 13, jR 9, jI 0]) (st' := []) (hp' := (jm_hs hp 13 3 (hp 9 3))) rfl ?_
  exact c_s_copy_13_L hp h3 (fun h a b c d e => jE_ret rfl ⟨rfl, a, b, c, d, e⟩) 7 0 _ (by omega) (by omega) rfl (fun j a b => by omega) (fun j a b => by omega) (fun j a b => by omega) (jFr.rf.set (by decide)) (by omega)
theorem c_s_copy_9_L {Q : Option jm_V → jm_H → Prop} (hp : jm_H) (h3 : ∀ j, 0 ≤ j → j < 6 → hp 16 j = 0 ∨ hp 16 j = 1) (k : ∀ h : jm_H, h 9 3 = hp 13 3 → (∀ j, 0 ≤ j → j < 6 → h 10 j = hp 14 j) → (∀ j, 0 ≤ j → j < 6 → h 11 j = hp 15 j) → (∀ j, 0 ≤ j → j < 6 → h 12 j = hp 16 j) → jFr hp h [9, 10, 11, 12] → jm_Ev 89 58 [jR 9, jR 13, jI 6] [] h Q) : ∀ (n : Nat) (i : Int) (h : jm_H), 0 ≤ i → i ≤ 6 → h 9 3 = hp 13 3 → (∀ j, 0 ≤ j → j < i → h 10 j = hp 14 j) → (∀ j, 0 ≤ j → j < i → h 11 j = hp 15 j) → (∀ j, 0 ≤ j → j < i → h 12 j = hp 16 j) → jFr hp h [9, 10, 11, 12] → 6 - i < n → jm_Ev 89 10 [jR 9, jR 13, jI i] [] h Q := by
  intro n
  induction n with
  | zero => intro i h hi0 hi1 e1 ea eb ec hf hn; omega
  | succ n ih =>
    intro i h hi0 hi1 e1 ea eb ec hf hn
    refine jm_Ev.bl 2 (pc' := 13) (A' := [jR 9, jR 13, jI i]) (st' := [jI 6, jI i]) (hp' := h) rfl ?_
    refine jE_icmp_ge rfl (by omega) (by omega) (fun c13 => ?_) (fun c13 => ?_)
    · have e : i = 6 := by omega
      subst e
      exact k h e1 ea eb ec hf
    · refine jm_Ev.bl 6 (pc' := 26) (A' := [jR 9, jR 13, jI i]) (st' := [jI i, jR 14, jI i, jR 10]) (hp' := h) rfl ?_
      refine jE_iald (n := 6) (f := h 14) rfl rfl (by omega) ?_
      refine jE_iast (n := 6) rfl rfl (by omega) ?_
      refine jm_Ev.bl 6 (pc' := 38) (A' := [jR 9, jR 13, jI i]) (st' := [jI i, jR 15, jI i, jR 11]) (hp' := (jm_hs h 10 i (h 14 i))) rfl ?_
      refine jE_iald (n := 6) (f := h 15) rfl rfl (by omega) ?_
      refine jE_iast (n := 6) rfl rfl (by omega) ?_
      refine jm_Ev.bl 6 (pc' := 50) (A' := [jR 9, jR 13, jI i]) (st' := [jI i, jR 16, jI i, jR 12]) (hp' := (jm_hs (jm_hs h 10 i (h 14 i)) 11 i (h 15 i))) rfl ?_
      refine jE_zald (n := 6) (f := h 16) rfl rfl (by omega) ?_
      refine jE_zast (n := 6) rfl rfl (by rw [hf 16 (by decide)]; exact h3 i hi0 (by omega)) (by omega) ?_
      refine jm_Ev.bl 2 (pc' := 10) (A' := [jR 9, jR 13, jI (i + 1)]) (st' := []) (hp' := (jm_hs (jm_hs (jm_hs h 10 i (h 14 i)) 11 i (h 15 i)) 12 i (h 16 i))) rfl ?_
      exact ih (i + 1) (jm_hs (jm_hs (jm_hs h 10 i (h 14 i)) 11 i (h 15 i)) 12 i (h 16 i)) (by omega) (by omega) e1 (jhs_lt (h := h) (F := hp 14) ea (by rw [hf 14 (by decide)])) (jhs_lt (h := h) (F := hp 15) eb (by rw [hf 15 (by decide)])) (jhs_lt (h := h) (F := hp 16) ec (by rw [hf 16 (by decide)])) (((hf.set (by decide)).set (by decide)).set (by decide)) (by omega)
def jscp_9 (hp : jm_H) : Option jm_V → jm_H → Prop := fun rv h => rv = none ∧ h 9 3 = hp 13 3 ∧ (∀ j, 0 ≤ j → j < 6 → h 10 j = hp 14 j) ∧ (∀ j, 0 ≤ j → j < 6 → h 11 j = hp 15 j) ∧ (∀ j, 0 ≤ j → j < 6 → h 12 j = hp 16 j) ∧ jFr hp h [9, 10, 11, 12]
theorem c_s_copy_9 (hp : jm_H) (h3 : ∀ j, 0 ≤ j → j < 6 → hp 16 j = 0 ∨ hp 16 j = 1) : jm_Ev 89 0 [jR 9, jR 13, jU] [] hp (jscp_9 hp) := by
  refine jm_Ev.bl 6 (pc' := 10) (A' := [jR 9, jR 13, jI 0]) (st' := []) (hp' := (jm_hs hp 9 3 (hp 13 3))) rfl ?_
  exact c_s_copy_9_L hp h3 (fun h a b c d e => jE_ret rfl ⟨rfl, a, b, c, d, e⟩) 7 0 _ (by omega) (by omega) rfl (fun j a b => by omega) (fun j a b => by omega) (fun j a b => by omega) (jFr.rf.set (by decide)) (by omega)
