/-! the model's layBest -/
def jMb (N : Int) (P : Int → Int → Int) (f l b c : Int) : Prop := 3 ≤ l ∧ ((l = N + 1 ∧ b = -1) ∨ (l ≤ N ∧ b ≠ -1 ∧ jml (fun g => (jdc N P g l.toNat).1) 0 (f - 0).toNat = (b, c))) ∧ ∀ m : Nat, 3 ≤ m → (m : Int) < l → (m : Int) ≤ N → ∀ y, 0 ≤ y → y < f → (jdc N P y m).1 = -1
theorem jMb_0 {N : Int} {P : Int → Int → Int} (h : 4 ≤ N) : jMb N P 0 (N + 1) (-1) 0 := ⟨by omega, Or.inl ⟨rfl, rfl⟩, fun m a b c y d e => by omega⟩
theorem jMb_none {N : Int} {P : Int → Int → Int} {f l b c : Int} (f0 : 0 ≤ f) (h : jMb N P f l b c) (hn : ∀ m : Nat, 3 ≤ m → (m : Int) ≤ l → (m : Int) ≤ N → (jdc N P f m).1 = -1) : jMb N P (f + 1) l b c := by
  obtain ⟨h1, h2, h3⟩ := h
  refine ⟨h1, ?_, fun m a b' d y e e2 => ?_⟩
  · rcases h2 with h2 | ⟨h2, h4, h5⟩
    · exact Or.inl h2
    · refine Or.inr ⟨h2, h4, ?_⟩
      rw [jml_s (by omega), if_neg (fun z => z.1 (hn l.toNat (by omega) (by omega) (by omega)))]
      exact h5
  · by_cases q : y = f
    · subst q; exact hn m a (by omega) d
    · exact h3 m a b' d y e (by omega)
theorem jMb_new {N : Int} {P : Int → Int → Int} {f l b c n : Int} (f0 : 0 ≤ f) (h : jMb N P f l b c) (n0 : 3 ≤ n) (n1 : n < l) (n2 : n ≤ N) (hn : ∀ m : Nat, 3 ≤ m → (m : Int) < n → (jdc N P f m).1 = -1) (ht : (jdc N P f n.toNat).1 ≠ -1) : jMb N P (f + 1) n (jdc N P f n.toNat).1 f := by
  obtain ⟨h1, h2, h3⟩ := h
  refine ⟨n0, Or.inr ⟨n2, ht, ?_⟩, fun m a b' d y e e2 => ?_⟩
  · have hz : jml (fun g => (jdc N P g n.toNat).1) 0 (f - 0).toNat = (-1, -1) := jml_none (fun u a b' => h3 n.toNat (by omega) (by omega) (by omega) u a (by omega))
    rw [jml_s (by omega), if_pos ⟨ht, Or.inl (by rw [hz])⟩]
  · by_cases q : y = f
    · subst q; exact hn m a b'
    · exact h3 m a (by omega) d y e (by omega)
theorem jMb_less {N : Int} {P : Int → Int → Int} {f l b c : Int} (f0 : 0 ≤ f) (h : jMb N P f l b c) (n2 : l ≤ N) (hn : ∀ m : Nat, 3 ≤ m → (m : Int) < l → (jdc N P f m).1 = -1) (ht : (jdc N P f l.toNat).1 ≠ -1) (hl : (jdc N P f l.toNat).1 < b) : jMb N P (f + 1) l (jdc N P f l.toNat).1 f := by
  obtain ⟨h1, h2, h3⟩ := h
  refine ⟨h1, Or.inr ⟨n2, ht, ?_⟩, fun m a b' d y e e2 => ?_⟩
  · rcases h2 with h2 | ⟨_, h4, h5⟩
    · omega
    · rw [jml_s (by omega), if_pos ⟨ht, Or.inr (by rw [h5]; exact hl)⟩]
  · by_cases q : y = f
    · subst q; exact hn m a b'
    · exact h3 m a (by omega) d y e (by omega)
theorem jMb_more {N : Int} {P : Int → Int → Int} {f l b c : Int} (f0 : 0 ≤ f) (h : jMb N P f l b c) (n2 : l ≤ N) (hn : ∀ m : Nat, 3 ≤ m → (m : Int) < l → (jdc N P f m).1 = -1) (hl : b ≤ (jdc N P f l.toNat).1) : jMb N P (f + 1) l b c := by
  obtain ⟨h1, h2, h3⟩ := h
  refine ⟨h1, ?_, fun m a b' d y e e2 => ?_⟩
  · rcases h2 with h2 | ⟨h6, h4, h5⟩
    · omega
    · refine Or.inr ⟨n2, h4, ?_⟩
      rw [jml_s (by omega), if_neg (fun z => by rw [h5] at z; rcases z.2 with w | w; exact h4 w; exact absurd w (show ¬ (jdc N P f l.toNat).1 < b by omega))]
      exact h5
  · by_cases q : y = f
    · subst q; exact hn m a b'
    · exact h3 m a (by omega) d y e (by omega)
theorem jMb_N {N : Int} {P : Int → Int → Int} (hP : jPw N P) {l b c : Int} (h : jMb N P N l b c) : l = (jlst N P : Int) ∧ b = (jdb N P (jlst N P)).1 ∧ c = (jdb N P (jlst N P)).2 := by
  obtain ⟨h1, h2, h3⟩ := h
  have h4 := hP.1
  rcases h2 with ⟨h2, _⟩ | ⟨h2, h5, h6⟩
  · exact absurd (h3 N.toNat (by omega) (by omega) (by omega) 0 (by omega) (by omega)) (jdc_all hP)
  · have hb : jdb N P l.toNat = (b, c) := by
      unfold jdb
      rw [show N.toNat = (N - 0).toNat by omega]
      exact h6
    have e := jlst_eq hP (n := l.toNat) ⟨by omega, by omega, (jdb_ne hP l.toNat).mp (by rw [hb]; exact h5), fun m a b' y d e => h3 m a (by omega) (by omega) y d e⟩
    rw [e, hb]
    exact ⟨by omega, rfl, rfl⟩
/-- inside the loop of one first -/
def jMi (N : Int) (P : Int → Int → Int) (f l b c n : Int) : Prop := (n ≤ l ∧ n ≤ N ∧ jMb N P f l b c ∧ ∀ m : Nat, 3 ≤ m → (m : Int) < n → (jdc N P f m).1 = -1) ∨ ((l < n ∨ N < n) ∧ jMb N P (f + 1) l b c)
theorem jMi_none {N : Int} {P : Int → Int → Int} {f l b c n : Int} (f0 : 0 ≤ f) (n1 : n ≤ l) (n2 : n ≤ N) (h : jMb N P f l b c) (hn : ∀ m : Nat, 3 ≤ m → (m : Int) < n + 1 → (jdc N P f m).1 = -1) : jMi N P f l b c (n + 1) := by
  by_cases q : n + 1 ≤ l ∧ n + 1 ≤ N
  · exact Or.inl ⟨q.1, q.2, h, hn⟩
  · exact Or.inr ⟨by omega, jMb_none f0 h (fun m a b' d => hn m a (by omega))⟩
/-- what the model knows of one outline -/
def jMv (h : jm_H) (K : Int → Int → Int) (s i : Int) (q : List jT) : Prop := h 71 i = jlq K q ∧ h 72 i = jbq K q ∧ ∀ x : Int, 0 ≤ x → x < q.length → h 65 (s + x) = jb (jchk (jkq K q) (jlq K q).toNat x)
def jlB (hp : jm_H) (K : Int → Int → Int) (s i : Int) (q : List jT) : Option jm_V → jm_H → Prop := fun rv h => rv = none ∧ jMv h K s i q ∧ (∀ j, j ≠ i → h 71 j = hp 71 j ∧ h 72 j = hp 72 j) ∧ (∀ j : Int, j < s ∨ s + q.length ≤ j → h 65 j = hp 65 j) ∧ jFq hp h [65, 68, 69, 70, 71, 72] [26]
theorem c_m_lb_2 {Q : Option jm_V → jm_H → Prop} (hp : jm_H) (N f : Int) (P : Int → Int → Int) (i : Int) (hPw : jPw N P) (hpe : jPe hp N P) (hf : 0 ≤ f ∧ f < N) (k : ∀ l b c z1 z h, jMb N P (f + 1) l b c → (3 ≤ l ∧ l ≤ N + 1) → (-1 ≤ b ∧ b ≤ 2147483647) → jFq hp h [68, 69, 70] [26] → jm_Ev 166 118 [jR 56, jI i, jI N, jI l, jI b, jI c, jI f, z1, z] [] h Q) : ∀ (m : Nat) (l b c n : Int) (z : jm_V) (h : jm_H), (1 ≤ n ∧ n ≤ 61) → (3 ≤ l ∧ l ≤ N + 1) → (-1 ≤ b ∧ b ≤ 2147483647) → jMi N P f l b c n → (∀ v, 0 ≤ v → v < N → h 68 v = jdp P f (n - 1).toNat v) → jFq hp h [68, 69, 70] [26] → 62 - n < m → jm_Ev 166 36 [jR 56, jI i, jI N, jI l, jI b, jI c, jI f, jI n, z] [] h Q := by
  have hN4 := hPw.1
  have hN6 := hPw.2.1
  intro n
  induction n with
  | zero => intro l b c n z h h0 hl hb hMi hsm hfr hm; omega
  | succ n ih =>
    intro l b c n z h h0 hl hb hMi hsm hfr hm
    refine jm_Ev.bl 2 (pc' := 39) (A' := [jR 56, jI i, jI N, jI l, jI b, jI c, jI f, jI n, z]) (st' := [jI l, jI n]) (hp' := h) rfl ?_
    refine jE_icmp_gt rfl (by omega) (by omega) (fun c39 => ?_) (fun c39 => ?_)
    · exact k l b c (jI n) (z) h (by rcases hMi with z | z; omega; exact z.2) hl hb hfr
    · refine jm_Ev.bl 2 (pc' := 45) (A' := [jR 56, jI i, jI N, jI l, jI b, jI c, jI f, jI n, z]) (st' := [jI N, jI n]) (hp' := h) rfl ?_
      refine jE_icmp_gt rfl (by omega) (by omega) (fun c45 => ?_) (fun c45 => ?_)
      · exact k l b c (jI n) (z) h (by rcases hMi with z | z; omega; exact z.2) hl hb hfr
      · have hL : jMb N P f l b c ∧ ∀ m : Nat, 3 ≤ m → (m : Int) < n → (jdc N P f m).1 = -1 := by
          rcases hMi with z | z
          · exact z.2.2
          · have := z.1; omega
        refine jm_Ev.bl 2 (pc' := 51) (A' := [jR 56, jI i, jI N, jI l, jI b, jI c, jI f, jI n, z]) (st' := [jI 3, jI n]) (hp' := h) rfl ?_
        refine jE_icmp_ge rfl (by omega) (by omega) (fun c51 => ?_) (fun c51 => ?_)
        · refine jm_Ev.bl 3 (pc' := 62) (A' := [jR 56, jI i, jI N, jI l, jI b, jI c, jI f, jI n, z]) (st' := [jI N, jI f, jR 56]) (hp' := h) rfl ?_
          refine jE_call (vs := [jR 56, jI f, jI N]) (r := []) (nx := 65) rfl (c_m_closed h N f P hPw (jPe_fr hpe (hfr.pl 67 (by simp) (by simp))) hf (n - 1).toNat (by omega) hsm) (fun rv62 h2 hh => ?_)
          obtain ⟨rfl, a1, hfr2⟩ := hh
          rw [show (n - 1).toNat + 1 = n.toNat by omega] at *
          have hcr : -1 ≤ (jdc N P f n.toNat).1 ∧ (jdc N P f n.toNat).1 ≤ 2147483647 := by
            rcases jdc_n hPw hf.1 hf.2 (n := n.toNat) (by omega) with z | z
            · omega
            · have := z.2; unfold jfn at this; omega
          refine jm_Ev.bl 3 (pc' := 70) (A' := [jR 56, jI i, jI N, jI l, jI b, jI c, jI f, jI n, jI ((jdc N P f n.toNat).1)]) (st' := [jI (-1), jI ((jdc N P f n.toNat).1)]) (hp' := h2) rfl ?_
          refine jE_icmp_eq rfl (by omega) (by omega) (fun c70 => ?_) (fun c70 => ?_)
          · refine jm_Ev.bl 4 (pc' := 109) (A' := [jR 56, jI i, jI N, jI l, jI b, jI c, jI f, jI n, jI ((jdc N P f n.toNat).1)]) (st' := [jI n, jI N, jI f, jR 56]) (hp' := h2) rfl ?_
            refine jE_call (vs := [jR 56, jI f, jI N, jI n]) (r := []) (nx := 112) rfl ((show (((n - 1).toNat + 1 : Nat) : Int) = n by omega) ▸ c_m_step h2 N f P hPw (jPe_fr hpe ((hfr2.pl 67 (by simp) (by simp)).trans (hfr.pl 67 (by simp) (by simp)))) hf (n - 1).toNat (by omega) (by rw [show h2 68 = h 68 from hfr2.pl 68 (by simp) (by simp)]; exact hsm)) (fun rv109 h3 hs3 => ?_)
            obtain ⟨rfl, b1, _, _, hfr3⟩ := hs3
            have hfr4 := hfr.tr (hfr2.tr hfr3 (V := [68, 69, 70]) (E := [26]) (by simp) (by simp) (by simp) (by simp)) (V := [68, 69, 70]) (E := [26]) (by simp) (by simp) (by simp) (by simp)
            refine jm_Ev.bl 2 (pc' := 36) (A' := [jR 56, jI i, jI N, jI l, jI b, jI c, jI f, jI (n + 1), jI ((jdc N P f n.toNat).1)]) (st' := []) (hp' := h3) rfl ?_
            exact ih l b c (n + 1) (jI ((jdc N P f n.toNat).1)) h3 (by omega) hl hb (jMi_none hf.1 c39 c45 hL.1 (fun m a b' => by by_cases q : (m : Int) = n; exact (by rw [show m = n.toNat by omega]; exact c70); exact hL.2 m a (by omega))) (by rw [show (n + 1 - 1).toNat = (n - 1).toNat + 1 by omega]; exact b1) hfr4 (by omega)
          · refine jm_Ev.bl 2 (pc' := 76) (A' := [jR 56, jI i, jI N, jI l, jI b, jI c, jI f, jI n, jI ((jdc N P f n.toNat).1)]) (st' := [jI l, jI n]) (hp' := h2) rfl ?_
            refine jE_icmp_lt rfl (by omega) (by omega) (fun c76 => ?_) (fun c76 => ?_)
            · refine jm_Ev.bl 10 (pc' := 109) (A' := [jR 56, jI i, jI N, jI n, jI ((jdc N P f n.toNat).1), jI f, jI f, jI n, jI ((jdc N P f n.toNat).1)]) (st' := [jI n, jI N, jI f, jR 56]) (hp' := h2) rfl ?_
              refine jE_call (vs := [jR 56, jI f, jI N, jI n]) (r := []) (nx := 112) rfl ((show (((n - 1).toNat + 1 : Nat) : Int) = n by omega) ▸ c_m_step h2 N f P hPw (jPe_fr hpe ((hfr2.pl 67 (by simp) (by simp)).trans (hfr.pl 67 (by simp) (by simp)))) hf (n - 1).toNat (by omega) (by rw [show h2 68 = h 68 from hfr2.pl 68 (by simp) (by simp)]; exact hsm)) (fun rv109 h3 hs3 => ?_)
              obtain ⟨rfl, b1, _, _, hfr3⟩ := hs3
              have hfr4 := hfr.tr (hfr2.tr hfr3 (V := [68, 69, 70]) (E := [26]) (by simp) (by simp) (by simp) (by simp)) (V := [68, 69, 70]) (E := [26]) (by simp) (by simp) (by simp) (by simp)
              refine jm_Ev.bl 2 (pc' := 36) (A' := [jR 56, jI i, jI N, jI n, jI ((jdc N P f n.toNat).1), jI f, jI f, jI (n + 1), jI ((jdc N P f n.toNat).1)]) (st' := []) (hp' := h3) rfl ?_
              exact ih n (jdc N P f n.toNat).1 f (n + 1) (jI ((jdc N P f n.toNat).1)) h3 (by omega) (by omega) hcr (Or.inr ⟨Or.inl (by omega), jMb_new hf.1 hL.1 (by omega) c76 c45 hL.2 c70⟩) (by rw [show (n + 1 - 1).toNat = (n - 1).toNat + 1 by omega]; exact b1) hfr4 (by omega)
            · refine jm_Ev.bl 2 (pc' := 82) (A' := [jR 56, jI i, jI N, jI l, jI b, jI c, jI f, jI n, jI ((jdc N P f n.toNat).1)]) (st' := [jI (-1), jI b]) (hp' := h2) rfl ?_
              refine jE_icmp_eq rfl (by omega) (by omega) (fun c82 => ?_) (fun c82 => ?_)
              · refine jm_Ev.bl 10 (pc' := 109) (A' := [jR 56, jI i, jI N, jI n, jI ((jdc N P f n.toNat).1), jI f, jI f, jI n, jI ((jdc N P f n.toNat).1)]) (st' := [jI n, jI N, jI f, jR 56]) (hp' := h2) rfl ?_
                refine jE_call (vs := [jR 56, jI f, jI N, jI n]) (r := []) (nx := 112) rfl ((show (((n - 1).toNat + 1 : Nat) : Int) = n by omega) ▸ c_m_step h2 N f P hPw (jPe_fr hpe ((hfr2.pl 67 (by simp) (by simp)).trans (hfr.pl 67 (by simp) (by simp)))) hf (n - 1).toNat (by omega) (by rw [show h2 68 = h 68 from hfr2.pl 68 (by simp) (by simp)]; exact hsm)) (fun rv109 h3 hs3 => ?_)
                obtain ⟨rfl, b1, _, _, hfr3⟩ := hs3
                have hfr4 := hfr.tr (hfr2.tr hfr3 (V := [68, 69, 70]) (E := [26]) (by simp) (by simp) (by simp) (by simp)) (V := [68, 69, 70]) (E := [26]) (by simp) (by simp) (by simp) (by simp)
                refine jm_Ev.bl 2 (pc' := 36) (A' := [jR 56, jI i, jI N, jI n, jI ((jdc N P f n.toNat).1), jI f, jI f, jI (n + 1), jI ((jdc N P f n.toNat).1)]) (st' := []) (hp' := h3) rfl ?_
                exact absurd c82 (by rcases hL.1.2.1 with w | w; omega; exact w.2.1)
              · refine jm_Ev.bl 2 (pc' := 89) (A' := [jR 56, jI i, jI N, jI l, jI b, jI c, jI f, jI n, jI ((jdc N P f n.toNat).1)]) (st' := [jI b, jI ((jdc N P f n.toNat).1)]) (hp' := h2) rfl ?_
                refine jE_icmp_ge rfl (by omega) (by omega) (fun c89 => ?_) (fun c89 => ?_)
                · refine jm_Ev.bl 4 (pc' := 109) (A' := [jR 56, jI i, jI N, jI l, jI b, jI c, jI f, jI n, jI ((jdc N P f n.toNat).1)]) (st' := [jI n, jI N, jI f, jR 56]) (hp' := h2) rfl ?_
                  refine jE_call (vs := [jR 56, jI f, jI N, jI n]) (r := []) (nx := 112) rfl ((show (((n - 1).toNat + 1 : Nat) : Int) = n by omega) ▸ c_m_step h2 N f P hPw (jPe_fr hpe ((hfr2.pl 67 (by simp) (by simp)).trans (hfr.pl 67 (by simp) (by simp)))) hf (n - 1).toNat (by omega) (by rw [show h2 68 = h 68 from hfr2.pl 68 (by simp) (by simp)]; exact hsm)) (fun rv109 h3 hs3 => ?_)
                  obtain ⟨rfl, b1, _, _, hfr3⟩ := hs3
                  have hfr4 := hfr.tr (hfr2.tr hfr3 (V := [68, 69, 70]) (E := [26]) (by simp) (by simp) (by simp) (by simp)) (V := [68, 69, 70]) (E := [26]) (by simp) (by simp) (by simp) (by simp)
                  refine jm_Ev.bl 2 (pc' := 36) (A' := [jR 56, jI i, jI N, jI l, jI b, jI c, jI f, jI (n + 1), jI ((jdc N P f n.toNat).1)]) (st' := []) (hp' := h3) rfl ?_
                  have el : l = n := by omega
                  subst el
                  exact ih l b c (l + 1) (jI ((jdc N P f l.toNat).1)) h3 (by omega) hl hb (Or.inr ⟨Or.inl (by omega), jMb_more hf.1 hL.1 c45 hL.2 c89⟩) (by rw [show (l + 1 - 1).toNat = (l - 1).toNat + 1 by omega]; exact b1) hfr4 (by omega)
                · refine jm_Ev.bl 10 (pc' := 109) (A' := [jR 56, jI i, jI N, jI n, jI ((jdc N P f n.toNat).1), jI f, jI f, jI n, jI ((jdc N P f n.toNat).1)]) (st' := [jI n, jI N, jI f, jR 56]) (hp' := h2) rfl ?_
                  refine jE_call (vs := [jR 56, jI f, jI N, jI n]) (r := []) (nx := 112) rfl ((show (((n - 1).toNat + 1 : Nat) : Int) = n by omega) ▸ c_m_step h2 N f P hPw (jPe_fr hpe ((hfr2.pl 67 (by simp) (by simp)).trans (hfr.pl 67 (by simp) (by simp)))) hf (n - 1).toNat (by omega) (by rw [show h2 68 = h 68 from hfr2.pl 68 (by simp) (by simp)]; exact hsm)) (fun rv109 h3 hs3 => ?_)
                  obtain ⟨rfl, b1, _, _, hfr3⟩ := hs3
                  have hfr4 := hfr.tr (hfr2.tr hfr3 (V := [68, 69, 70]) (E := [26]) (by simp) (by simp) (by simp) (by simp)) (V := [68, 69, 70]) (E := [26]) (by simp) (by simp) (by simp) (by simp)
                  refine jm_Ev.bl 2 (pc' := 36) (A' := [jR 56, jI i, jI N, jI n, jI ((jdc N P f n.toNat).1), jI f, jI f, jI (n + 1), jI ((jdc N P f n.toNat).1)]) (st' := []) (hp' := h3) rfl ?_
                  have el : l = n := by omega
                  have z := jMb_less hf.1 hL.1 (by omega) (by rw [el]; exact hL.2) (by rw [el]; exact c70) (by rw [el]; exact c89)
                  rw [el] at z
                  exact ih n (jdc N P f n.toNat).1 f (n + 1) (jI ((jdc N P f n.toNat).1)) h3 (by omega) (by omega) hcr (Or.inr ⟨Or.inl (by omega), z⟩) (by rw [show (n + 1 - 1).toNat = (n - 1).toNat + 1 by omega]; exact b1) hfr4 (by omega)
        · refine jm_Ev.bl 2 (pc' := 65) (A' := [jR 56, jI i, jI N, jI l, jI b, jI c, jI f, jI n, z]) (st' := [jI (-1)]) (hp' := h) rfl ?_
          refine jm_Ev.bl 3 (pc' := 70) (A' := [jR 56, jI i, jI N, jI l, jI b, jI c, jI f, jI n, jI (-1)]) (st' := [jI (-1), jI (-1)]) (hp' := h) rfl ?_
          refine jE_icmp_eq rfl (by omega) (by omega) (fun _ => ?_) (fun c70 => absurd c70 (by omega))
          refine jm_Ev.bl 4 (pc' := 109) (A' := [jR 56, jI i, jI N, jI l, jI b, jI c, jI f, jI n, jI (-1)]) (st' := [jI n, jI N, jI f, jR 56]) (hp' := h) rfl ?_
          refine jE_call (vs := [jR 56, jI f, jI N, jI n]) (r := []) (nx := 112) rfl ((show (((n - 1).toNat + 1 : Nat) : Int) = n by omega) ▸ c_m_step h N f P hPw (jPe_fr hpe (hfr.pl 67 (by simp) (by simp))) hf (n - 1).toNat (by omega) hsm) (fun rv109 h3 hs3 => ?_)
          obtain ⟨rfl, b1, _, _, hfr3⟩ := hs3
          have hfr4 := hfr.tr hfr3 (V := [68, 69, 70]) (E := [26]) (by simp) (by simp) (by simp) (by simp)
          refine jm_Ev.bl 2 (pc' := 36) (A' := [jR 56, jI i, jI N, jI l, jI b, jI c, jI f, jI (n + 1), jI (-1)]) (st' := []) (hp' := h3) rfl ?_
          exact ih l b c (n + 1) (jI (-1)) h3 (by omega) hl hb (jMi_none hf.1 c39 c45 hL.1 (fun m a b' => by omega)) (by rw [show (n + 1 - 1).toNat = (n - 1).toNat + 1 by omega]; exact b1) hfr4 (by omega)
theorem c_m_lb_1 {Q : Option jm_V → jm_H → Prop} (hp : jm_H) (N : Int) (P : Int → Int → Int) (i : Int) (hPw : jPw N P) (hpe : jPe hp N P) (k : ∀ l b c f z1 z h, jMb N P N l b c → jFq hp h [68, 69, 70] [26] → jm_Ev 166 124 [jR 56, jI i, jI N, jI l, jI b, jI c, jI f, z1, z] [] h Q) : ∀ (m : Nat) (l b c f : Int) (z1 z : jm_V) (h : jm_H), 0 ≤ f → f ≤ N → (3 ≤ l ∧ l ≤ N + 1) → (-1 ≤ b ∧ b ≤ 2147483647) → jMb N P f l b c → jFq hp h [68, 69, 70] [26] → N - f < m → jm_Ev 166 20 [jR 56, jI i, jI N, jI l, jI b, jI c, jI f, z1, z] [] h Q := by
  have hN4 := hPw.1
  have hN6 := hPw.2.1
  intro n
  induction n with
  | zero => intro l b c f z1 z h h0 h1 hl hb hmb hfr hm; omega
  | succ n ih =>
    intro l b c f z1 z h h0 h1 hl hb hmb hfr hm
    refine jm_Ev.bl 2 (pc' := 23) (A' := [jR 56, jI i, jI N, jI l, jI b, jI c, jI f, z1, z]) (st' := [jI N, jI f]) (hp' := h) rfl ?_
    refine jE_icmp_ge rfl (by omega) (by omega) (fun c23 => ?_) (fun c23 => ?_)
    · exact k l b c f (z1) (z) h (by rw [show f = N by omega] at hmb; exact hmb) hfr
    · refine jm_Ev.bl 3 (pc' := 30) (A' := [jR 56, jI i, jI N, jI l, jI b, jI c, jI f, z1, z]) (st' := [jI N, jI f, jR 56]) (hp' := h) rfl ?_
      refine jE_call (vs := [jR 56, jI f, jI N]) (r := []) (nx := 33) rfl (c_m_begin h N f P (by omega) (by omega)) (fun rv30 h2 hh => ?_)
      obtain ⟨rfl, a1, hfr2⟩ := hh
      refine jm_Ev.bl 2 (pc' := 36) (A' := [jR 56, jI i, jI N, jI l, jI b, jI c, jI f, jI 1, z]) (st' := []) (hp' := h2) rfl ?_
      refine c_m_lb_2 h2 N f P i hPw (jPe_fr hpe ((hfr2.pl 67 (by simp) (by simp)).trans (hfr.pl 67 (by simp) (by simp)))) (by omega) (fun l' b' c' z1' z' h' hmb' hl' hb' hfr' => ?_) 63 l b c 1 (z) h2 (by omega) hl hb (Or.inl ⟨by omega, by omega, hmb, fun m a b' => by omega⟩) a1 jFq.rf (by omega)
      refine jm_Ev.bl 2 (pc' := 20) (A' := [jR 56, jI i, jI N, jI l', jI b', jI c', jI (f + 1), z1', z']) (st' := []) (hp' := h') rfl ?_
      exact ih l' b' c' (f + 1) z1' z' h' (by omega) (by omega) hl' hb' hmb' (hfr.tr (hfr2.tr hfr' (V := [68, 69, 70]) (E := [26]) (by simp) (by simp) (by simp) (by simp)) (by simp) (by simp) (by simp) (by simp)) (by omega)
theorem c_m_lb_T (hp : jm_H) (K : Int → Int → Int) (q : List jT) (i s : Int) (hV : jVm hp i s q.length (jpx q) (jpy q) (jpl_ K q) (jpm K q)) (hPw : jPw q.length (jPP K q)) (hpe : jPe hp q.length (jPP K q)) (h : jm_H) (hfr : jFq hp h [68, 69, 70] [26]) (z2 z1 z : jm_V) : jm_Ev 166 124 [jR 56, jI i, jI (q.length : Int), jI (jlq K q), jI (jbq K q), jI (jdb q.length (jPP K q) (jlst q.length (jPP K q))).2, z2, z1, z] [] h (jlB hp K s i q) := by
  obtain ⟨es, eN, s0, s60, hi, hpt⟩ := id hV
  have hN4 := hPw.1
  have hlr := jlq_r hPw
  have hbr := jdb_r hPw
  refine jm_Ev.bl 4 (pc' := 130) (A' := [jR 56, jI i, jI (q.length : Int), jI (jlq K q), jI (jbq K q), jI ((jdb q.length (jPP K q) (jlst q.length (jPP K q))).2), z2, z1, z]) (st' := [jI (jlq K q), jI i, jR 71]) (hp' := h) rfl ?_
  refine jE_iast (n := 32) rfl rfl (by omega) ?_
  refine jm_Ev.bl 4 (pc' := 138) (A' := [jR 56, jI i, jI (q.length : Int), jI (jlq K q), jI (jbq K q), jI ((jdb q.length (jPP K q) (jlst q.length (jPP K q))).2), z2, z1, z]) (st' := [jI (jbq K q), jI i, jR 72]) (hp' := (jm_hs h 71 i (jlq K q))) rfl ?_
  refine jE_iast (n := 32) rfl rfl (by omega) ?_
  refine jm_Ev.bl 4 (pc' := 144) (A' := [jR 56, jI i, jI (q.length : Int), jI (jlq K q), jI (jbq K q), jI ((jdb q.length (jPP K q) (jlst q.length (jPP K q))).2), z2, z1, z]) (st' := [jI (jlq K q), jI ((jdb q.length (jPP K q) (jlst q.length (jPP K q))).2), jI i, jR 56]) (hp' := (jm_hs (jm_hs h 71 i (jlq K q)) 72 i (jbq K q))) rfl ?_
  refine jE_call (vs := [jR 56, jI i, jI ((jdb q.length (jPP K q) (jlst q.length (jPP K q))).2), jI (jlq K q)]) (r := []) (nx := 147) rfl (c_m_mark (jm_hs (jm_hs h 71 i (jlq K q)) 72 i (jbq K q)) q.length i s (jlq K q) (jdb q.length (jPP K q) (jlst q.length (jPP K q))).2 (jPP K q) hPw (jPe_fr hpe (hfr.pl 67 (by simp) (by simp))) ⟨hbr.1, hbr.2.1⟩ hlr hi ⟨s0, s60⟩ ((congrFun (hfr.pl 59 (by simp) (by simp)) i).trans es) ((congrFun (hfr.pl 60 (by simp) (by simp)) i).trans eN) (by rw [show (jlq K q).toNat = jlst q.length (jPP K q) by unfold jlq; omega]; exact hbr.2.2.2)) (fun rv144 h2 hh => ?_)
  obtain ⟨rfl, hmk, ho, hfr2⟩ := hh
  have ekq : (fun n => jdw q.length (jPP K q) (jdb q.length (jPP K q) (jlst q.length (jPP K q))).2 (jlq K q).toNat (jlq K q - 1 - n).toNat) = jkq K q := by
    funext n
    unfold jkq jdk
    rw [show (jlq K q).toNat = jlst q.length (jPP K q) by unfold jlq; omega]
    rfl
  rw [ekq] at hmk
  refine jE_ret rfl ⟨rfl, ⟨?_, ?_, hmk⟩, ?_, ?_, ?_⟩
  · rw [show h2 71 = _ from hfr2.pl 71 (by simp) (by simp)]
    show jm_hs h 71 i (jlq K q) 71 i = _
    rw [js_hs_eq, if_pos rfl]
  · rw [show h2 72 = _ from hfr2.pl 72 (by simp) (by simp), js_hs_eq, if_pos rfl]
  · intro j hj
    refine ⟨?_, ?_⟩
    · rw [show h2 71 = _ from hfr2.pl 71 (by simp) (by simp)]
      show jm_hs h 71 i (jlq K q) 71 j = _
      rw [js_hs_eq, if_neg hj]
      exact congrFun (hfr.pl 71 (by simp) (by simp)) j
    · rw [show h2 72 = _ from hfr2.pl 72 (by simp) (by simp), js_hs_eq, if_neg hj]
      exact congrFun (hfr.pl 72 (by simp) (by simp)) j
  · intro j hj
    exact (ho j hj).trans (congrFun (hfr.pl 65 (by simp) (by simp)) j)
  · exact (((hfr.wk (V := [65, 68, 69, 70, 71, 72]) (E := [26]) (by simp) (by simp)).set (by simp)).set (by simp)).tr hfr2 (by simp) (by simp) (by simp) (by simp)
theorem c_m_layBest (hp : jm_H) (K : Int → Int → Int) (q : List jT) (i s : Int) (hV : jVm hp i s q.length (jpx q) (jpy q) (jpl_ K q) (jpm K q)) (hPw : jPw q.length (jPP K q)) (hpe : jPe hp q.length (jPP K q)) : jm_Ev 166 0 [jR 56, jI i, jU, jU, jU, jU, jU, jU, jU] [] hp (jlB hp K s i q) := by
  obtain ⟨es, eN, s0, s60, hi, hpt⟩ := id hV
  have hN4 := hPw.1
  refine jm_Ev.bl 3 (pc' := 5) (A' := [jR 56, jI i, jU, jU, jU, jU, jU, jU, jU]) (st' := [jI i, jR 60]) (hp' := hp) rfl ?_
  refine jE_iald (n := 32) (f := hp 60) rfl rfl (by omega) ?_
  refine jE_top (w := (q.length : Int)) (eN) ?_
  refine jm_Ev.bl 11 (pc' := 20) (A' := [jR 56, jI i, jI (q.length : Int), jI ((q.length : Int) + 1), jI (-1), jI 0, jI 0, jU, jU]) (st' := []) (hp' := hp) rfl ?_
  refine c_m_lb_1 hp q.length (jPP K q) i hPw hpe (fun l b c f z1 z h hmb hfr => ?_) 61 (q.length + 1) (-1) 0 0 _ _ hp (by omega) (by omega) (by omega) (by omega) (jMb_0 hN4) jFq.rf (by omega)
  obtain ⟨e1, e2, e3⟩ := jMb_N hPw hmb
  rw [e1, e2, e3]
  exact c_m_lb_T hp K q i s hV hPw hpe h hfr _ _ _
