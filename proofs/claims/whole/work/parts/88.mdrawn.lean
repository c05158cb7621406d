/-! the model's copy, drawn, weight -/
def jmcp (hp : jm_H) (a b : Nat) (n : Int) : Option jm_V → jm_H → Prop := fun rv h => rv = none ∧ (∀ j, 0 ≤ j → j < n → h b j = hp a j) ∧ jFq hp h [b] []
theorem c_m_copy_L_58_73 (hp : jm_H) : ∀ (m : Nat) (i : Int) (h : jm_H), 0 ≤ i → i ≤ 25 → (∀ j, 0 ≤ j → j < i → h 73 j = hp 58 j) → jFq hp h [73] [] → 25 - i < m → jm_Ev 133 2 [jR 58, jR 73, jI i] [] h (jmcp hp 58 73 25) := by
  intro fu
  induction fu with
  | zero => intro i h h0 h1 hc hfr hm; omega
  | succ fu ih =>
    intro i h h0 h1 hc hfr hm
    refine jm_Ev.bl 3 (pc' := 5) (A' := [jR 58, jR 73, jI i]) (st' := [jI 25, jI i]) (hp' := h) rfl ?_
    refine jE_icmp_ge rfl (by omega) (by omega) (fun c5 => ?_) (fun c5 => ?_)
    · exact jE_ret rfl ⟨rfl, fun j j0 j1 => hc j j0 (by omega), hfr⟩
    · refine jm_Ev.bl 4 (pc' := 12) (A' := [jR 58, jR 73, jI i]) (st' := [jI i, jR 58, jI i, jR 73]) (hp' := h) rfl ?_
      refine jE_iald (n := 25) (f := h 58) rfl rfl (by omega) ?_
      refine jE_iast (n := 25) rfl rfl (by omega) ?_
      refine jm_Ev.bl 2 (pc' := 2) (A' := [jR 58, jR 73, jI (i + 1)]) (st' := []) (hp' := (jm_hs h 73 i (h 58 i))) rfl ?_
      exact ih (i + 1) _ (by omega) (by omega) (jhs_lt hc (congrFun (hfr.pl 58 (by simp) (by simp)) i)) (hfr.set (by simp)) (by omega)
theorem c_m_copy_58_73 (hp : jm_H) : jm_Ev 133 0 [jR 58, jR 73, jU] [] hp (jmcp hp 58 73 25) := by
  refine jm_Ev.bl 2 (pc' := 2) (A' := [jR 58, jR 73, jI 0]) (st' := []) (hp' := hp) rfl ?_
  exact c_m_copy_L_58_73 hp 26 0 hp (by omega) (by omega) (fun j a b => by omega) jFq.rf (by omega)
theorem c_m_copy_L_73_58 (hp : jm_H) : ∀ (m : Nat) (i : Int) (h : jm_H), 0 ≤ i → i ≤ 25 → (∀ j, 0 ≤ j → j < i → h 58 j = hp 73 j) → jFq hp h [58] [] → 25 - i < m → jm_Ev 133 2 [jR 73, jR 58, jI i] [] h (jmcp hp 73 58 25) := by
  intro fu
  induction fu with
  | zero => intro i h h0 h1 hc hfr hm; omega
  | succ fu ih =>
    intro i h h0 h1 hc hfr hm
    refine jm_Ev.bl 3 (pc' := 5) (A' := [jR 73, jR 58, jI i]) (st' := [jI 25, jI i]) (hp' := h) rfl ?_
    refine jE_icmp_ge rfl (by omega) (by omega) (fun c5 => ?_) (fun c5 => ?_)
    · exact jE_ret rfl ⟨rfl, fun j j0 j1 => hc j j0 (by omega), hfr⟩
    · refine jm_Ev.bl 4 (pc' := 12) (A' := [jR 73, jR 58, jI i]) (st' := [jI i, jR 73, jI i, jR 58]) (hp' := h) rfl ?_
      refine jE_iald (n := 25) (f := h 73) rfl rfl (by omega) ?_
      refine jE_iast (n := 25) rfl rfl (by omega) ?_
      refine jm_Ev.bl 2 (pc' := 2) (A' := [jR 73, jR 58, jI (i + 1)]) (st' := []) (hp' := (jm_hs h 58 i (h 73 i))) rfl ?_
      exact ih (i + 1) _ (by omega) (by omega) (jhs_lt hc (congrFun (hfr.pl 73 (by simp) (by simp)) i)) (hfr.set (by simp)) (by omega)
theorem c_m_copy_73_58 (hp : jm_H) : jm_Ev 133 0 [jR 73, jR 58, jU] [] hp (jmcp hp 73 58 25) := by
  refine jm_Ev.bl 2 (pc' := 2) (A' := [jR 73, jR 58, jI 0]) (st' := []) (hp' := hp) rfl ?_
  exact c_m_copy_L_73_58 hp 26 0 hp (by omega) (by omega) (fun j a b => by omega) jFq.rf (by omega)
theorem c_m_copy_L_58_76 (hp : jm_H) : ∀ (m : Nat) (i : Int) (h : jm_H), 0 ≤ i → i ≤ 25 → (∀ j, 0 ≤ j → j < i → h 76 j = hp 58 j) → jFq hp h [76] [] → 25 - i < m → jm_Ev 133 2 [jR 58, jR 76, jI i] [] h (jmcp hp 58 76 25) := by
  intro fu
  induction fu with
  | zero => intro i h h0 h1 hc hfr hm; omega
  | succ fu ih =>
    intro i h h0 h1 hc hfr hm
    refine jm_Ev.bl 3 (pc' := 5) (A' := [jR 58, jR 76, jI i]) (st' := [jI 25, jI i]) (hp' := h) rfl ?_
    refine jE_icmp_ge rfl (by omega) (by omega) (fun c5 => ?_) (fun c5 => ?_)
    · exact jE_ret rfl ⟨rfl, fun j j0 j1 => hc j j0 (by omega), hfr⟩
    · refine jm_Ev.bl 4 (pc' := 12) (A' := [jR 58, jR 76, jI i]) (st' := [jI i, jR 58, jI i, jR 76]) (hp' := h) rfl ?_
      refine jE_iald (n := 25) (f := h 58) rfl rfl (by omega) ?_
      refine jE_iast (n := 25) rfl rfl (by omega) ?_
      refine jm_Ev.bl 2 (pc' := 2) (A' := [jR 58, jR 76, jI (i + 1)]) (st' := []) (hp' := (jm_hs h 76 i (h 58 i))) rfl ?_
      exact ih (i + 1) _ (by omega) (by omega) (jhs_lt hc (congrFun (hfr.pl 58 (by simp) (by simp)) i)) (hfr.set (by simp)) (by omega)
theorem c_m_copy_58_76 (hp : jm_H) : jm_Ev 133 0 [jR 58, jR 76, jU] [] hp (jmcp hp 58 76 25) := by
  refine jm_Ev.bl 2 (pc' := 2) (A' := [jR 58, jR 76, jI 0]) (st' := []) (hp' := hp) rfl ?_
  exact c_m_copy_L_58_76 hp 26 0 hp (by omega) (by omega) (fun j a b => by omega) jFq.rf (by omega)
theorem c_m_copy_L_76_58 (hp : jm_H) : ∀ (m : Nat) (i : Int) (h : jm_H), 0 ≤ i → i ≤ 25 → (∀ j, 0 ≤ j → j < i → h 58 j = hp 76 j) → jFq hp h [58] [] → 25 - i < m → jm_Ev 133 2 [jR 76, jR 58, jI i] [] h (jmcp hp 76 58 25) := by
  intro fu
  induction fu with
  | zero => intro i h h0 h1 hc hfr hm; omega
  | succ fu ih =>
    intro i h h0 h1 hc hfr hm
    refine jm_Ev.bl 3 (pc' := 5) (A' := [jR 76, jR 58, jI i]) (st' := [jI 25, jI i]) (hp' := h) rfl ?_
    refine jE_icmp_ge rfl (by omega) (by omega) (fun c5 => ?_) (fun c5 => ?_)
    · exact jE_ret rfl ⟨rfl, fun j j0 j1 => hc j j0 (by omega), hfr⟩
    · refine jm_Ev.bl 4 (pc' := 12) (A' := [jR 76, jR 58, jI i]) (st' := [jI i, jR 76, jI i, jR 58]) (hp' := h) rfl ?_
      refine jE_iald (n := 25) (f := h 76) rfl rfl (by omega) ?_
      refine jE_iast (n := 25) rfl rfl (by omega) ?_
      refine jm_Ev.bl 2 (pc' := 2) (A' := [jR 76, jR 58, jI (i + 1)]) (st' := []) (hp' := (jm_hs h 58 i (h 76 i))) rfl ?_
      exact ih (i + 1) _ (by omega) (by omega) (jhs_lt hc (congrFun (hfr.pl 76 (by simp) (by simp)) i)) (hfr.set (by simp)) (by omega)
theorem c_m_copy_76_58 (hp : jm_H) : jm_Ev 133 0 [jR 76, jR 58, jU] [] hp (jmcp hp 76 58 25) := by
  refine jm_Ev.bl 2 (pc' := 2) (A' := [jR 76, jR 58, jI 0]) (st' := []) (hp' := hp) rfl ?_
  exact c_m_copy_L_76_58 hp 26 0 hp (by omega) (by omega) (fun j a b => by omega) jFq.rf (by omega)
theorem c_m_copy_L_75_77 (hp : jm_H) : ∀ (m : Nat) (i : Int) (h : jm_H), 0 ≤ i → i ≤ 18 → (∀ j, 0 ≤ j → j < i → h 77 j = hp 75 j) → jFq hp h [77] [] → 18 - i < m → jm_Ev 133 2 [jR 75, jR 77, jI i] [] h (jmcp hp 75 77 18) := by
  intro fu
  induction fu with
  | zero => intro i h h0 h1 hc hfr hm; omega
  | succ fu ih =>
    intro i h h0 h1 hc hfr hm
    refine jm_Ev.bl 3 (pc' := 5) (A' := [jR 75, jR 77, jI i]) (st' := [jI 18, jI i]) (hp' := h) rfl ?_
    refine jE_icmp_ge rfl (by omega) (by omega) (fun c5 => ?_) (fun c5 => ?_)
    · exact jE_ret rfl ⟨rfl, fun j j0 j1 => hc j j0 (by omega), hfr⟩
    · refine jm_Ev.bl 4 (pc' := 12) (A' := [jR 75, jR 77, jI i]) (st' := [jI i, jR 75, jI i, jR 77]) (hp' := h) rfl ?_
      refine jE_iald (n := 18) (f := h 75) rfl rfl (by omega) ?_
      refine jE_iast (n := 18) rfl rfl (by omega) ?_
      refine jm_Ev.bl 2 (pc' := 2) (A' := [jR 75, jR 77, jI (i + 1)]) (st' := []) (hp' := (jm_hs h 77 i (h 75 i))) rfl ?_
      exact ih (i + 1) _ (by omega) (by omega) (jhs_lt hc (congrFun (hfr.pl 75 (by simp) (by simp)) i)) (hfr.set (by simp)) (by omega)
theorem c_m_copy_75_77 (hp : jm_H) : jm_Ev 133 0 [jR 75, jR 77, jU] [] hp (jmcp hp 75 77 18) := by
  refine jm_Ev.bl 2 (pc' := 2) (A' := [jR 75, jR 77, jI 0]) (st' := []) (hp' := hp) rfl ?_
  exact c_m_copy_L_75_77 hp 19 0 hp (by omega) (by omega) (fun j a b => by omega) jFq.rf (by omega)
theorem c_m_copy_L_77_75 (hp : jm_H) : ∀ (m : Nat) (i : Int) (h : jm_H), 0 ≤ i → i ≤ 18 → (∀ j, 0 ≤ j → j < i → h 75 j = hp 77 j) → jFq hp h [75] [] → 18 - i < m → jm_Ev 133 2 [jR 77, jR 75, jI i] [] h (jmcp hp 77 75 18) := by
  intro fu
  induction fu with
  | zero => intro i h h0 h1 hc hfr hm; omega
  | succ fu ih =>
    intro i h h0 h1 hc hfr hm
    refine jm_Ev.bl 3 (pc' := 5) (A' := [jR 77, jR 75, jI i]) (st' := [jI 18, jI i]) (hp' := h) rfl ?_
    refine jE_icmp_ge rfl (by omega) (by omega) (fun c5 => ?_) (fun c5 => ?_)
    · exact jE_ret rfl ⟨rfl, fun j j0 j1 => hc j j0 (by omega), hfr⟩
    · refine jm_Ev.bl 4 (pc' := 12) (A' := [jR 77, jR 75, jI i]) (st' := [jI i, jR 77, jI i, jR 75]) (hp' := h) rfl ?_
      refine jE_iald (n := 18) (f := h 77) rfl rfl (by omega) ?_
      refine jE_iast (n := 18) rfl rfl (by omega) ?_
      refine jm_Ev.bl 2 (pc' := 2) (A' := [jR 77, jR 75, jI (i + 1)]) (st' := []) (hp' := (jm_hs h 75 i (h 77 i))) rfl ?_
      exact ih (i + 1) _ (by omega) (by omega) (jhs_lt hc (congrFun (hfr.pl 77 (by simp) (by simp)) i)) (hfr.set (by simp)) (by omega)
theorem c_m_copy_77_75 (hp : jm_H) : jm_Ev 133 0 [jR 77, jR 75, jU] [] hp (jmcp hp 77 75 18) := by
  refine jm_Ev.bl 2 (pc' := 2) (A' := [jR 77, jR 75, jI 0]) (st' := []) (hp' := hp) rfl ?_
  exact c_m_copy_L_77_75 hp 19 0 hp (by omega) (by omega) (fun j a b => by omega) jFq.rf (by omega)
theorem c_m_draw (hp : jm_H) (s : Int) (hs : 0 ≤ s ∧ s ≤ 2147483647) (e32 : hp 56 32 = s) : jm_Ev 205 0 [jR 56, jI 3] [] hp (jK (some (jI (jlcg s / 65536 % 3))) (jm_hs hp 56 32 (jlcg s))) := by
  refine jm_Ev.bl 4 (pc' := 8) (A' := [jR 56, jI 3]) (st' := [jI (hp 56 32), jL 1103515245, jR 56]) (hp' := hp) rfl ?_
  rw [e32]
  refine jE_i2l rfl (by omega) ?_
  refine jm_Ev.bl 6 (pc' := 19) (A' := [jR 56, jI 3]) (st' := [jI ((Int64.ofInt ((1103515245 * s) + 12345) &&& Int64.ofInt 2147483647).toInt), jR 56]) (hp' := hp) rfl ?_
  have nxr := jlcg_r s
  refine jE_top (w := jlcg s) rfl ?_
  refine jm_Ev.bl 4 (pc' := 29) (A' := [jR 56, jI 3]) (st' := [jI 65536, jI (jlcg s)]) (hp' := (jm_hs hp 56 32 (jlcg s))) rfl ?_
  refine jE_idiv rfl (by omega) (by omega) ?_
  refine jm_Ev.bl 1 (pc' := 31) (A' := [jR 56, jI 3]) (st' := [jI 3, jI ((jlcg s) / 65536)]) (hp' := (jm_hs hp 56 32 (jlcg s))) rfl ?_
  refine jE_irem rfl (by omega) (by omega) ?_
  exact jE_ret rfl ⟨rfl, rfl⟩
def jDi (hp h : jm_H) : Prop := h 56 6 = 4 ∧ h 56 7 = 3 ∧ (∀ j, 0 ≤ j → j < 25 → h 73 j = hp 58 j) ∧ (∀ j, 0 ≤ j → j < 25 → -1 ≤ h 58 j ∧ h 58 j ≤ 4) ∧ jFq hp h [58, 73, 59, 60, 61, 62, 63, 64, 65, 66, 67, 68, 69, 70, 71, 72] [6, 7, 10, 11, 26, 32]
def jmdr (hp : jm_H) (v : Int) : Option jm_V → jm_H → Prop := fun rv h => rv = some (jI v) ∧ (∀ j, 0 ≤ j → j < 25 → h 58 j = hp 58 j) ∧ h 56 6 = hp 56 6 ∧ h 56 7 = hp 56 7 ∧ jMC h ∧ jFq hp h [58, 73, 59, 60, 61, 62, 63, 64, 65, 66, 67, 68, 69, 70, 71, 72] [6, 7, 10, 11, 26, 32]
theorem c_m_drawn_2 {Q : Option jm_V → jm_H → Prop} (hp : jm_H) (t s wt : Int) (ht : 1 ≤ t ∧ t ≤ 3) (hs : 0 ≤ s ∧ s ≤ 2147483647) (hw : 0 ≤ wt ∧ wt ≤ 2) (i : Nat) (kk : ∀ z h, jDi hp h → h 56 32 = jsd s (12 * i + 12) → (∀ j, 0 ≤ j → j < 12 → h 58 j = jdd (jsd s (12 * i)) j) → jm_Ev 206 120 [jR 56, jI t, jI s, jI wt, jI (hp 56 6), jI (hp 56 7), jI (jdrc s i), jI (jdrn s i), jI (i : Int), z] [] h Q) : ∀ (m : Nat) (k : Int) (h : jm_H), 0 ≤ k → k ≤ 12 → jDi hp h → h 56 32 = (jsd s (12 * i + k.toNat)) → (∀ j, 0 ≤ j → j < k → h 58 j = jdd (jsd s (12 * i)) j) → 12 - k < m → jm_Ev 206 87 [jR 56, jI t, jI s, jI wt, jI (hp 56 6), jI (hp 56 7), jI (jdrc s i), jI (jdrn s i), jI (i : Int), jI k] [] h Q := by
  intro fu
  induction fu with
  | zero => intro k h h0 h1 hDi e32 hd hm; omega
  | succ fu ih =>
    intro k h h0 h1 hDi e32 hd hm
    refine jm_Ev.bl 2 (pc' := 91) (A' := [jR 56, jI t, jI s, jI wt, jI (hp 56 6), jI (hp 56 7), jI (jdrc s i), jI (jdrn s i), jI (i : Int), jI k]) (st' := [jI 12, jI k]) (hp' := h) rfl ?_
    refine jE_icmp_ge rfl (by omega) (by omega) (fun c91 => ?_) (fun c91 => ?_)
    · exact kk (jI k) h hDi (by rw [e32, show k = 12 by omega]; rfl) (fun j j0 j1 => hd j j0 (by omega))
    · have nxr := jlcg_r (jsd s (12 * i + k.toNat))
      refine jm_Ev.bl 5 (pc' := 102) (A' := [jR 56, jI t, jI s, jI wt, jI (hp 56 6), jI (hp 56 7), jI (jdrc s i), jI (jdrn s i), jI (i : Int), jI k]) (st' := [jI 3, jR 56, jI k, jR 58]) (hp' := h) rfl ?_
      refine jE_callI (vs := [jR 56, jI 3]) (r := [jI k, jR 58]) (nx := 105) (v := jI (jlcg (jsd s (12 * i + k.toNat)) / 65536 % 3)) (hp1 := (jm_hs h 56 32 (jlcg (jsd s (12 * i + k.toNat))))) rfl (c_m_draw h (jsd s (12 * i + k.toNat)) (jsd_r hs.1 hs.2 _) e32) ?_
      refine jE_if_ne rfl (by omega) (fun c105 => ?_) (fun c105 => ?_)
      · refine jm_Ev.bl 1 (pc' := 113) (A' := [jR 56, jI t, jI s, jI wt, jI (hp 56 6), jI (hp 56 7), jI (jdrc s i), jI (jdrn s i), jI (i : Int), jI k]) (st' := [jI 0, jI k, jR 58]) (hp' := (jm_hs h 56 32 (jlcg (jsd s (12 * i + k.toNat))))) rfl ?_
        refine jE_iast (n := 25) rfl rfl (by omega) ?_
        refine jm_Ev.bl 2 (pc' := 87) (A' := [jR 56, jI t, jI s, jI wt, jI (hp 56 6), jI (hp 56 7), jI (jdrc s i), jI (jdrn s i), jI (i : Int), jI (k + 1)]) (st' := []) (hp' := (jm_hs (jm_hs h 56 32 (jlcg (jsd s (12 * i + k.toNat)))) 58 k 0)) rfl ?_
        exact ih (k + 1) _ (by omega) (by omega) ⟨hDi.1, hDi.2.1, hDi.2.2.1, jhs_in (h := jm_hs h 56 32 (jlcg (jsd s (12 * i + k.toNat)))) hDi.2.2.2.1 ⟨by omega, by omega⟩, (hDi.2.2.2.2.sf (by simp)).set (by simp)⟩ (by rw [show 12 * i + (k + 1).toNat = (12 * i + k.toNat) + 1 by omega]; rfl) (jhs_lt (h := jm_hs h 56 32 (jlcg (jsd s (12 * i + k.toNat)))) hd (by unfold jdd; rw [jsd_a, show 12 * i + (k + 1).toNat = (12 * i + k.toNat) + 1 by omega, if_neg (show ¬ jsd s (12 * i + k.toNat + 1) / 65536 % 3 = 0 from c105)])) (by omega)
      · refine jm_Ev.bl 2 (pc' := 113) (A' := [jR 56, jI t, jI s, jI wt, jI (hp 56 6), jI (hp 56 7), jI (jdrc s i), jI (jdrn s i), jI (i : Int), jI k]) (st' := [jI (-1), jI k, jR 58]) (hp' := (jm_hs h 56 32 (jlcg (jsd s (12 * i + k.toNat))))) rfl ?_
        refine jE_iast (n := 25) rfl rfl (by omega) ?_
        refine jm_Ev.bl 2 (pc' := 87) (A' := [jR 56, jI t, jI s, jI wt, jI (hp 56 6), jI (hp 56 7), jI (jdrc s i), jI (jdrn s i), jI (i : Int), jI (k + 1)]) (st' := []) (hp' := (jm_hs (jm_hs h 56 32 (jlcg (jsd s (12 * i + k.toNat)))) 58 k (-1))) rfl ?_
        exact ih (k + 1) _ (by omega) (by omega) ⟨hDi.1, hDi.2.1, hDi.2.2.1, jhs_in (h := jm_hs h 56 32 (jlcg (jsd s (12 * i + k.toNat)))) hDi.2.2.2.1 ⟨by omega, by omega⟩, (hDi.2.2.2.2.sf (by simp)).set (by simp)⟩ (by rw [show 12 * i + (k + 1).toNat = (12 * i + k.toNat) + 1 by omega]; rfl) (jhs_lt (h := jm_hs h 56 32 (jlcg (jsd s (12 * i + k.toNat)))) hd (by unfold jdd; rw [jsd_a, show 12 * i + (k + 1).toNat = (12 * i + k.toNat) + 1 by omega, if_pos (show  jsd s (12 * i + k.toNat + 1) / 65536 % 3 = 0 from c105)])) (by omega)
theorem c_m_drawn_1 (hp : jm_H) (t s wt : Int) (ht : 1 ≤ t ∧ t ≤ 3) (hs : 0 ≤ s ∧ s ≤ 2147483647) (hw : 0 ≤ wt ∧ wt ≤ 2) (hM : jMG hp) (v : Int) (hv : v = jdra s t.toNat wt) : ∀ (m : Nat) (i : Nat) (z : jm_V) (h : jm_H), (i : Int) ≤ t → jDi hp h → h 56 32 = (jsd s (12 * i)) → t - i < m → jm_Ev 206 78 [jR 56, jI t, jI s, jI wt, jI (hp 56 6), jI (hp 56 7), jI (jdrc s i), jI (jdrn s i), jI (i : Int), z] [] h (jmdr hp v) := by
  intro fu
  induction fu with
  | zero => intro i z h h1 hDi e32 hm; omega
  | succ fu ih =>
    intro i z h h1 hDi e32 hm
    refine jm_Ev.bl 2 (pc' := 81) (A' := [jR 56, jI t, jI s, jI wt, jI (hp 56 6), jI (hp 56 7), jI (jdrc s i), jI (jdrn s i), jI (i : Int), z]) (st' := [jI t, jI (i : Int)]) (hp' := h) rfl ?_
    refine jE_icmp_ge rfl (by omega) (by omega) (fun c81 => ?_) (fun c81 => ?_)
    · refine jm_Ev.bl 4 (pc' := 156) (A' := [jR 56, jI t, jI s, jI wt, jI (hp 56 6), jI (hp 56 7), jI (jdrc s i), jI (jdrn s i), jI (i : Int), z]) (st' := [jR 58, jR 73]) (hp' := h) rfl ?_
      refine jE_call (vs := [jR 73, jR 58]) (r := []) (nx := 159) rfl (c_m_copy_73_58 h) (fun rv156 h2 hh => ?_)
      obtain ⟨rfl, hcp, hf2⟩ := hh
      refine jm_Ev.bl 10 (pc' := 177) (A' := [jR 56, jI t, jI s, jI wt, jI (hp 56 6), jI (hp 56 7), jI (jdrc s i), jI (jdrn s i), jI (i : Int), z]) (st' := [jI wt]) (hp' := (jm_hs (jm_hs (jm_hs h2 56 6 (hp 56 6)) 56 7 (hp 56 7)) 56 10 1)) rfl ?_
      refine jE_if_ne rfl (by omega) (fun c177 => ?_) (fun c177 => ?_)
      · refine jm_Ev.bl 2 (pc' := 187) (A' := [jR 56, jI t, jI s, jI wt, jI (hp 56 6), jI (hp 56 7), jI (jdrc s i), jI (jdrn s i), jI (i : Int), z]) (st' := [jI 1, jI wt]) (hp' := (jm_hs (jm_hs (jm_hs h2 56 6 (hp 56 6)) 56 7 (hp 56 7)) 56 10 1)) rfl ?_
        refine jE_icmp_ne rfl (by omega) (by omega) (fun c187 => ?_) (fun c187 => ?_)
        · refine jm_Ev.bl 2 (pc' := 199) (A' := [jR 56, jI t, jI s, jI wt, jI (hp 56 6), jI (hp 56 7), jI (jdrc s i), jI (jdrn s i), jI (i : Int), z]) (st' := [jI (h2 56 32)]) (hp' := (jm_hs (jm_hs (jm_hs h2 56 6 (hp 56 6)) 56 7 (hp 56 7)) 56 10 1)) rfl ?_
          have ed : ∀ j, 0 ≤ j → j < 25 → h2 58 j = hp 58 j := fun j a b => (hcp j a b).trans (hDi.2.2.1 j a b)
          exact jE_ret rfl ⟨jrI (by rw [hv, show t.toNat = i by omega]; unfold jdra; rw [if_neg c177, if_neg c187]; exact (hf2.fd 32 (by simp) (by simp)).trans e32), ed, rfl, rfl, ⟨⟨hM.1, hM.2.1, hM.2.2.1, hM.2.2.2.1, fun j a b => by show -1 ≤ h2 58 j ∧ h2 58 j ≤ 4; rw [ed j a b]; exact hM.2.2.2.2 j a b⟩, Or.inr rfl, fun z => absurd (show (1 : Int) = 0 from z) (by decide)⟩, (((hDi.2.2.2.2.tr hf2 (V := [58, 73, 59, 60, 61, 62, 63, 64, 65, 66, 67, 68, 69, 70, 71, 72]) (E := [6, 7, 10, 11, 26, 32]) (by simp) (by simp) (by simp) (by simp)).sf (by simp)).sf (by simp)).sf (by simp)⟩
        · refine jm_Ev.bl 2 (pc' := 199) (A' := [jR 56, jI t, jI s, jI wt, jI (hp 56 6), jI (hp 56 7), jI (jdrc s i), jI (jdrn s i), jI (i : Int), z]) (st' := [jI (jdrn s i)]) (hp' := (jm_hs (jm_hs (jm_hs h2 56 6 (hp 56 6)) 56 7 (hp 56 7)) 56 10 1)) rfl ?_
          have ed : ∀ j, 0 ≤ j → j < 25 → h2 58 j = hp 58 j := fun j a b => (hcp j a b).trans (hDi.2.2.1 j a b)
          exact jE_ret rfl ⟨jrI (by rw [hv, show t.toNat = i by omega]; unfold jdra; rw [if_neg c177, if_pos c187]), ed, rfl, rfl, ⟨⟨hM.1, hM.2.1, hM.2.2.1, hM.2.2.2.1, fun j a b => by show -1 ≤ h2 58 j ∧ h2 58 j ≤ 4; rw [ed j a b]; exact hM.2.2.2.2 j a b⟩, Or.inr rfl, fun z => absurd (show (1 : Int) = 0 from z) (by decide)⟩, (((hDi.2.2.2.2.tr hf2 (V := [58, 73, 59, 60, 61, 62, 63, 64, 65, 66, 67, 68, 69, 70, 71, 72]) (E := [6, 7, 10, 11, 26, 32]) (by simp) (by simp) (by simp) (by simp)).sf (by simp)).sf (by simp)).sf (by simp)⟩
      · refine jm_Ev.bl 2 (pc' := 199) (A' := [jR 56, jI t, jI s, jI wt, jI (hp 56 6), jI (hp 56 7), jI (jdrc s i), jI (jdrn s i), jI (i : Int), z]) (st' := [jI (jdrc s i)]) (hp' := (jm_hs (jm_hs (jm_hs h2 56 6 (hp 56 6)) 56 7 (hp 56 7)) 56 10 1)) rfl ?_
        have ed : ∀ j, 0 ≤ j → j < 25 → h2 58 j = hp 58 j := fun j a b => (hcp j a b).trans (hDi.2.2.1 j a b)
        exact jE_ret rfl ⟨jrI (by rw [hv, show t.toNat = i by omega]; unfold jdra; rw [if_pos c177]), ed, rfl, rfl, ⟨⟨hM.1, hM.2.1, hM.2.2.1, hM.2.2.2.1, fun j a b => by show -1 ≤ h2 58 j ∧ h2 58 j ≤ 4; rw [ed j a b]; exact hM.2.2.2.2 j a b⟩, Or.inr rfl, fun z => absurd (show (1 : Int) = 0 from z) (by decide)⟩, (((hDi.2.2.2.2.tr hf2 (V := [58, 73, 59, 60, 61, 62, 63, 64, 65, 66, 67, 68, 69, 70, 71, 72]) (E := [6, 7, 10, 11, 26, 32]) (by simp) (by simp) (by simp) (by simp)).sf (by simp)).sf (by simp)).sf (by simp)⟩
    · refine jm_Ev.bl 2 (pc' := 87) (A' := [jR 56, jI t, jI s, jI wt, jI (hp 56 6), jI (hp 56 7), jI (jdrc s i), jI (jdrn s i), jI (i : Int), jI 0]) (st' := []) (hp' := h) rfl ?_
      refine c_m_drawn_2 hp t s wt ht hs hw i (fun z2 h2 hDi2 e322 hd2 => ?_) 13 0 h (by omega) (by omega) hDi (by rw [e32]; rfl) (fun j a b => by omega) (by omega)
      have d1 := hDi2.1
      have d2 := hDi2.2.1
      refine jm_Ev.bl 1 (pc' := 121) (A' := [jR 56, jI t, jI s, jI wt, jI (hp 56 6), jI (hp 56 7), jI (jdrc s i), jI (jdrn s i), jI (i : Int), z2]) (st' := [jR 56]) (hp' := h2) rfl ?_
      refine jE_call (vs := [jR 56]) (r := []) (nx := 124) rfl (c_m_layAll h2 ⟨by omega, by omega, by omega, by omega, hDi2.2.2.2.1⟩) (fun rv121 h3 hh => ?_)
      obtain ⟨rfl, hL, hf3⟩ := hh
      have eK : jmK h2 = (jgk 4 3 (jdd (jsd s (12 * i)))) := by unfold jmK; rw [d1, d2]; exact jgk_cg (fun j j0 j1 => hd2 j j0 (by omega))
      have eO : jmO h2 = jdrO (jsd s (12 * i)) := by unfold jmO jdrO; rw [eK]
      rw [eK, eO] at hL
      have hl15 : (jdrO (jsd s (12 * i))).length ≤ 15 := jInv_15 (jK5_of (w := 4) (h := 3) (by omega) (by omega)) (jSc_inv (jK5_of (by omega) (by omega)) 144)
      refine jm_Ev.bl 2 (pc' := 127) (A' := [jR 56, jI t, jI s, jI wt, jI (hp 56 6), jI (hp 56 7), jI (jdrc s i), jI (jdrn s i), jI (i : Int), z2]) (st' := [jR 56, jI (jdrc s i)]) (hp' := h3) rfl ?_
      refine jE_callI (vs := [jR 56]) (r := [jI (jdrc s i)]) (nx := 130) (v := jI (jcor 4 3 (jdd (jsd s (12 * i))))) (hp1 := h3) rfl (c_m_cornersAll h3 (jgk 4 3 (jdd (jsd s (12 * i)))) (jdrO (jsd s (12 * i))) hL hl15) ?_
      refine jm_Ev.bl 5 (pc' := 139) (A' := [jR 56, jI t, jI s, jI wt, jI (hp 56 6), jI (hp 56 7), jI ((jdrc s i) + (jcor 4 3 (jdd (jsd s (12 * i))))), jI (jdrn s i), jI (i : Int), z2]) (st' := [jI (h3 56 11), jI (jdrn s i)]) (hp' := h3) rfl ?_
      rw [show h3 56 11 = ((jdrO (jsd s (12 * i))).length : Int) from hL.2.1.1]
      refine jm_Ev.bl 4 (pc' := 78) (A' := [jR 56, jI t, jI s, jI wt, jI (hp 56 6), jI (hp 56 7), jI ((jdrc s i) + (jcor 4 3 (jdd (jsd s (12 * i))))), jI ((jdrn s i) + ((jdrO (jsd s (12 * i))).length : Int)), jI ((i : Int) + 1), z2]) (st' := []) (hp' := h3) rfl ?_
      have zz := ih (i + 1) (z2) h3 (by omega) ⟨(hf3.fd 6 (by simp) (by simp)).trans d1, (hf3.fd 7 (by simp) (by simp)).trans d2, fun j a b => (congrFun (hf3.pl 73 (by simp) (by simp)) j).trans (hDi2.2.2.1 j a b), fun j a b => by rw [show h3 58 = h2 58 from hf3.pl 58 (by simp) (by simp)]; exact hDi2.2.2.2.1 j a b, hDi2.2.2.2.2.tr hf3 (by simp) (by simp) (by simp) (by simp)⟩ ((hf3.fd 32 (by simp) (by simp)).trans e322) (by omega)
      rw [show ((i + 1 : Nat) : Int) = (i : Int) + 1 by omega] at zz
      exact zz
theorem c_m_drawn (hp : jm_H) (hC : jMC hp) (t s wt : Int) (ht : jR32 t) (hs : jR32 s) (hw : jR32 wt) : jm_Ev 206 0 [jR 56, jI t, jI s, jI wt, jU, jU, jU, jU, jU, jU] [] hp (jmdr hp (jdrw t s wt)) := by
  refine jm_Ev.bl 1 (pc' := 1) (A' := [jR 56, jI t, jI s, jI wt, jU, jU, jU, jU, jU, jU]) (st' := [jI t]) (hp' := hp) rfl ?_
  refine jE_i2l rfl (by omega) ?_
  refine jm_Ev.bl 2 (pc' := 6) (A' := [jR 56, jI t, jI s, jI wt, jU, jU, jU, jU, jU, jU]) (st' := [jL 3, jL 1, jL t]) (hp' := hp) rfl ?_
  refine jE_callI (vs := [jL t, jL 1, jL 3]) (r := []) (nx := 9) (v := jI (jb (decide (1 ≤ t ∧ t ≤ 3)))) (hp1 := hp) rfl (c_m_in hp t 1 3 (by omega) (by omega) (by omega)) ?_
  refine jE_ifd_eq rfl (fun c9 => ?_) (fun c9 => ?_)
  · refine jm_Ev.bl 1 (pc' := 30) (A' := [jR 56, jI t, jI s, jI wt, jU, jU, jU, jU, jU, jU]) (st' := [jI (-102)]) (hp' := hp) rfl ?_
    exact jE_ret rfl ⟨jrI (by unfold jdrw; rw [if_neg (fun z => by omega)]), fun _ _ _ => rfl, rfl, rfl, hC, jFq.rf⟩
  · refine jm_Ev.bl 1 (pc' := 13) (A' := [jR 56, jI t, jI s, jI wt, jU, jU, jU, jU, jU, jU]) (st' := [jI s]) (hp' := hp) rfl ?_
    refine jE_if_lt rfl (by omega) (fun c13 => ?_) (fun c13 => ?_)
    · refine jm_Ev.bl 1 (pc' := 30) (A' := [jR 56, jI t, jI s, jI wt, jU, jU, jU, jU, jU, jU]) (st' := [jI (-102)]) (hp' := hp) rfl ?_
      exact jE_ret rfl ⟨jrI (by unfold jdrw; rw [if_neg (fun z => by omega)]), fun _ _ _ => rfl, rfl, rfl, hC, jFq.rf⟩
    · refine jm_Ev.bl 1 (pc' := 17) (A' := [jR 56, jI t, jI s, jI wt, jU, jU, jU, jU, jU, jU]) (st' := [jI wt]) (hp' := hp) rfl ?_
      refine jE_i2l rfl (by omega) ?_
      refine jm_Ev.bl 2 (pc' := 22) (A' := [jR 56, jI t, jI s, jI wt, jU, jU, jU, jU, jU, jU]) (st' := [jL 2, jL 0, jL wt]) (hp' := hp) rfl ?_
      refine jE_callI (vs := [jL wt, jL 0, jL 2]) (r := []) (nx := 25) (v := jI (jb (decide (0 ≤ wt ∧ wt ≤ 2)))) (hp1 := hp) rfl (c_m_in hp wt 0 2 (by omega) (by omega) (by omega)) ?_
      refine jE_ifd_ne rfl (fun c25 => ?_) (fun c25 => ?_)
      · refine jm_Ev.bl 4 (pc' := 39) (A' := [jR 56, jI t, jI s, jI wt, jU, jU, jU, jU, jU, jU]) (st' := [jR 73, jR 58]) (hp' := hp) rfl ?_
        refine jE_call (vs := [jR 58, jR 73]) (r := []) (nx := 42) rfl (c_m_copy_58_73 hp) (fun rv39 h hh => ?_)
        obtain ⟨rfl, hcp, hfr⟩ := hh
        refine jm_Ev.bl 2 (pc' := 46) (A' := [jR 56, jI t, jI s, jI wt, jU, jU, jU, jU, jU, jU]) (st' := [jI (h 56 6)]) (hp' := h) rfl ?_
        rw [hfr.fd 6 (by simp) (by simp)]
        refine jm_Ev.bl 3 (pc' := 52) (A' := [jR 56, jI t, jI s, jI wt, jI (hp 56 6), jU, jU, jU, jU, jU]) (st' := [jI (h 56 7)]) (hp' := h) rfl ?_
        rw [hfr.fd 7 (by simp) (by simp)]
        refine jm_Ev.bl 16 (pc' := 78) (A' := [jR 56, jI t, jI s, jI wt, jI (hp 56 6), jI (hp 56 7), jI 0, jI 0, jI 0, jU]) (st' := []) (hp' := (jm_hs (jm_hs (jm_hs h 56 6 4) 56 7 3) 56 32 s)) rfl ?_
        exact c_m_drawn_1 hp t s wt (by omega) (by omega) (by omega) hC.1 _ (by unfold jdrw; rw [if_pos ⟨by omega, by omega, by omega, by omega, by omega⟩]) 4 0 jU _ (by omega) ⟨rfl, rfl, fun j a b => hcp j a b, fun j a b => by show -1 ≤ h 58 j ∧ h 58 j ≤ 4; rw [show h 58 = hp 58 from hfr.pl 58 (by simp) (by simp)]; exact hC.1.2.2.2.2 j a b, (((hfr.wk (V := [58, 73, 59, 60, 61, 62, 63, 64, 65, 66, 67, 68, 69, 70, 71, 72]) (E := [6, 7, 10, 11, 26, 32]) (by simp) (by simp)).sf (by simp)).sf (by simp)).sf (by simp)⟩ rfl (by omega)
      · refine jm_Ev.bl 1 (pc' := 30) (A' := [jR 56, jI t, jI s, jI wt, jU, jU, jU, jU, jU, jU]) (st' := [jI (-102)]) (hp' := hp) rfl ?_
        exact jE_ret rfl ⟨jrI (by unfold jdrw; rw [if_neg (fun z => by omega)]), fun _ _ _ => rfl, rfl, rfl, hC, jFq.rf⟩
