/-! the class's canJoin -/
def jVo_20 (h : jm_H) (i s N : Int) (X Y L M : Int → Int) : Prop := h 21 i = s ∧ h 22 i = N ∧ 0 ≤ s ∧ s + N ≤ 60 ∧ (0 ≤ i ∧ i < h 20 0 ∧ h 20 0 ≤ 15) ∧ ∀ n, 0 ≤ n → n < N → h 24 (s + n) = X n ∧ h 25 (s + n) = Y n ∧ h 27 (s + n) = L n ∧ h 28 (s + n) = M n
theorem c_o_can_L_20 (hp : jm_H) (i s N : Int) (X Y L M : Int → Int) (hV : jVo_20 hp i s N X Y L M) (hW : jWy N X Y L M) (a b : Int) (ha : 0 ≤ a ∧ a < N) (hb : 0 ≤ b ∧ b < N) (hsp : jspan X Y a b ≠ 0) : ∀ (m : Nat) (n : Int) (z1 z2 : jm_V), 1 ≤ n → n ≤ jstp2 N a b → jcs N X Y L M a b (n - 1).toNat = true → jstp2 N a b - n < m → jm_Ev 73 94 [jR 20, jI i, jI a, jI b, jI s, jI N, jI (X a), jI (Y a), jI (X b - X a), jI (Y b - Y a), jI (jspan X Y a b), jI (jstp2 N a b), jI n, z1, z2] [] hp (jK (some (jI (jb (jcan N X Y L M a b)))) hp) := by
  obtain ⟨es, eN, s0, s60, hi, hpt⟩ := id hV
  have hN := hW.1
  have hN6 := hW.2.1
  have sp := jspan_r hW ha.1 ha.2 hb.1 hb.2
  have pa := hpt a ha.1 ha.2
  have pb := hpt b hb.1 hb.2
  have ra := hW.2.2 a ha.1 ha.2
  have rb := hW.2.2 b hb.1 hb.2
  have hst2 : 1 ≤ jstp2 N a b ∧ jstp2 N a b ≤ N := by unfold jstp2; split <;> omega
  intro n
  induction n with
  | zero => intro n z1 z2 hn0 hn1 hs hm; omega
  | succ n ih =>
    intro n z1 z2 hn0 hn1 hs hm
    refine jm_Ev.bl 2 (pc' := 98) (A' := [jR 20, jI i, jI a, jI b, jI s, jI N, jI (X a), jI (Y a), jI (X b - X a), jI (Y b - Y a), jI (jspan X Y a b), jI (jstp2 N a b), jI n, z1, z2]) (st' := [jI (jstp2 N a b), jI n]) (hp' := hp) rfl ?_
    refine jE_icmp_ge rfl (by omega) (by omega) (fun c98 => ?_) (fun c98 => ?_)
    · refine jm_Ev.bl 1 (pc' := 211) (A' := [jR 20, jI i, jI a, jI b, jI s, jI N, jI (X a), jI (Y a), jI (X b - X a), jI (Y b - Y a), jI (jspan X Y a b), jI (jstp2 N a b), jI n, z1, z2]) (st' := [jI 1]) (hp' := hp) rfl ?_
      exact jE_ret rfl ⟨jrI (by unfold jcan; rw [decide_eq_true hsp, show (jstp2 N a b - 1).toNat = (n - 1).toNat by omega, hs]; rfl), rfl⟩
    · refine jm_Ev.bl 5 (pc' := 109) (A' := [jR 20, jI i, jI a, jI b, jI s, jI N, jI (X a), jI (Y a), jI (X b - X a), jI (Y b - Y a), jI (jspan X Y a b), jI (jstp2 N a b), jI n, z1, z2]) (st' := [jI N, jI (a + n), jI s]) (hp' := hp) rfl ?_
      refine jE_icmp_ge rfl (by omega) (by omega) (fun c109 => ?_) (fun c109 => ?_)
      · refine jm_Ev.bl 7 (pc' := 129) (A' := [jR 20, jI i, jI a, jI b, jI s, jI N, jI (X a), jI (Y a), jI (X b - X a), jI (Y b - Y a), jI (jspan X Y a b), jI (jstp2 N a b), jI n, jI (s + ((a + n) - N)), z2]) (st' := []) (hp' := hp) rfl ?_
        obtain ⟨kk, hkk⟩ : ∃ z, z = jwr N (a + n) := ⟨_, rfl⟩
        have hkr := jwr_r ha.1 ha.2 (show 0 ≤ n by omega) (show n < N by omega)
        rw [← hkk] at hkr
        have pk := hpt kk hkr.1 hkr.2
        have rk := hW.2.2 kk hkr.1 hkr.2
        have fk := jfar_r hW ha.1 ha.2 hb.1 hb.2 hkr.1 hkr.2
        have lk := jm_mulb rk.2.2.1.1 rk.2.2.1.2 sp.1 sp.2
        have hst := jcs_s (N := N) (X := X) (Y := Y) (L := L) (M := M) (i := a) (j := b) hn0
        rw [hs, ← hkk] at hst
        rw [show (s + ((a + n) - N)) = s + kk by rw [hkk]; unfold jwr; split <;> omega]
        refine jm_Ev.bl 1 (pc' := 131) (A' := [jR 20, jI i, jI a, jI b, jI s, jI N, jI (X a), jI (Y a), jI (X b - X a), jI (Y b - Y a), jI (jspan X Y a b), jI (jstp2 N a b), jI n, jI (s + kk), z2]) (st' := [jI (s + kk)]) (hp' := hp) rfl ?_
        refine jE_if_lt rfl (by omega) (fun c131 => ?_) (fun c131 => ?_)
        · omega
        · refine jm_Ev.bl 2 (pc' := 138) (A' := [jR 20, jI i, jI a, jI b, jI s, jI N, jI (X a), jI (Y a), jI (X b - X a), jI (Y b - Y a), jI (jspan X Y a b), jI (jstp2 N a b), jI n, jI (s + kk), z2]) (st' := [jI 60, jI (s + kk)]) (hp' := hp) rfl ?_
          refine jE_icmp_ge rfl (by omega) (by omega) (fun c138 => ?_) (fun c138 => ?_)
          · omega
          · refine jm_Ev.bl 3 (pc' := 147) (A' := [jR 20, jI i, jI a, jI b, jI s, jI N, jI (X a), jI (Y a), jI (X b - X a), jI (Y b - Y a), jI (jspan X Y a b), jI (jstp2 N a b), jI n, jI (s + kk), z2]) (st' := [jI (s + kk), jR 28]) (hp' := hp) rfl ?_
            refine jE_zald (n := 60) (f := hp 28) rfl rfl (by omega) ?_
            refine jE_top (w := (M kk)) (pk.2.2.2) ?_
            refine jE_if_eq rfl (by omega) (fun c148 => ?_) (fun c148 => ?_)
            · refine jm_Ev.bl 3 (pc' := 159) (A' := [jR 20, jI i, jI a, jI b, jI s, jI N, jI (X a), jI (Y a), jI (X b - X a), jI (Y b - Y a), jI (jspan X Y a b), jI (jstp2 N a b), jI n, jI (s + kk), z2]) (st' := [jI (s + kk), jR 24]) (hp' := hp) rfl ?_
              refine jE_iald (n := 60) (f := hp 24) rfl rfl (by omega) ?_
              refine jE_top (w := (X kk)) (pk.1) ?_
              refine jm_Ev.bl 7 (pc' := 172) (A' := [jR 20, jI i, jI a, jI b, jI s, jI N, jI (X a), jI (Y a), jI (X b - X a), jI (Y b - Y a), jI (jspan X Y a b), jI (jstp2 N a b), jI n, jI (s + kk), z2]) (st' := [jI (s + kk), jR 25, jI (((X kk) - (X a)) * (Y b - Y a))]) (hp' := hp) rfl ?_
              refine jE_iald (n := 60) (f := hp 25) rfl rfl (by omega) ?_
              refine jE_top (w := (Y kk)) (pk.2.1) ?_
              refine jm_Ev.bl 6 (pc' := 182) (A' := [jR 20, jI i, jI a, jI b, jI s, jI N, jI (X a), jI (Y a), jI (X b - X a), jI (Y b - Y a), jI (jspan X Y a b), jI (jstp2 N a b), jI n, jI (s + kk), jI ((((X kk) - (X a)) * (Y b - Y a)) - (((Y kk) - (Y a)) * (X b - X a)))]) (st' := []) (hp' := hp) rfl ?_
              rw [show ((((X kk) - (X a)) * (Y b - Y a)) - (((Y kk) - (Y a)) * (X b - X a))) = jfar X Y a kk b from rfl]
              refine jm_Ev.bl 2 (pc' := 185) (A' := [jR 20, jI i, jI a, jI b, jI s, jI N, jI (X a), jI (Y a), jI (X b - X a), jI (Y b - Y a), jI (jspan X Y a b), jI (jstp2 N a b), jI n, jI (s + kk), jI (jfar X Y a kk b)]) (st' := [jI (jfar X Y a kk b), jI 2]) (hp' := hp) rfl ?_
              refine jE_abs (nx := 188) rfl (by omega) ?_
              refine jm_Ev.bl 4 (pc' := 195) (A' := [jR 20, jI i, jI a, jI b, jI s, jI N, jI (X a), jI (Y a), jI (X b - X a), jI (Y b - Y a), jI (jspan X Y a b), jI (jstp2 N a b), jI n, jI (s + kk), jI (jfar X Y a kk b)]) (st' := [jI (s + kk), jR 27, jI (2 * (((jfar X Y a kk b)).natAbs : Int))]) (hp' := hp) rfl ?_
              refine jE_iald (n := 60) (f := hp 27) rfl rfl (by omega) ?_
              refine jE_top (w := (L kk)) (pk.2.2.1) ?_
              refine jm_Ev.bl 2 (pc' := 199) (A' := [jR 20, jI i, jI a, jI b, jI s, jI N, jI (X a), jI (Y a), jI (X b - X a), jI (Y b - Y a), jI (jspan X Y a b), jI (jstp2 N a b), jI n, jI (s + kk), jI (jfar X Y a kk b)]) (st' := [jI ((L kk) * (jspan X Y a b)), jI (2 * (((jfar X Y a kk b)).natAbs : Int))]) (hp' := hp) rfl ?_
              refine jE_icmp_le rfl (by omega) (by omega) (fun c199 => ?_) (fun c199 => ?_)
              · refine jm_Ev.bl 2 (pc' := 94) (A' := [jR 20, jI i, jI a, jI b, jI s, jI N, jI (X a), jI (Y a), jI (X b - X a), jI (Y b - Y a), jI (jspan X Y a b), jI (jstp2 N a b), jI (n + 1), jI (s + kk), jI (jfar X Y a kk b)]) (st' := []) (hp' := hp) rfl ?_
                have ht := hst.trans (show _ = true by rw [Bool.true_and]; exact decide_eq_true ⟨c148, by omega⟩)
                exact ih (n + 1) _ _ (by omega) (by omega) (by rw [show n + 1 - 1 = n by omega]; exact ht) (by omega)
              · refine jm_Ev.bl 1 (pc' := 203) (A' := [jR 20, jI i, jI a, jI b, jI s, jI N, jI (X a), jI (Y a), jI (X b - X a), jI (Y b - Y a), jI (jspan X Y a b), jI (jstp2 N a b), jI n, jI (s + kk), jI (jfar X Y a kk b)]) (st' := [jI 0]) (hp' := hp) rfl ?_
                have hf := hst.trans (show _ = false by rw [Bool.true_and]; exact decide_eq_false (fun z => by have := z.2; omega))
                exact jE_ret rfl ⟨jrI (by unfold jcan; rw [jcs_mono (m := n.toNat) (by omega) hf, Bool.and_false]; rfl), rfl⟩
            · refine jm_Ev.bl 1 (pc' := 152) (A' := [jR 20, jI i, jI a, jI b, jI s, jI N, jI (X a), jI (Y a), jI (X b - X a), jI (Y b - Y a), jI (jspan X Y a b), jI (jstp2 N a b), jI n, jI (s + kk), z2]) (st' := [jI 0]) (hp' := hp) rfl ?_
              have hf := hst.trans (show _ = false by rw [Bool.true_and]; exact decide_eq_false (fun z => c148 z.1))
              exact jE_ret rfl ⟨jrI (by unfold jcan; rw [jcs_mono (m := n.toNat) (by omega) hf, Bool.and_false]; rfl), rfl⟩
      · refine jm_Ev.bl 6 (pc' := 129) (A' := [jR 20, jI i, jI a, jI b, jI s, jI N, jI (X a), jI (Y a), jI (X b - X a), jI (Y b - Y a), jI (jspan X Y a b), jI (jstp2 N a b), jI n, jI (s + (a + n)), z2]) (st' := []) (hp' := hp) rfl ?_
        obtain ⟨kk, hkk⟩ : ∃ z, z = jwr N (a + n) := ⟨_, rfl⟩
        have hkr := jwr_r ha.1 ha.2 (show 0 ≤ n by omega) (show n < N by omega)
        rw [← hkk] at hkr
        have pk := hpt kk hkr.1 hkr.2
        have rk := hW.2.2 kk hkr.1 hkr.2
        have fk := jfar_r hW ha.1 ha.2 hb.1 hb.2 hkr.1 hkr.2
        have lk := jm_mulb rk.2.2.1.1 rk.2.2.1.2 sp.1 sp.2
        have hst := jcs_s (N := N) (X := X) (Y := Y) (L := L) (M := M) (i := a) (j := b) hn0
        rw [hs, ← hkk] at hst
        rw [show (s + (a + n)) = s + kk by rw [hkk]; unfold jwr; split <;> omega]
        refine jm_Ev.bl 1 (pc' := 131) (A' := [jR 20, jI i, jI a, jI b, jI s, jI N, jI (X a), jI (Y a), jI (X b - X a), jI (Y b - Y a), jI (jspan X Y a b), jI (jstp2 N a b), jI n, jI (s + kk), z2]) (st' := [jI (s + kk)]) (hp' := hp) rfl ?_
        refine jE_if_lt rfl (by omega) (fun c131 => ?_) (fun c131 => ?_)
        · omega
        · refine jm_Ev.bl 2 (pc' := 138) (A' := [jR 20, jI i, jI a, jI b, jI s, jI N, jI (X a), jI (Y a), jI (X b - X a), jI (Y b - Y a), jI (jspan X Y a b), jI (jstp2 N a b), jI n, jI (s + kk), z2]) (st' := [jI 60, jI (s + kk)]) (hp' := hp) rfl ?_
          refine jE_icmp_ge rfl (by omega) (by omega) (fun c138 => ?_) (fun c138 => ?_)
          · omega
          · refine jm_Ev.bl 3 (pc' := 147) (A' := [jR 20, jI i, jI a, jI b, jI s, jI N, jI (X a), jI (Y a), jI (X b - X a), jI (Y b - Y a), jI (jspan X Y a b), jI (jstp2 N a b), jI n, jI (s + kk), z2]) (st' := [jI (s + kk), jR 28]) (hp' := hp) rfl ?_
            refine jE_zald (n := 60) (f := hp 28) rfl rfl (by omega) ?_
            refine jE_top (w := (M kk)) (pk.2.2.2) ?_
            refine jE_if_eq rfl (by omega) (fun c148 => ?_) (fun c148 => ?_)
            · refine jm_Ev.bl 3 (pc' := 159) (A' := [jR 20, jI i, jI a, jI b, jI s, jI N, jI (X a), jI (Y a), jI (X b - X a), jI (Y b - Y a), jI (jspan X Y a b), jI (jstp2 N a b), jI n, jI (s + kk), z2]) (st' := [jI (s + kk), jR 24]) (hp' := hp) rfl ?_
              refine jE_iald (n := 60) (f := hp 24) rfl rfl (by omega) ?_
              refine jE_top (w := (X kk)) (pk.1) ?_
              refine jm_Ev.bl 7 (pc' := 172) (A' := [jR 20, jI i, jI a, jI b, jI s, jI N, jI (X a), jI (Y a), jI (X b - X a), jI (Y b - Y a), jI (jspan X Y a b), jI (jstp2 N a b), jI n, jI (s + kk), z2]) (st' := [jI (s + kk), jR 25, jI (((X kk) - (X a)) * (Y b - Y a))]) (hp' := hp) rfl ?_
              refine jE_iald (n := 60) (f := hp 25) rfl rfl (by omega) ?_
              refine jE_top (w := (Y kk)) (pk.2.1) ?_
              refine jm_Ev.bl 6 (pc' := 182) (A' := [jR 20, jI i, jI a, jI b, jI s, jI N, jI (X a), jI (Y a), jI (X b - X a), jI (Y b - Y a), jI (jspan X Y a b), jI (jstp2 N a b), jI n, jI (s + kk), jI ((((X kk) - (X a)) * (Y b - Y a)) - (((Y kk) - (Y a)) * (X b - X a)))]) (st' := []) (hp' := hp) rfl ?_
              rw [show ((((X kk) - (X a)) * (Y b - Y a)) - (((Y kk) - (Y a)) * (X b - X a))) = jfar X Y a kk b from rfl]
              refine jm_Ev.bl 2 (pc' := 185) (A' := [jR 20, jI i, jI a, jI b, jI s, jI N, jI (X a), jI (Y a), jI (X b - X a), jI (Y b - Y a), jI (jspan X Y a b), jI (jstp2 N a b), jI n, jI (s + kk), jI (jfar X Y a kk b)]) (st' := [jI (jfar X Y a kk b), jI 2]) (hp' := hp) rfl ?_
              refine jE_abs (nx := 188) rfl (by omega) ?_
              refine jm_Ev.bl 4 (pc' := 195) (A' := [jR 20, jI i, jI a, jI b, jI s, jI N, jI (X a), jI (Y a), jI (X b - X a), jI (Y b - Y a), jI (jspan X Y a b), jI (jstp2 N a b), jI n, jI (s + kk), jI (jfar X Y a kk b)]) (st' := [jI (s + kk), jR 27, jI (2 * (((jfar X Y a kk b)).natAbs : Int))]) (hp' := hp) rfl ?_
              refine jE_iald (n := 60) (f := hp 27) rfl rfl (by omega) ?_
              refine jE_top (w := (L kk)) (pk.2.2.1) ?_
              refine jm_Ev.bl 2 (pc' := 199) (A' := [jR 20, jI i, jI a, jI b, jI s, jI N, jI (X a), jI (Y a), jI (X b - X a), jI (Y b - Y a), jI (jspan X Y a b), jI (jstp2 N a b), jI n, jI (s + kk), jI (jfar X Y a kk b)]) (st' := [jI ((L kk) * (jspan X Y a b)), jI (2 * (((jfar X Y a kk b)).natAbs : Int))]) (hp' := hp) rfl ?_
              refine jE_icmp_le rfl (by omega) (by omega) (fun c199 => ?_) (fun c199 => ?_)
              · refine jm_Ev.bl 2 (pc' := 94) (A' := [jR 20, jI i, jI a, jI b, jI s, jI N, jI (X a), jI (Y a), jI (X b - X a), jI (Y b - Y a), jI (jspan X Y a b), jI (jstp2 N a b), jI (n + 1), jI (s + kk), jI (jfar X Y a kk b)]) (st' := []) (hp' := hp) rfl ?_
                have ht := hst.trans (show _ = true by rw [Bool.true_and]; exact decide_eq_true ⟨c148, by omega⟩)
                exact ih (n + 1) _ _ (by omega) (by omega) (by rw [show n + 1 - 1 = n by omega]; exact ht) (by omega)
              · refine jm_Ev.bl 1 (pc' := 203) (A' := [jR 20, jI i, jI a, jI b, jI s, jI N, jI (X a), jI (Y a), jI (X b - X a), jI (Y b - Y a), jI (jspan X Y a b), jI (jstp2 N a b), jI n, jI (s + kk), jI (jfar X Y a kk b)]) (st' := [jI 0]) (hp' := hp) rfl ?_
                have hf := hst.trans (show _ = false by rw [Bool.true_and]; exact decide_eq_false (fun z => by have := z.2; omega))
                exact jE_ret rfl ⟨jrI (by unfold jcan; rw [jcs_mono (m := n.toNat) (by omega) hf, Bool.and_false]; rfl), rfl⟩
            · refine jm_Ev.bl 1 (pc' := 152) (A' := [jR 20, jI i, jI a, jI b, jI s, jI N, jI (X a), jI (Y a), jI (X b - X a), jI (Y b - Y a), jI (jspan X Y a b), jI (jstp2 N a b), jI n, jI (s + kk), z2]) (st' := [jI 0]) (hp' := hp) rfl ?_
              have hf := hst.trans (show _ = false by rw [Bool.true_and]; exact decide_eq_false (fun z => c148 z.1))
              exact jE_ret rfl ⟨jrI (by unfold jcan; rw [jcs_mono (m := n.toNat) (by omega) hf, Bool.and_false]; rfl), rfl⟩
theorem c_o_canJoin_20 (hp : jm_H) (i s N : Int) (X Y L M : Int → Int) (hV : jVo_20 hp i s N X Y L M) (hW : jWy N X Y L M) (a b : Int) (ha : 0 ≤ a ∧ a < N) (hb : 0 ≤ b ∧ b < N) (hab : a ≠ b) : jm_Ev 73 0 [jR 20, jI i, jI a, jI b, jU, jU, jU, jU, jU, jU, jU, jU, jU, jU, jU] [] hp (jK (some (jI (jb (jcan N X Y L M a b)))) hp) := by
  obtain ⟨es, eN, s0, s60, hi, hpt⟩ := id hV
  have hN := hW.1
  have hN6 := hW.2.1
  have sp := jspan_r hW ha.1 ha.2 hb.1 hb.2
  have pa := hpt a ha.1 ha.2
  have pb := hpt b hb.1 hb.2
  have ra := hW.2.2 a ha.1 ha.2
  have rb := hW.2.2 b hb.1 hb.2
  refine jm_Ev.bl 2 (pc' := 2) (A' := [jR 20, jI i, jI a, jI b, jU, jU, jU, jU, jU, jU, jU, jU, jU, jU, jU]) (st' := [jI i, jR 20]) (hp' := hp) rfl ?_
  refine jE_callI (vs := [jR 20, jI i]) (r := []) (nx := 5) (v := jI s) (hp1 := hp) rfl (es ▸ c_o_startOf_20 hp i (by omega) (by omega)) ?_
  refine jm_Ev.bl 3 (pc' := 9) (A' := [jR 20, jI i, jI a, jI b, jI s, jU, jU, jU, jU, jU, jU, jU, jU, jU, jU]) (st' := [jI i, jR 20]) (hp' := hp) rfl ?_
  refine jE_callI (vs := [jR 20, jI i]) (r := []) (nx := 12) (v := jI N) (hp1 := hp) rfl (eN ▸ c_o_len_20 hp (by omega) i (by omega) (by omega)) ?_
  refine jm_Ev.bl 5 (pc' := 19) (A' := [jR 20, jI i, jI a, jI b, jI s, jI N, jU, jU, jU, jU, jU, jU, jU, jU, jU]) (st' := [jI (s + a), jR 20]) (hp' := hp) rfl ?_
  refine jE_callI (vs := [jR 20, jI (s + a)]) (r := []) (nx := 22) (v := jI (X a)) (hp1 := hp) rfl (pa.1 ▸ c_o_xAt_20 hp (s + a) (by omega) (by omega)) ?_
  refine jm_Ev.bl 5 (pc' := 29) (A' := [jR 20, jI i, jI a, jI b, jI s, jI N, jI (X a), jU, jU, jU, jU, jU, jU, jU, jU]) (st' := [jI (s + a), jR 20]) (hp' := hp) rfl ?_
  refine jE_callI (vs := [jR 20, jI (s + a)]) (r := []) (nx := 32) (v := jI (Y a)) (hp1 := hp) rfl (pa.2.1 ▸ c_o_yAt_20 hp (s + a) (by omega) (by omega)) ?_
  refine jm_Ev.bl 5 (pc' := 39) (A' := [jR 20, jI i, jI a, jI b, jI s, jI N, jI (X a), jI (Y a), jU, jU, jU, jU, jU, jU, jU]) (st' := [jI (s + b), jR 20]) (hp' := hp) rfl ?_
  refine jE_callI (vs := [jR 20, jI (s + b)]) (r := []) (nx := 42) (v := jI (X b)) (hp1 := hp) rfl (pb.1 ▸ c_o_xAt_20 hp (s + b) (by omega) (by omega)) ?_
  refine jm_Ev.bl 7 (pc' := 52) (A' := [jR 20, jI i, jI a, jI b, jI s, jI N, jI (X a), jI (Y a), jI ((X b) - (X a)), jU, jU, jU, jU, jU, jU]) (st' := [jI (s + b), jR 20]) (hp' := hp) rfl ?_
  refine jE_callI (vs := [jR 20, jI (s + b)]) (r := []) (nx := 55) (v := jI (Y b)) (hp1 := hp) rfl (pb.2.1 ▸ c_o_yAt_20 hp (s + b) (by omega) (by omega)) ?_
  refine jm_Ev.bl 4 (pc' := 62) (A' := [jR 20, jI i, jI a, jI b, jI s, jI N, jI (X a), jI (Y a), jI ((X b) - (X a)), jI ((Y b) - (Y a)), jU, jU, jU, jU, jU]) (st' := [jI ((X b) - (X a))]) (hp' := hp) rfl ?_
  refine jE_abs (nx := 65) rfl (by omega) ?_
  refine jm_Ev.bl 1 (pc' := 67) (A' := [jR 20, jI i, jI a, jI b, jI s, jI N, jI (X a), jI (Y a), jI ((X b) - (X a)), jI ((Y b) - (Y a)), jU, jU, jU, jU, jU]) (st' := [jI ((Y b) - (Y a)), jI ((((X b) - (X a))).natAbs : Int)]) (hp' := hp) rfl ?_
  refine jE_abs (nx := 70) rfl (by omega) ?_
  refine jE_max (nx := 73) rfl (by omega) (by omega) ?_
  refine jE_top (w := (jspan X Y a b)) (rfl) ?_
  refine jm_Ev.bl 2 (pc' := 77) (A' := [jR 20, jI i, jI a, jI b, jI s, jI N, jI (X a), jI (Y a), jI ((X b) - (X a)), jI ((Y b) - (Y a)), jI (jspan X Y a b), jU, jU, jU, jU]) (st' := [jI (jspan X Y a b)]) (hp' := hp) rfl ?_
  refine jE_if_ne rfl (by omega) (fun c77 => ?_) (fun c77 => ?_)
  · refine jm_Ev.bl 3 (pc' := 86) (A' := [jR 20, jI i, jI a, jI b, jI s, jI N, jI (X a), jI (Y a), jI ((X b) - (X a)), jI ((Y b) - (Y a)), jI (jspan X Y a b), jU, jU, jU, jU]) (st' := [jI N, jI b, jI a]) (hp' := hp) rfl ?_
    refine jE_callI (vs := [jI a, jI b, jI N]) (r := []) (nx := 89) (v := jI (jstp2 N a b)) (hp1 := hp) rfl (c_o_steps hp a b N (by omega) (by omega)) ?_
    refine jm_Ev.bl 3 (pc' := 94) (A' := [jR 20, jI i, jI a, jI b, jI s, jI N, jI (X a), jI (Y a), jI ((X b) - (X a)), jI ((Y b) - (Y a)), jI (jspan X Y a b), jI (jstp2 N a b), jI 1, jU, jU]) (st' := []) (hp' := hp) rfl ?_
    exact c_o_can_L_20 hp i s N X Y L M hV hW a b ha hb c77 61 1 _ _ (by omega) (by unfold jstp2; split <;> omega) rfl (by unfold jstp2; split <;> omega)
  · refine jm_Ev.bl 1 (pc' := 81) (A' := [jR 20, jI i, jI a, jI b, jI s, jI N, jI (X a), jI (Y a), jI ((X b) - (X a)), jI ((Y b) - (Y a)), jI (jspan X Y a b), jU, jU, jU, jU]) (st' := [jI 0]) (hp' := hp) rfl ?_
    exact jE_ret rfl ⟨jrI (by unfold jcan; rw [decide_eq_false (fun z => z c77)]; rfl), rfl⟩
def jVo_43 (h : jm_H) (i s N : Int) (X Y L M : Int → Int) : Prop := h 44 i = s ∧ h 45 i = N ∧ 0 ≤ s ∧ s + N ≤ 60 ∧ (0 ≤ i ∧ i < h 43 0 ∧ h 43 0 ≤ 15) ∧ ∀ n, 0 ≤ n → n < N → h 47 (s + n) = X n ∧ h 48 (s + n) = Y n ∧ h 50 (s + n) = L n ∧ h 51 (s + n) = M n
theorem c_o_can_L_43 (hp : jm_H) (i s N : Int) (X Y L M : Int → Int) (hV : jVo_43 hp i s N X Y L M) (hW : jWy N X Y L M) (a b : Int) (ha : 0 ≤ a ∧ a < N) (hb : 0 ≤ b ∧ b < N) (hsp : jspan X Y a b ≠ 0) : ∀ (m : Nat) (n : Int) (z1 z2 : jm_V), 1 ≤ n → n ≤ jstp2 N a b → jcs N X Y L M a b (n - 1).toNat = true → jstp2 N a b - n < m → jm_Ev 73 94 [jR 43, jI i, jI a, jI b, jI s, jI N, jI (X a), jI (Y a), jI (X b - X a), jI (Y b - Y a), jI (jspan X Y a b), jI (jstp2 N a b), jI n, z1, z2] [] hp (jK (some (jI (jb (jcan N X Y L M a b)))) hp) := by
  obtain ⟨es, eN, s0, s60, hi, hpt⟩ := id hV
  have hN := hW.1
  have hN6 := hW.2.1
  have sp := jspan_r hW ha.1 ha.2 hb.1 hb.2
  have pa := hpt a ha.1 ha.2
  have pb := hpt b hb.1 hb.2
  have ra := hW.2.2 a ha.1 ha.2
  have rb := hW.2.2 b hb.1 hb.2
  have hst2 : 1 ≤ jstp2 N a b ∧ jstp2 N a b ≤ N := by unfold jstp2; split <;> omega
  intro n
  induction n with
  | zero => intro n z1 z2 hn0 hn1 hs hm; omega
  | succ n ih =>
    intro n z1 z2 hn0 hn1 hs hm
    refine jm_Ev.bl 2 (pc' := 98) (A' := [jR 43, jI i, jI a, jI b, jI s, jI N, jI (X a), jI (Y a), jI (X b - X a), jI (Y b - Y a), jI (jspan X Y a b), jI (jstp2 N a b), jI n, z1, z2]) (st' := [jI (jstp2 N a b), jI n]) (hp' := hp) rfl ?_
    refine jE_icmp_ge rfl (by omega) (by omega) (fun c98 => ?_) (fun c98 => ?_)
    · refine jm_Ev.bl 1 (pc' := 211) (A' := [jR 43, jI i, jI a, jI b, jI s, jI N, jI (X a), jI (Y a), jI (X b - X a), jI (Y b - Y a), jI (jspan X Y a b), jI (jstp2 N a b), jI n, z1, z2]) (st' := [jI 1]) (hp' := hp) rfl ?_
      exact jE_ret rfl ⟨jrI (by unfold jcan; rw [decide_eq_true hsp, show (jstp2 N a b - 1).toNat = (n - 1).toNat by omega, hs]; rfl), rfl⟩
    · refine jm_Ev.bl 5 (pc' := 109) (A' := [jR 43, jI i, jI a, jI b, jI s, jI N, jI (X a), jI (Y a), jI (X b - X a), jI (Y b - Y a), jI (jspan X Y a b), jI (jstp2 N a b), jI n, z1, z2]) (st' := [jI N, jI (a + n), jI s]) (hp' := hp) rfl ?_
      refine jE_icmp_ge rfl (by omega) (by omega) (fun c109 => ?_) (fun c109 => ?_)
      · refine jm_Ev.bl 7 (pc' := 129) (A' := [jR 43, jI i, jI a, jI b, jI s, jI N, jI (X a), jI (Y a), jI (X b - X a), jI (Y b - Y a), jI (jspan X Y a b), jI (jstp2 N a b), jI n, jI (s + ((a + n) - N)), z2]) (st' := []) (hp' := hp) rfl ?_
        obtain ⟨kk, hkk⟩ : ∃ z, z = jwr N (a + n) := ⟨_, rfl⟩
        have hkr := jwr_r ha.1 ha.2 (show 0 ≤ n by omega) (show n < N by omega)
        rw [← hkk] at hkr
        have pk := hpt kk hkr.1 hkr.2
        have rk := hW.2.2 kk hkr.1 hkr.2
        have fk := jfar_r hW ha.1 ha.2 hb.1 hb.2 hkr.1 hkr.2
        have lk := jm_mulb rk.2.2.1.1 rk.2.2.1.2 sp.1 sp.2
        have hst := jcs_s (N := N) (X := X) (Y := Y) (L := L) (M := M) (i := a) (j := b) hn0
        rw [hs, ← hkk] at hst
        rw [show (s + ((a + n) - N)) = s + kk by rw [hkk]; unfold jwr; split <;> omega]
        refine jm_Ev.bl 1 (pc' := 131) (A' := [jR 43, jI i, jI a, jI b, jI s, jI N, jI (X a), jI (Y a), jI (X b - X a), jI (Y b - Y a), jI (jspan X Y a b), jI (jstp2 N a b), jI n, jI (s + kk), z2]) (st' := [jI (s + kk)]) (hp' := hp) rfl ?_
        refine jE_if_lt rfl (by omega) (fun c131 => ?_) (fun c131 => ?_)
        · omega
        · refine jm_Ev.bl 2 (pc' := 138) (A' := [jR 43, jI i, jI a, jI b, jI s, jI N, jI (X a), jI (Y a), jI (X b - X a), jI (Y b - Y a), jI (jspan X Y a b), jI (jstp2 N a b), jI n, jI (s + kk), z2]) (st' := [jI 60, jI (s + kk)]) (hp' := hp) rfl ?_
          refine jE_icmp_ge rfl (by omega) (by omega) (fun c138 => ?_) (fun c138 => ?_)
          · omega
          · refine jm_Ev.bl 3 (pc' := 147) (A' := [jR 43, jI i, jI a, jI b, jI s, jI N, jI (X a), jI (Y a), jI (X b - X a), jI (Y b - Y a), jI (jspan X Y a b), jI (jstp2 N a b), jI n, jI (s + kk), z2]) (st' := [jI (s + kk), jR 51]) (hp' := hp) rfl ?_
            refine jE_zald (n := 60) (f := hp 51) rfl rfl (by omega) ?_
            refine jE_top (w := (M kk)) (pk.2.2.2) ?_
            refine jE_if_eq rfl (by omega) (fun c148 => ?_) (fun c148 => ?_)
            · refine jm_Ev.bl 3 (pc' := 159) (A' := [jR 43, jI i, jI a, jI b, jI s, jI N, jI (X a), jI (Y a), jI (X b - X a), jI (Y b - Y a), jI (jspan X Y a b), jI (jstp2 N a b), jI n, jI (s + kk), z2]) (st' := [jI (s + kk), jR 47]) (hp' := hp) rfl ?_
              refine jE_iald (n := 60) (f := hp 47) rfl rfl (by omega) ?_
              refine jE_top (w := (X kk)) (pk.1) ?_
              refine jm_Ev.bl 7 (pc' := 172) (A' := [jR 43, jI i, jI a, jI b, jI s, jI N, jI (X a), jI (Y a), jI (X b - X a), jI (Y b - Y a), jI (jspan X Y a b), jI (jstp2 N a b), jI n, jI (s + kk), z2]) (st' := [jI (s + kk), jR 48, jI (((X kk) - (X a)) * (Y b - Y a))]) (hp' := hp) rfl ?_
              refine jE_iald (n := 60) (f := hp 48) rfl rfl (by omega) ?_
              refine jE_top (w := (Y kk)) (pk.2.1) ?_
              refine jm_Ev.bl 6 (pc' := 182) (A' := [jR 43, jI i, jI a, jI b, jI s, jI N, jI (X a), jI (Y a), jI (X b - X a), jI (Y b - Y a), jI (jspan X Y a b), jI (jstp2 N a b), jI n, jI (s + kk), jI ((((X kk) - (X a)) * (Y b - Y a)) - (((Y kk) - (Y a)) * (X b - X a)))]) (st' := []) (hp' := hp) rfl ?_
              rw [show ((((X kk) - (X a)) * (Y b - Y a)) - (((Y kk) - (Y a)) * (X b - X a))) = jfar X Y a kk b from rfl]
              refine jm_Ev.bl 2 (pc' := 185) (A' := [jR 43, jI i, jI a, jI b, jI s, jI N, jI (X a), jI (Y a), jI (X b - X a), jI (Y b - Y a), jI (jspan X Y a b), jI (jstp2 N a b), jI n, jI (s + kk), jI (jfar X Y a kk b)]) (st' := [jI (jfar X Y a kk b), jI 2]) (hp' := hp) rfl ?_
              refine jE_abs (nx := 188) rfl (by omega) ?_
              refine jm_Ev.bl 4 (pc' := 195) (A' := [jR 43, jI i, jI a, jI b, jI s, jI N, jI (X a), jI (Y a), jI (X b - X a), jI (Y b - Y a), jI (jspan X Y a b), jI (jstp2 N a b), jI n, jI (s + kk), jI (jfar X Y a kk b)]) (st' := [jI (s + kk), jR 50, jI (2 * (((jfar X Y a kk b)).natAbs : Int))]) (hp' := hp) rfl ?_
              refine jE_iald (n := 60) (f := hp 50) rfl rfl (by omega) ?_
              refine jE_top (w := (L kk)) (pk.2.2.1) ?_
              refine jm_Ev.bl 2 (pc' := 199) (A' := [jR 43, jI i, jI a, jI b, jI s, jI N, jI (X a), jI (Y a), jI (X b - X a), jI (Y b - Y a), jI (jspan X Y a b), jI (jstp2 N a b), jI n, jI (s + kk), jI (jfar X Y a kk b)]) (st' := [jI ((L kk) * (jspan X Y a b)), jI (2 * (((jfar X Y a kk b)).natAbs : Int))]) (hp' := hp) rfl ?_
              refine jE_icmp_le rfl (by omega) (by omega) (fun c199 => ?_) (fun c199 => ?_)
              · refine jm_Ev.bl 2 (pc' := 94) (A' := [jR 43, jI i, jI a, jI b, jI s, jI N, jI (X a), jI (Y a), jI (X b - X a), jI (Y b - Y a), jI (jspan X Y a b), jI (jstp2 N a b), jI (n + 1), jI (s + kk), jI (jfar X Y a kk b)]) (st' := []) (hp' := hp) rfl ?_
                have ht := hst.trans (show _ = true by rw [Bool.true_and]; exact decide_eq_true ⟨c148, by omega⟩)
                exact ih (n + 1) _ _ (by omega) (by omega) (by rw [show n + 1 - 1 = n by omega]; exact ht) (by omega)
              · refine jm_Ev.bl 1 (pc' := 203) (A' := [jR 43, jI i, jI a, jI b, jI s, jI N, jI (X a), jI (Y a), jI (X b - X a), jI (Y b - Y a), jI (jspan X Y a b), jI (jstp2 N a b), jI n, jI (s + kk), jI (jfar X Y a kk b)]) (st' := [jI 0]) (hp' := hp) rfl ?_
                have hf := hst.trans (show _ = false by rw [Bool.true_and]; exact decide_eq_false (fun z => by have := z.2; omega))
                exact jE_ret rfl ⟨jrI (by unfold jcan; rw [jcs_mono (m := n.toNat) (by omega) hf, Bool.and_false]; rfl), rfl⟩
            · refine jm_Ev.bl 1 (pc' := 152) (A' := [jR 43, jI i, jI a, jI b, jI s, jI N, jI (X a), jI (Y a), jI (X b - X a), jI (Y b - Y a), jI (jspan X Y a b), jI (jstp2 N a b), jI n, jI (s + kk), z2]) (st' := [jI 0]) (hp' := hp) rfl ?_
              have hf := hst.trans (show _ = false by rw [Bool.true_and]; exact decide_eq_false (fun z => c148 z.1))
              exact jE_ret rfl ⟨jrI (by unfold jcan; rw [jcs_mono (m := n.toNat) (by omega) hf, Bool.and_false]; rfl), rfl⟩
      · refine jm_Ev.bl 6 (pc' := 129) (A' := [jR 43, jI i, jI a, jI b, jI s, jI N, jI (X a), jI (Y a), jI (X b - X a), jI (Y b - Y a), jI (jspan X Y a b), jI (jstp2 N a b), jI n, jI (s + (a + n)), z2]) (st' := []) (hp' := hp) rfl ?_
        obtain ⟨kk, hkk⟩ : ∃ z, z = jwr N (a + n) := ⟨_, rfl⟩
        have hkr := jwr_r ha.1 ha.2 (show 0 ≤ n by omega) (show n < N by omega)
        rw [← hkk] at hkr
        have pk := hpt kk hkr.1 hkr.2
        have rk := hW.2.2 kk hkr.1 hkr.2
        have fk := jfar_r hW ha.1 ha.2 hb.1 hb.2 hkr.1 hkr.2
        have lk := jm_mulb rk.2.2.1.1 rk.2.2.1.2 sp.1 sp.2
        have hst := jcs_s (N := N) (X := X) (Y := Y) (L := L) (M := M) (i := a) (j := b) hn0
        rw [hs, ← hkk] at hst
        rw [show (s + (a + n)) = s + kk by rw [hkk]; unfold jwr; split <;> omega]
        refine jm_Ev.bl 1 (pc' := 131) (A' := [jR 43, jI i, jI a, jI b, jI s, jI N, jI (X a), jI (Y a), jI (X b - X a), jI (Y b - Y a), jI (jspan X Y a b), jI (jstp2 N a b), jI n, jI (s + kk), z2]) (st' := [jI (s + kk)]) (hp' := hp) rfl ?_
        refine jE_if_lt rfl (by omega) (fun c131 => ?_) (fun c131 => ?_)
        · omega
        · refine jm_Ev.bl 2 (pc' := 138) (A' := [jR 43, jI i, jI a, jI b, jI s, jI N, jI (X a), jI (Y a), jI (X b - X a), jI (Y b - Y a), jI (jspan X Y a b), jI (jstp2 N a b), jI n, jI (s + kk), z2]) (st' := [jI 60, jI (s + kk)]) (hp' := hp) rfl ?_
          refine jE_icmp_ge rfl (by omega) (by omega) (fun c138 => ?_) (fun c138 => ?_)
          · omega
          · refine jm_Ev.bl 3 (pc' := 147) (A' := [jR 43, jI i, jI a, jI b, jI s, jI N, jI (X a), jI (Y a), jI (X b - X a), jI (Y b - Y a), jI (jspan X Y a b), jI (jstp2 N a b), jI n, jI (s + kk), z2]) (st' := [jI (s + kk), jR 51]) (hp' := hp) rfl ?_
            refine jE_zald (n := 60) (f := hp 51) rfl rfl (by omega) ?_
            refine jE_top (w := (M kk)) (pk.2.2.2) ?_
            refine jE_if_eq rfl (by omega) (fun c148 => ?_) (fun c148 => ?_)
            · refine jm_Ev.bl 3 (pc' := 159) (A' := [jR 43, jI i, jI a, jI b, jI s, jI N, jI (X a), jI (Y a), jI (X b - X a), jI (Y b - Y a), jI (jspan X Y a b), jI (jstp2 N a b), jI n, jI (s + kk), z2]) (st' := [jI (s + kk), jR 47]) (hp' := hp) rfl ?_
              refine jE_iald (n := 60) (f := hp 47) rfl rfl (by omega) ?_
              refine jE_top (w := (X kk)) (pk.1) ?_
              refine jm_Ev.bl 7 (pc' := 172) (A' := [jR 43, jI i, jI a, jI b, jI s, jI N, jI (X a), jI (Y a), jI (X b - X a), jI (Y b - Y a), jI (jspan X Y a b), jI (jstp2 N a b), jI n, jI (s + kk), z2]) (st' := [jI (s + kk), jR 48, jI (((X kk) - (X a)) * (Y b - Y a))]) (hp' := hp) rfl ?_
              refine jE_iald (n := 60) (f := hp 48) rfl rfl (by omega) ?_
              refine jE_top (w := (Y kk)) (pk.2.1) ?_
              refine jm_Ev.bl 6 (pc' := 182) (A' := [jR 43, jI i, jI a, jI b, jI s, jI N, jI (X a), jI (Y a), jI (X b - X a), jI (Y b - Y a), jI (jspan X Y a b), jI (jstp2 N a b), jI n, jI (s + kk), jI ((((X kk) - (X a)) * (Y b - Y a)) - (((Y kk) - (Y a)) * (X b - X a)))]) (st' := []) (hp' := hp) rfl ?_
              rw [show ((((X kk) - (X a)) * (Y b - Y a)) - (((Y kk) - (Y a)) * (X b - X a))) = jfar X Y a kk b from rfl]
              refine jm_Ev.bl 2 (pc' := 185) (A' := [jR 43, jI i, jI a, jI b, jI s, jI N, jI (X a), jI (Y a), jI (X b - X a), jI (Y b - Y a), jI (jspan X Y a b), jI (jstp2 N a b), jI n, jI (s + kk), jI (jfar X Y a kk b)]) (st' := [jI (jfar X Y a kk b), jI 2]) (hp' := hp) rfl ?_
              refine jE_abs (nx := 188) rfl (by omega) ?_
              refine jm_Ev.bl 4 (pc' := 195) (A' := [jR 43, jI i, jI a, jI b, jI s, jI N, jI (X a), jI (Y a), jI (X b - X a), jI (Y b - Y a), jI (jspan X Y a b), jI (jstp2 N a b), jI n, jI (s + kk), jI (jfar X Y a kk b)]) (st' := [jI (s + kk), jR 50, jI (2 * (((jfar X Y a kk b)).natAbs : Int))]) (hp' := hp) rfl ?_
              refine jE_iald (n := 60) (f := hp 50) rfl rfl (by omega) ?_
              refine jE_top (w := (L kk)) (pk.2.2.1) ?_
              refine jm_Ev.bl 2 (pc' := 199) (A' := [jR 43, jI i, jI a, jI b, jI s, jI N, jI (X a), jI (Y a), jI (X b - X a), jI (Y b - Y a), jI (jspan X Y a b), jI (jstp2 N a b), jI n, jI (s + kk), jI (jfar X Y a kk b)]) (st' := [jI ((L kk) * (jspan X Y a b)), jI (2 * (((jfar X Y a kk b)).natAbs : Int))]) (hp' := hp) rfl ?_
              refine jE_icmp_le rfl (by omega) (by omega) (fun c199 => ?_) (fun c199 => ?_)
              · refine jm_Ev.bl 2 (pc' := 94) (A' := [jR 43, jI i, jI a, jI b, jI s, jI N, jI (X a), jI (Y a), jI (X b - X a), jI (Y b - Y a), jI (jspan X Y a b), jI (jstp2 N a b), jI (n + 1), jI (s + kk), jI (jfar X Y a kk b)]) (st' := []) (hp' := hp) rfl ?_
                have ht := hst.trans (show _ = true by rw [Bool.true_and]; exact decide_eq_true ⟨c148, by omega⟩)
                exact ih (n + 1) _ _ (by omega) (by omega) (by rw [show n + 1 - 1 = n by omega]; exact ht) (by omega)
              · refine jm_Ev.bl 1 (pc' := 203) (A' := [jR 43, jI i, jI a, jI b, jI s, jI N, jI (X a), jI (Y a), jI (X b - X a), jI (Y b - Y a), jI (jspan X Y a b), jI (jstp2 N a b), jI n, jI (s + kk), jI (jfar X Y a kk b)]) (st' := [jI 0]) (hp' := hp) rfl ?_
                have hf := hst.trans (show _ = false by rw [Bool.true_and]; exact decide_eq_false (fun z => by have := z.2; omega))
                exact jE_ret rfl ⟨jrI (by unfold jcan; rw [jcs_mono (m := n.toNat) (by omega) hf, Bool.and_false]; rfl), rfl⟩
            · refine jm_Ev.bl 1 (pc' := 152) (A' := [jR 43, jI i, jI a, jI b, jI s, jI N, jI (X a), jI (Y a), jI (X b - X a), jI (Y b - Y a), jI (jspan X Y a b), jI (jstp2 N a b), jI n, jI (s + kk), z2]) (st' := [jI 0]) (hp' := hp) rfl ?_
              have hf := hst.trans (show _ = false by rw [Bool.true_and]; exact decide_eq_false (fun z => c148 z.1))
              exact jE_ret rfl ⟨jrI (by unfold jcan; rw [jcs_mono (m := n.toNat) (by omega) hf, Bool.and_false]; rfl), rfl⟩
theorem c_o_canJoin_43 (hp : jm_H) (i s N : Int) (X Y L M : Int → Int) (hV : jVo_43 hp i s N X Y L M) (hW : jWy N X Y L M) (a b : Int) (ha : 0 ≤ a ∧ a < N) (hb : 0 ≤ b ∧ b < N) (hab : a ≠ b) : jm_Ev 73 0 [jR 43, jI i, jI a, jI b, jU, jU, jU, jU, jU, jU, jU, jU, jU, jU, jU] [] hp (jK (some (jI (jb (jcan N X Y L M a b)))) hp) := by
  obtain ⟨es, eN, s0, s60, hi, hpt⟩ := id hV
  have hN := hW.1
  have hN6 := hW.2.1
  have sp := jspan_r hW ha.1 ha.2 hb.1 hb.2
  have pa := hpt a ha.1 ha.2
  have pb := hpt b hb.1 hb.2
  have ra := hW.2.2 a ha.1 ha.2
  have rb := hW.2.2 b hb.1 hb.2
  refine jm_Ev.bl 2 (pc' := 2) (A' := [jR 43, jI i, jI a, jI b, jU, jU, jU, jU, jU, jU, jU, jU, jU, jU, jU]) (st' := [jI i, jR 43]) (hp' := hp) rfl ?_
  refine jE_callI (vs := [jR 43, jI i]) (r := []) (nx := 5) (v := jI s) (hp1 := hp) rfl (es ▸ c_o_startOf_43 hp i (by omega) (by omega)) ?_
  refine jm_Ev.bl 3 (pc' := 9) (A' := [jR 43, jI i, jI a, jI b, jI s, jU, jU, jU, jU, jU, jU, jU, jU, jU, jU]) (st' := [jI i, jR 43]) (hp' := hp) rfl ?_
  refine jE_callI (vs := [jR 43, jI i]) (r := []) (nx := 12) (v := jI N) (hp1 := hp) rfl (eN ▸ c_o_len_43 hp (by omega) i (by omega) (by omega)) ?_
  refine jm_Ev.bl 5 (pc' := 19) (A' := [jR 43, jI i, jI a, jI b, jI s, jI N, jU, jU, jU, jU, jU, jU, jU, jU, jU]) (st' := [jI (s + a), jR 43]) (hp' := hp) rfl ?_
  refine jE_callI (vs := [jR 43, jI (s + a)]) (r := []) (nx := 22) (v := jI (X a)) (hp1 := hp) rfl (pa.1 ▸ c_o_xAt_43 hp (s + a) (by omega) (by omega)) ?_
  refine jm_Ev.bl 5 (pc' := 29) (A' := [jR 43, jI i, jI a, jI b, jI s, jI N, jI (X a), jU, jU, jU, jU, jU, jU, jU, jU]) (st' := [jI (s + a), jR 43]) (hp' := hp) rfl ?_
  refine jE_callI (vs := [jR 43, jI (s + a)]) (r := []) (nx := 32) (v := jI (Y a)) (hp1 := hp) rfl (pa.2.1 ▸ c_o_yAt_43 hp (s + a) (by omega) (by omega)) ?_
  refine jm_Ev.bl 5 (pc' := 39) (A' := [jR 43, jI i, jI a, jI b, jI s, jI N, jI (X a), jI (Y a), jU, jU, jU, jU, jU, jU, jU]) (st' := [jI (s + b), jR 43]) (hp' := hp) rfl ?_
  refine jE_callI (vs := [jR 43, jI (s + b)]) (r := []) (nx := 42) (v := jI (X b)) (hp1 := hp) rfl (pb.1 ▸ c_o_xAt_43 hp (s + b) (by omega) (by omega)) ?_
  refine jm_Ev.bl 7 (pc' := 52) (A' := [jR 43, jI i, jI a, jI b, jI s, jI N, jI (X a), jI (Y a), jI ((X b) - (X a)), jU, jU, jU, jU, jU, jU]) (st' := [jI (s + b), jR 43]) (hp' := hp) rfl ?_
  refine jE_callI (vs := [jR 43, jI (s + b)]) (r := []) (nx := 55) (v := jI (Y b)) (hp1 := hp) rfl (pb.2.1 ▸ c_o_yAt_43 hp (s + b) (by omega) (by omega)) ?_
  refine jm_Ev.bl 4 (pc' := 62) (A' := [jR 43, jI i, jI a, jI b, jI s, jI N, jI (X a), jI (Y a), jI ((X b) - (X a)), jI ((Y b) - (Y a)), jU, jU, jU, jU, jU]) (st' := [jI ((X b) - (X a))]) (hp' := hp) rfl ?_
  refine jE_abs (nx := 65) rfl (by omega) ?_
  refine jm_Ev.bl 1 (pc' := 67) (A' := [jR 43, jI i, jI a, jI b, jI s, jI N, jI (X a), jI (Y a), jI ((X b) - (X a)), jI ((Y b) - (Y a)), jU, jU, jU, jU, jU]) (st' := [jI ((Y b) - (Y a)), jI ((((X b) - (X a))).natAbs : Int)]) (hp' := hp) rfl ?_
  refine jE_abs (nx := 70) rfl (by omega) ?_
  refine jE_max (nx := 73) rfl (by omega) (by omega) ?_
  refine jE_top (w := (jspan X Y a b)) (rfl) ?_
  refine jm_Ev.bl 2 (pc' := 77) (A' := [jR 43, jI i, jI a, jI b, jI s, jI N, jI (X a), jI (Y a), jI ((X b) - (X a)), jI ((Y b) - (Y a)), jI (jspan X Y a b), jU, jU, jU, jU]) (st' := [jI (jspan X Y a b)]) (hp' := hp) rfl ?_
  refine jE_if_ne rfl (by omega) (fun c77 => ?_) (fun c77 => ?_)
  · refine jm_Ev.bl 3 (pc' := 86) (A' := [jR 43, jI i, jI a, jI b, jI s, jI N, jI (X a), jI (Y a), jI ((X b) - (X a)), jI ((Y b) - (Y a)), jI (jspan X Y a b), jU, jU, jU, jU]) (st' := [jI N, jI b, jI a]) (hp' := hp) rfl ?_
    refine jE_callI (vs := [jI a, jI b, jI N]) (r := []) (nx := 89) (v := jI (jstp2 N a b)) (hp1 := hp) rfl (c_o_steps hp a b N (by omega) (by omega)) ?_
    refine jm_Ev.bl 3 (pc' := 94) (A' := [jR 43, jI i, jI a, jI b, jI s, jI N, jI (X a), jI (Y a), jI ((X b) - (X a)), jI ((Y b) - (Y a)), jI (jspan X Y a b), jI (jstp2 N a b), jI 1, jU, jU]) (st' := []) (hp' := hp) rfl ?_
    exact c_o_can_L_43 hp i s N X Y L M hV hW a b ha hb c77 61 1 _ _ (by omega) (by unfold jstp2; split <;> omega) rfl (by unfold jstp2; split <;> omega)
  · refine jm_Ev.bl 1 (pc' := 81) (A' := [jR 43, jI i, jI a, jI b, jI s, jI N, jI (X a), jI (Y a), jI ((X b) - (X a)), jI ((Y b) - (Y a)), jI (jspan X Y a b), jU, jU, jU, jU]) (st' := [jI 0]) (hp' := hp) rfl ?_
    exact jE_ret rfl ⟨jrI (by unfold jcan; rw [decide_eq_false (fun z => z c77)]; rfl), rfl⟩
