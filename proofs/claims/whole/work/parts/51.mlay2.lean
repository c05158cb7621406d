/-! the model's layOutlines -/
theorem jcand_p {p n : Nat} (hn : n < 4) : jcand (4 * p + n) = (((p : Int) / 6), ((p : Int) % 6), if n = 0 then 2 else if n = 1 then 3 else if n = 2 then 1 else 0) := by
  have e1 : (4 * p + n) / 4 = p := by omega
  have e2 : (4 * p + n) % 4 = n := by omega
  unfold jcand
  rw [e1, e2]
  simp
set_option maxHeartbeats 400000 in
theorem c_m_lay_n {Q : Option jm_V → jm_H → Prop} (hp : jm_H) (hM : jMG hp) (p : Nat) (hp36 : p < 36) (k : ∀ (h : jm_H) (z1 z2 z3 : jm_V), jMF h (jSc (jgk (hp 56 6) (hp 56 7) (hp 58)) (4 * p + 4)).flatten → jMO h (jgk (hp 56 6) (hp 56 7) (hp 58)) (jSc (jgk (hp 56 6) (hp 56 7) (hp 58)) (4 * p + 4)) → jFq hp h [59, 60, 61, 62, 63, 64, 66] [11] → jm_Ev 155 140 [jR 56, jI (p : Int), jI 4, z1, z2, z3] [] h Q) : ∀ (m : Nat) (n : Nat) (z1 z2 z3 : jm_V) (h : jm_H), n ≤ 4 → jMF h (jSc (jgk (hp 56 6) (hp 56 7) (hp 58)) (4 * p + n)).flatten → jMO h (jgk (hp 56 6) (hp 56 7) (hp 58)) (jSc (jgk (hp 56 6) (hp 56 7) (hp 58)) (4 * p + n)) → jFq hp h [59, 60, 61, 62, 63, 64, 66] [11] → 4 - n < m → jm_Ev 155 37 [jR 56, jI (p : Int), jI (n : Int), z1, z2, z3] [] h Q := by
  have hK : jK5 (jgk (hp 56 6) (hp 56 7) (hp 58)) := jK5_of hM.2.1 hM.2.2.2.1
  intro m
  induction m with
  | zero => intro n z1 z2 z3 h hn hMF hMO hf hm; omega
  | succ m ih =>
    intro n z1 z2 z3 h hn hMF hMO hf hm
    have eW : h 56 6 = hp 56 6 := hf.fd 6 (by decide) (by decide)
    have eH : h 56 7 = hp 56 7 := hf.fd 7 (by decide) (by decide)
    have hK1 : jgk (h 56 6) (h 56 7) (h 58) = (jgk (hp 56 6) (hp 56 7) (hp 58)) := by rw [eW, eH, hf.pl 58 (by decide) (by decide)]
    have hM1 : jMG h := by unfold jMG; rw [eW, eH, hf.pl 58 (by decide) (by decide)]; exact hM
    obtain ⟨hw0, hw5, hh0, hh5, hk5⟩ := id hM
    obtain ⟨W, hW⟩ : ∃ W : Int, W = if n = 0 then 2 else if n = 1 then 3 else if n = 2 then 1 else 0 := ⟨_, rfl⟩
    have hWr : 0 ≤ W ∧ W ≤ 3 := by rw [hW]; (repeat' split) <;> omega
    obtain ⟨c, hc⟩ : ∃ c, c = 4 * p + n := ⟨_, rfl⟩
    have hSs : n < 4 → jSc (jgk (hp 56 6) (hp 56 7) (hp 58)) (c + 1) = if jed (jgk (hp 56 6) (hp 56 7) (hp 58)) ((p : Int) / 6) ((p : Int) % 6) W = true ∧ ((p : Int) / 6, (p : Int) % 6, W) ∉ (jSc (jgk (hp 56 6) (hp 56 7) (hp 58)) c).flatten then jSc (jgk (hp 56 6) (hp 56 7) (hp 58)) c ++ [jorb (jgk (hp 56 6) (hp 56 7) (hp 58)) ((p : Int) / 6, (p : Int) % 6, W)] else jSc (jgk (hp 56 6) (hp 56 7) (hp 58)) c := fun h4 => by
      rw [jSc_s, hc, jcand_p h4, ← hW]
    have hMFc := hMF
    have hMOc := hMO
    rw [← hc] at hMFc hMOc
    refine jm_Ev.bl 2 (pc' := 39) (A' := [jR 56, jI (p : Int), jI (n : Int), z1, z2, z3]) (st' := [jI 4, jI (n : Int)]) (hp' := h) rfl ?_
    refine jE_icmp_ge rfl (by omega) (by omega) (fun c39 => ?_) (fun c39 => ?_)
    · have e : n = 4 := by omega
      subst e
      exact k h z1 z2 z3 hMF hMO hf
    · refine jm_Ev.bl 1 (pc' := 43) (A' := [jR 56, jI (p : Int), jI (n : Int), z1, z2, z3]) (st' := [jI (n : Int)]) (hp' := h) rfl ?_
      refine jE_if_ne rfl (by omega) (fun c43 => ?_) (fun c43 => ?_)
      · refine jm_Ev.bl 2 (pc' := 52) (A' := [jR 56, jI (p : Int), jI (n : Int), z1, z2, z3]) (st' := [jI 1, jI (n : Int)]) (hp' := h) rfl ?_
        refine jE_icmp_ne rfl (by omega) (by omega) (fun c52 => ?_) (fun c52 => ?_)
        · refine jm_Ev.bl 2 (pc' := 61) (A' := [jR 56, jI (p : Int), jI (n : Int), z1, z2, z3]) (st' := [jI 2, jI (n : Int)]) (hp' := h) rfl ?_
          refine jE_icmp_ne rfl (by omega) (by omega) (fun c61 => ?_) (fun c61 => ?_)
          · refine jm_Ev.bl 1 (pc' := 69) (A' := [jR 56, jI (p : Int), jI (n : Int), z1, z2, z3]) (st' := [jI 0]) (hp' := h) rfl ?_
            refine jE_top (w := W) (by rw [hW]; (repeat' split) <;> omega) ?_
            refine jm_Ev.bl 3 (pc' := 73) (A' := [jR 56, jI (p : Int), jI (n : Int), jI W, z2, z3]) (st' := [jI 6, jI (p : Int)]) (hp' := h) rfl ?_
            refine jE_idiv rfl (by omega) (by omega) ?_
            refine jm_Ev.bl 3 (pc' := 79) (A' := [jR 56, jI (p : Int), jI (n : Int), jI W, jI ((p : Int) / 6), z3]) (st' := [jI 6, jI (p : Int)]) (hp' := h) rfl ?_
            refine jE_irem rfl (by omega) (by omega) ?_
            refine jm_Ev.bl 4 (pc' := 88) (A' := [jR 56, jI (p : Int), jI (n : Int), jI W, jI ((p : Int) / 6), jI ((p : Int) % 6)]) (st' := [jI (h 56 6), jI ((p : Int) / 6)]) (hp' := h) rfl ?_
            refine jE_icmp_gt rfl (by omega) (by omega) (fun c88 => ?_) (fun c88 => ?_)
            · refine jm_Ev.bl 2 (pc' := 37) (A' := [jR 56, jI (p : Int), jI ((n : Int) + 1), jI W, jI ((p : Int) / 6), jI ((p : Int) % 6)]) (st' := []) (hp' := h) rfl ?_
              have hS1 : jSc (jgk (hp 56 6) (hp 56 7) (hp 58)) (4 * p + (n + 1)) = jSc (jgk (hp 56 6) (hp 56 7) (hp 58)) c := by rw [show 4 * p + (n + 1) = c + 1 by omega, hSs (by omega), if_neg (fun z => by have := jE_wh (x := (p : Int) / 6) (y := (p : Int) % 6) (z := W) ⟨hWr.1, hWr.2, z.1⟩; omega)]
              exact ih (n + 1) (jI W) (jI ((p : Int) / 6)) (jI ((p : Int) % 6)) h (by omega) (by rw [hS1]; exact hMFc) (by rw [hS1]; exact hMOc) hf (by omega)
            · refine jm_Ev.bl 3 (pc' := 97) (A' := [jR 56, jI (p : Int), jI (n : Int), jI W, jI ((p : Int) / 6), jI ((p : Int) % 6)]) (st' := [jI (h 56 7), jI ((p : Int) % 6)]) (hp' := h) rfl ?_
              refine jE_icmp_gt rfl (by omega) (by omega) (fun c97 => ?_) (fun c97 => ?_)
              · refine jm_Ev.bl 2 (pc' := 37) (A' := [jR 56, jI (p : Int), jI ((n : Int) + 1), jI W, jI ((p : Int) / 6), jI ((p : Int) % 6)]) (st' := []) (hp' := h) rfl ?_
                have hS1 : jSc (jgk (hp 56 6) (hp 56 7) (hp 58)) (4 * p + (n + 1)) = jSc (jgk (hp 56 6) (hp 56 7) (hp 58)) c := by rw [show 4 * p + (n + 1) = c + 1 by omega, hSs (by omega), if_neg (fun z => by have := jE_wh (x := (p : Int) / 6) (y := (p : Int) % 6) (z := W) ⟨hWr.1, hWr.2, z.1⟩; omega)]
                exact ih (n + 1) (jI W) (jI ((p : Int) / 6)) (jI ((p : Int) % 6)) h (by omega) (by rw [hS1]; exact hMFc) (by rw [hS1]; exact hMOc) hf (by omega)
              · refine jm_Ev.bl 4 (pc' := 106) (A' := [jR 56, jI (p : Int), jI (n : Int), jI W, jI ((p : Int) / 6), jI ((p : Int) % 6)]) (st' := [jI W, jI ((p : Int) % 6), jI ((p : Int) / 6), jR 56]) (hp' := h) rfl ?_
                refine jE_callI (vs := [jR 56, jI ((p : Int) / 6), jI ((p : Int) % 6), jI W]) (r := []) (nx := 109) (v := jI (jb (jed (jgk (hp 56 6) (hp 56 7) (hp 58)) ((p : Int) / 6) ((p : Int) % 6) W))) (hp1 := h) rfl (hK1 ▸ c_m_isEdge h hM1 ((p : Int) / 6) ((p : Int) % 6) W (by omega) (by omega) (by omega)) ?_
                refine jE_ifb_eq rfl (fun c109 => ?_) (fun c109 => ?_)
                · refine jm_Ev.bl 2 (pc' := 37) (A' := [jR 56, jI (p : Int), jI ((n : Int) + 1), jI W, jI ((p : Int) / 6), jI ((p : Int) % 6)]) (st' := []) (hp' := h) rfl ?_
                  have hS1 : jSc (jgk (hp 56 6) (hp 56 7) (hp 58)) (4 * p + (n + 1)) = jSc (jgk (hp 56 6) (hp 56 7) (hp 58)) c := by rw [show 4 * p + (n + 1) = c + 1 by omega, hSs (by omega), if_neg (fun z => by rw [c109] at z; exact absurd z.1 (by simp))]
                  exact ih (n + 1) (jI W) (jI ((p : Int) / 6)) (jI ((p : Int) % 6)) h (by omega) (by rw [hS1]; exact hMFc) (by rw [hS1]; exact hMOc) hf (by omega)
                · refine jm_Ev.bl 7 (pc' := 121) (A' := [jR 56, jI (p : Int), jI (n : Int), jI W, jI ((p : Int) / 6), jI ((p : Int) % 6)]) (st' := [jI ((4 * (p : Int)) + W), jR 66]) (hp' := h) rfl ?_
                  refine jE_iald (n := 144) (f := h 66) rfl rfl (by omega) ?_
                  have hg := hMFc.1 ((p : Int) / 6) ((p : Int) % 6) W (by omega) (by omega) (by omega) (by omega) hWr.1 hWr.2
                  have hpm := Int.mul_ediv_add_emod (p : Int) 6
                  rw [show 4 * (6 * ((p : Int) / 6) + (p : Int) % 6) + W = 4 * (p : Int) + W by omega] at hg
                  have hgr : 0 ≤ h 66 (4 * (p : Int) + W) ∧ h 66 (4 * (p : Int) + W) ≤ 1 := by rw [hg]; split <;> omega
                  refine jE_if_ne rfl (by omega) (fun c122 => ?_) (fun c122 => ?_)
                  · refine jm_Ev.bl 2 (pc' := 37) (A' := [jR 56, jI (p : Int), jI ((n : Int) + 1), jI W, jI ((p : Int) / 6), jI ((p : Int) % 6)]) (st' := []) (hp' := h) rfl ?_
                    have hS1 : jSc (jgk (hp 56 6) (hp 56 7) (hp 58)) (4 * p + (n + 1)) = jSc (jgk (hp 56 6) (hp 56 7) (hp 58)) c := by rw [show 4 * p + (n + 1) = c + 1 by omega, hSs (by omega), if_neg (fun z => by rw [if_neg z.2] at hg; exact c122 hg)]
                    exact ih (n + 1) (jI W) (jI ((p : Int) / 6)) (jI ((p : Int) % 6)) h (by omega) (by rw [hS1]; exact hMFc) (by rw [hS1]; exact hMOc) hf (by omega)
                  · have hnin : ((p : Int) / 6, (p : Int) % 6, W) ∉ (jSc (jgk (hp 56 6) (hp 56 7) (hp 58)) c).flatten := fun z => by rw [if_pos z] at hg; omega
                    refine jm_Ev.bl 4 (pc' := 131) (A' := [jR 56, jI (p : Int), jI (n : Int), jI W, jI ((p : Int) / 6), jI ((p : Int) % 6)]) (st' := [jI W, jI ((p : Int) % 6), jI ((p : Int) / 6), jR 56]) (hp' := h) rfl ?_
                    refine jE_call (vs := [jR 56, jI ((p : Int) / 6), jI ((p : Int) % 6), jI W]) (r := []) (nx := 134) rfl (c_m_walk h hM1 (jgk (hp 56 6) (hp 56 7) (hp 58)) hK1 hK (jSc (jgk (hp 56 6) (hp 56 7) (hp 58)) c) (jSc_inv hK c) ((p : Int) / 6) ((p : Int) % 6) W ⟨hWr.1, hWr.2, c109⟩ hnin hMFc hMOc) (fun rv131 h1 hq => ?_)
                    obtain ⟨rfl, q1, q2, q3⟩ := hq
                    refine jm_Ev.bl 2 (pc' := 37) (A' := [jR 56, jI (p : Int), jI ((n : Int) + 1), jI W, jI ((p : Int) / 6), jI ((p : Int) % 6)]) (st' := []) (hp' := h1) rfl ?_
                    have hS1 : jSc (jgk (hp 56 6) (hp 56 7) (hp 58)) (4 * p + (n + 1)) = jSc (jgk (hp 56 6) (hp 56 7) (hp 58)) c ++ [jorb (jgk (hp 56 6) (hp 56 7) (hp 58)) ((p : Int) / 6, (p : Int) % 6, W)] := by rw [show 4 * p + (n + 1) = c + 1 by omega, hSs (by omega), if_pos ⟨c109, hnin⟩]
                    exact ih (n + 1) (jI W) (jI ((p : Int) / 6)) (jI ((p : Int) % 6)) h1 (by omega) (by rw [hS1]; exact q1) (by rw [hS1]; exact q2) (hf.tr q3 (by simp) (by simp) (by simp) (by simp)) (by omega)
          · refine jm_Ev.bl 2 (pc' := 69) (A' := [jR 56, jI (p : Int), jI (n : Int), z1, z2, z3]) (st' := [jI 1]) (hp' := h) rfl ?_
            refine jE_top (w := W) (by rw [hW]; (repeat' split) <;> omega) ?_
            refine jm_Ev.bl 3 (pc' := 73) (A' := [jR 56, jI (p : Int), jI (n : Int), jI W, z2, z3]) (st' := [jI 6, jI (p : Int)]) (hp' := h) rfl ?_
            refine jE_idiv rfl (by omega) (by omega) ?_
            refine jm_Ev.bl 3 (pc' := 79) (A' := [jR 56, jI (p : Int), jI (n : Int), jI W, jI ((p : Int) / 6), z3]) (st' := [jI 6, jI (p : Int)]) (hp' := h) rfl ?_
            refine jE_irem rfl (by omega) (by omega) ?_
            refine jm_Ev.bl 4 (pc' := 88) (A' := [jR 56, jI (p : Int), jI (n : Int), jI W, jI ((p : Int) / 6), jI ((p : Int) % 6)]) (st' := [jI (h 56 6), jI ((p : Int) / 6)]) (hp' := h) rfl ?_
            refine jE_icmp_gt rfl (by omega) (by omega) (fun c88 => ?_) (fun c88 => ?_)
            · refine jm_Ev.bl 2 (pc' := 37) (A' := [jR 56, jI (p : Int), jI ((n : Int) + 1), jI W, jI ((p : Int) / 6), jI ((p : Int) % 6)]) (st' := []) (hp' := h) rfl ?_
              have hS1 : jSc (jgk (hp 56 6) (hp 56 7) (hp 58)) (4 * p + (n + 1)) = jSc (jgk (hp 56 6) (hp 56 7) (hp 58)) c := by rw [show 4 * p + (n + 1) = c + 1 by omega, hSs (by omega), if_neg (fun z => by have := jE_wh (x := (p : Int) / 6) (y := (p : Int) % 6) (z := W) ⟨hWr.1, hWr.2, z.1⟩; omega)]
              exact ih (n + 1) (jI W) (jI ((p : Int) / 6)) (jI ((p : Int) % 6)) h (by omega) (by rw [hS1]; exact hMFc) (by rw [hS1]; exact hMOc) hf (by omega)
            · refine jm_Ev.bl 3 (pc' := 97) (A' := [jR 56, jI (p : Int), jI (n : Int), jI W, jI ((p : Int) / 6), jI ((p : Int) % 6)]) (st' := [jI (h 56 7), jI ((p : Int) % 6)]) (hp' := h) rfl ?_
              refine jE_icmp_gt rfl (by omega) (by omega) (fun c97 => ?_) (fun c97 => ?_)
              · refine jm_Ev.bl 2 (pc' := 37) (A' := [jR 56, jI (p : Int), jI ((n : Int) + 1), jI W, jI ((p : Int) / 6), jI ((p : Int) % 6)]) (st' := []) (hp' := h) rfl ?_
                have hS1 : jSc (jgk (hp 56 6) (hp 56 7) (hp 58)) (4 * p + (n + 1)) = jSc (jgk (hp 56 6) (hp 56 7) (hp 58)) c := by rw [show 4 * p + (n + 1) = c + 1 by omega, hSs (by omega), if_neg (fun z => by have := jE_wh (x := (p : Int) / 6) (y := (p : Int) % 6) (z := W) ⟨hWr.1, hWr.2, z.1⟩; omega)]
                exact ih (n + 1) (jI W) (jI ((p : Int) / 6)) (jI ((p : Int) % 6)) h (by omega) (by rw [hS1]; exact hMFc) (by rw [hS1]; exact hMOc) hf (by omega)
              · refine jm_Ev.bl 4 (pc' := 106) (A' := [jR 56, jI (p : Int), jI (n : Int), jI W, jI ((p : Int) / 6), jI ((p : Int) % 6)]) (st' := [jI W, jI ((p : Int) % 6), jI ((p : Int) / 6), jR 56]) (hp' := h) rfl ?_
                refine jE_callI (vs := [jR 56, jI ((p : Int) / 6), jI ((p : Int) % 6), jI W]) (r := []) (nx := 109) (v := jI (jb (jed (jgk (hp 56 6) (hp 56 7) (hp 58)) ((p : Int) / 6) ((p : Int) % 6) W))) (hp1 := h) rfl (hK1 ▸ c_m_isEdge h hM1 ((p : Int) / 6) ((p : Int) % 6) W (by omega) (by omega) (by omega)) ?_
                refine jE_ifb_eq rfl (fun c109 => ?_) (fun c109 => ?_)
                · refine jm_Ev.bl 2 (pc' := 37) (A' := [jR 56, jI (p : Int), jI ((n : Int) + 1), jI W, jI ((p : Int) / 6), jI ((p : Int) % 6)]) (st' := []) (hp' := h) rfl ?_
                  have hS1 : jSc (jgk (hp 56 6) (hp 56 7) (hp 58)) (4 * p + (n + 1)) = jSc (jgk (hp 56 6) (hp 56 7) (hp 58)) c := by rw [show 4 * p + (n + 1) = c + 1 by omega, hSs (by omega), if_neg (fun z => by rw [c109] at z; exact absurd z.1 (by simp))]
                  exact ih (n + 1) (jI W) (jI ((p : Int) / 6)) (jI ((p : Int) % 6)) h (by omega) (by rw [hS1]; exact hMFc) (by rw [hS1]; exact hMOc) hf (by omega)
                · refine jm_Ev.bl 7 (pc' := 121) (A' := [jR 56, jI (p : Int), jI (n : Int), jI W, jI ((p : Int) / 6), jI ((p : Int) % 6)]) (st' := [jI ((4 * (p : Int)) + W), jR 66]) (hp' := h) rfl ?_
                  refine jE_iald (n := 144) (f := h 66) rfl rfl (by omega) ?_
                  have hg := hMFc.1 ((p : Int) / 6) ((p : Int) % 6) W (by omega) (by omega) (by omega) (by omega) hWr.1 hWr.2
                  have hpm := Int.mul_ediv_add_emod (p : Int) 6
                  rw [show 4 * (6 * ((p : Int) / 6) + (p : Int) % 6) + W = 4 * (p : Int) + W by omega] at hg
                  have hgr : 0 ≤ h 66 (4 * (p : Int) + W) ∧ h 66 (4 * (p : Int) + W) ≤ 1 := by rw [hg]; split <;> omega
                  refine jE_if_ne rfl (by omega) (fun c122 => ?_) (fun c122 => ?_)
                  · refine jm_Ev.bl 2 (pc' := 37) (A' := [jR 56, jI (p : Int), jI ((n : Int) + 1), jI W, jI ((p : Int) / 6), jI ((p : Int) % 6)]) (st' := []) (hp' := h) rfl ?_
                    have hS1 : jSc (jgk (hp 56 6) (hp 56 7) (hp 58)) (4 * p + (n + 1)) = jSc (jgk (hp 56 6) (hp 56 7) (hp 58)) c := by rw [show 4 * p + (n + 1) = c + 1 by omega, hSs (by omega), if_neg (fun z => by rw [if_neg z.2] at hg; exact c122 hg)]
                    exact ih (n + 1) (jI W) (jI ((p : Int) / 6)) (jI ((p : Int) % 6)) h (by omega) (by rw [hS1]; exact hMFc) (by rw [hS1]; exact hMOc) hf (by omega)
                  · have hnin : ((p : Int) / 6, (p : Int) % 6, W) ∉ (jSc (jgk (hp 56 6) (hp 56 7) (hp 58)) c).flatten := fun z => by rw [if_pos z] at hg; omega
                    refine jm_Ev.bl 4 (pc' := 131) (A' := [jR 56, jI (p : Int), jI (n : Int), jI W, jI ((p : Int) / 6), jI ((p : Int) % 6)]) (st' := [jI W, jI ((p : Int) % 6), jI ((p : Int) / 6), jR 56]) (hp' := h) rfl ?_
                    refine jE_call (vs := [jR 56, jI ((p : Int) / 6), jI ((p : Int) % 6), jI W]) (r := []) (nx := 134) rfl (c_m_walk h hM1 (jgk (hp 56 6) (hp 56 7) (hp 58)) hK1 hK (jSc (jgk (hp 56 6) (hp 56 7) (hp 58)) c) (jSc_inv hK c) ((p : Int) / 6) ((p : Int) % 6) W ⟨hWr.1, hWr.2, c109⟩ hnin hMFc hMOc) (fun rv131 h1 hq => ?_)
                    obtain ⟨rfl, q1, q2, q3⟩ := hq
                    refine jm_Ev.bl 2 (pc' := 37) (A' := [jR 56, jI (p : Int), jI ((n : Int) + 1), jI W, jI ((p : Int) / 6), jI ((p : Int) % 6)]) (st' := []) (hp' := h1) rfl ?_
                    have hS1 : jSc (jgk (hp 56 6) (hp 56 7) (hp 58)) (4 * p + (n + 1)) = jSc (jgk (hp 56 6) (hp 56 7) (hp 58)) c ++ [jorb (jgk (hp 56 6) (hp 56 7) (hp 58)) ((p : Int) / 6, (p : Int) % 6, W)] := by rw [show 4 * p + (n + 1) = c + 1 by omega, hSs (by omega), if_pos ⟨c109, hnin⟩]
                    exact ih (n + 1) (jI W) (jI ((p : Int) / 6)) (jI ((p : Int) % 6)) h1 (by omega) (by rw [hS1]; exact q1) (by rw [hS1]; exact q2) (hf.tr q3 (by simp) (by simp) (by simp) (by simp)) (by omega)
        · refine jm_Ev.bl 2 (pc' := 69) (A' := [jR 56, jI (p : Int), jI (n : Int), z1, z2, z3]) (st' := [jI 3]) (hp' := h) rfl ?_
          refine jE_top (w := W) (by rw [hW]; (repeat' split) <;> omega) ?_
          refine jm_Ev.bl 3 (pc' := 73) (A' := [jR 56, jI (p : Int), jI (n : Int), jI W, z2, z3]) (st' := [jI 6, jI (p : Int)]) (hp' := h) rfl ?_
          refine jE_idiv rfl (by omega) (by omega) ?_
          refine jm_Ev.bl 3 (pc' := 79) (A' := [jR 56, jI (p : Int), jI (n : Int), jI W, jI ((p : Int) / 6), z3]) (st' := [jI 6, jI (p : Int)]) (hp' := h) rfl ?_
          refine jE_irem rfl (by omega) (by omega) ?_
          refine jm_Ev.bl 4 (pc' := 88) (A' := [jR 56, jI (p : Int), jI (n : Int), jI W, jI ((p : Int) / 6), jI ((p : Int) % 6)]) (st' := [jI (h 56 6), jI ((p : Int) / 6)]) (hp' := h) rfl ?_
          refine jE_icmp_gt rfl (by omega) (by omega) (fun c88 => ?_) (fun c88 => ?_)
          · refine jm_Ev.bl 2 (pc' := 37) (A' := [jR 56, jI (p : Int), jI ((n : Int) + 1), jI W, jI ((p : Int) / 6), jI ((p : Int) % 6)]) (st' := []) (hp' := h) rfl ?_
            have hS1 : jSc (jgk (hp 56 6) (hp 56 7) (hp 58)) (4 * p + (n + 1)) = jSc (jgk (hp 56 6) (hp 56 7) (hp 58)) c := by rw [show 4 * p + (n + 1) = c + 1 by omega, hSs (by omega), if_neg (fun z => by have := jE_wh (x := (p : Int) / 6) (y := (p : Int) % 6) (z := W) ⟨hWr.1, hWr.2, z.1⟩; omega)]
            exact ih (n + 1) (jI W) (jI ((p : Int) / 6)) (jI ((p : Int) % 6)) h (by omega) (by rw [hS1]; exact hMFc) (by rw [hS1]; exact hMOc) hf (by omega)
          · refine jm_Ev.bl 3 (pc' := 97) (A' := [jR 56, jI (p : Int), jI (n : Int), jI W, jI ((p : Int) / 6), jI ((p : Int) % 6)]) (st' := [jI (h 56 7), jI ((p : Int) % 6)]) (hp' := h) rfl ?_
            refine jE_icmp_gt rfl (by omega) (by omega) (fun c97 => ?_) (fun c97 => ?_)
            · refine jm_Ev.bl 2 (pc' := 37) (A' := [jR 56, jI (p : Int), jI ((n : Int) + 1), jI W, jI ((p : Int) / 6), jI ((p : Int) % 6)]) (st' := []) (hp' := h) rfl ?_
              have hS1 : jSc (jgk (hp 56 6) (hp 56 7) (hp 58)) (4 * p + (n + 1)) = jSc (jgk (hp 56 6) (hp 56 7) (hp 58)) c := by rw [show 4 * p + (n + 1) = c + 1 by omega, hSs (by omega), if_neg (fun z => by have := jE_wh (x := (p : Int) / 6) (y := (p : Int) % 6) (z := W) ⟨hWr.1, hWr.2, z.1⟩; omega)]
              exact ih (n + 1) (jI W) (jI ((p : Int) / 6)) (jI ((p : Int) % 6)) h (by omega) (by rw [hS1]; exact hMFc) (by rw [hS1]; exact hMOc) hf (by omega)
            · refine jm_Ev.bl 4 (pc' := 106) (A' := [jR 56, jI (p : Int), jI (n : Int), jI W, jI ((p : Int) / 6), jI ((p : Int) % 6)]) (st' := [jI W, jI ((p : Int) % 6), jI ((p : Int) / 6), jR 56]) (hp' := h) rfl ?_
              refine jE_callI (vs := [jR 56, jI ((p : Int) / 6), jI ((p : Int) % 6), jI W]) (r := []) (nx := 109) (v := jI (jb (jed (jgk (hp 56 6) (hp 56 7) (hp 58)) ((p : Int) / 6) ((p : Int) % 6) W))) (hp1 := h) rfl (hK1 ▸ c_m_isEdge h hM1 ((p : Int) / 6) ((p : Int) % 6) W (by omega) (by omega) (by omega)) ?_
              refine jE_ifb_eq rfl (fun c109 => ?_) (fun c109 => ?_)
              · refine jm_Ev.bl 2 (pc' := 37) (A' := [jR 56, jI (p : Int), jI ((n : Int) + 1), jI W, jI ((p : Int) / 6), jI ((p : Int) % 6)]) (st' := []) (hp' := h) rfl ?_
                have hS1 : jSc (jgk (hp 56 6) (hp 56 7) (hp 58)) (4 * p + (n + 1)) = jSc (jgk (hp 56 6) (hp 56 7) (hp 58)) c := by rw [show 4 * p + (n + 1) = c + 1 by omega, hSs (by omega), if_neg (fun z => by rw [c109] at z; exact absurd z.1 (by simp))]
                exact ih (n + 1) (jI W) (jI ((p : Int) / 6)) (jI ((p : Int) % 6)) h (by omega) (by rw [hS1]; exact hMFc) (by rw [hS1]; exact hMOc) hf (by omega)
              · refine jm_Ev.bl 7 (pc' := 121) (A' := [jR 56, jI (p : Int), jI (n : Int), jI W, jI ((p : Int) / 6), jI ((p : Int) % 6)]) (st' := [jI ((4 * (p : Int)) + W), jR 66]) (hp' := h) rfl ?_
                refine jE_iald (n := 144) (f := h 66) rfl rfl (by omega) ?_
                have hg := hMFc.1 ((p : Int) / 6) ((p : Int) % 6) W (by omega) (by omega) (by omega) (by omega) hWr.1 hWr.2
                have hpm := Int.mul_ediv_add_emod (p : Int) 6
                rw [show 4 * (6 * ((p : Int) / 6) + (p : Int) % 6) + W = 4 * (p : Int) + W by omega] at hg
                have hgr : 0 ≤ h 66 (4 * (p : Int) + W) ∧ h 66 (4 * (p : Int) + W) ≤ 1 := by rw [hg]; split <;> omega
                refine jE_if_ne rfl (by omega) (fun c122 => ?_) (fun c122 => ?_)
                · refine jm_Ev.bl 2 (pc' := 37) (A' := [jR 56, jI (p : Int), jI ((n : Int) + 1), jI W, jI ((p : Int) / 6), jI ((p : Int) % 6)]) (st' := []) (hp' := h) rfl ?_
                  have hS1 : jSc (jgk (hp 56 6) (hp 56 7) (hp 58)) (4 * p + (n + 1)) = jSc (jgk (hp 56 6) (hp 56 7) (hp 58)) c := by rw [show 4 * p + (n + 1) = c + 1 by omega, hSs (by omega), if_neg (fun z => by rw [if_neg z.2] at hg; exact c122 hg)]
                  exact ih (n + 1) (jI W) (jI ((p : Int) / 6)) (jI ((p : Int) % 6)) h (by omega) (by rw [hS1]; exact hMFc) (by rw [hS1]; exact hMOc) hf (by omega)
                · have hnin : ((p : Int) / 6, (p : Int) % 6, W) ∉ (jSc (jgk (hp 56 6) (hp 56 7) (hp 58)) c).flatten := fun z => by rw [if_pos z] at hg; omega
                  refine jm_Ev.bl 4 (pc' := 131) (A' := [jR 56, jI (p : Int), jI (n : Int), jI W, jI ((p : Int) / 6), jI ((p : Int) % 6)]) (st' := [jI W, jI ((p : Int) % 6), jI ((p : Int) / 6), jR 56]) (hp' := h) rfl ?_
                  refine jE_call (vs := [jR 56, jI ((p : Int) / 6), jI ((p : Int) % 6), jI W]) (r := []) (nx := 134) rfl (c_m_walk h hM1 (jgk (hp 56 6) (hp 56 7) (hp 58)) hK1 hK (jSc (jgk (hp 56 6) (hp 56 7) (hp 58)) c) (jSc_inv hK c) ((p : Int) / 6) ((p : Int) % 6) W ⟨hWr.1, hWr.2, c109⟩ hnin hMFc hMOc) (fun rv131 h1 hq => ?_)
                  obtain ⟨rfl, q1, q2, q3⟩ := hq
                  refine jm_Ev.bl 2 (pc' := 37) (A' := [jR 56, jI (p : Int), jI ((n : Int) + 1), jI W, jI ((p : Int) / 6), jI ((p : Int) % 6)]) (st' := []) (hp' := h1) rfl ?_
                  have hS1 : jSc (jgk (hp 56 6) (hp 56 7) (hp 58)) (4 * p + (n + 1)) = jSc (jgk (hp 56 6) (hp 56 7) (hp 58)) c ++ [jorb (jgk (hp 56 6) (hp 56 7) (hp 58)) ((p : Int) / 6, (p : Int) % 6, W)] := by rw [show 4 * p + (n + 1) = c + 1 by omega, hSs (by omega), if_pos ⟨c109, hnin⟩]
                  exact ih (n + 1) (jI W) (jI ((p : Int) / 6)) (jI ((p : Int) % 6)) h1 (by omega) (by rw [hS1]; exact q1) (by rw [hS1]; exact q2) (hf.tr q3 (by simp) (by simp) (by simp) (by simp)) (by omega)
      · refine jm_Ev.bl 2 (pc' := 69) (A' := [jR 56, jI (p : Int), jI (n : Int), z1, z2, z3]) (st' := [jI 2]) (hp' := h) rfl ?_
        refine jE_top (w := W) (by rw [hW]; (repeat' split) <;> omega) ?_
        refine jm_Ev.bl 3 (pc' := 73) (A' := [jR 56, jI (p : Int), jI (n : Int), jI W, z2, z3]) (st' := [jI 6, jI (p : Int)]) (hp' := h) rfl ?_
        refine jE_idiv rfl (by omega) (by omega) ?_
        refine jm_Ev.bl 3 (pc' := 79) (A' := [jR 56, jI (p : Int), jI (n : Int), jI W, jI ((p : Int) / 6), z3]) (st' := [jI 6, jI (p : Int)]) (hp' := h) rfl ?_
        refine jE_irem rfl (by omega) (by omega) ?_
        refine jm_Ev.bl 4 (pc' := 88) (A' := [jR 56, jI (p : Int), jI (n : Int), jI W, jI ((p : Int) / 6), jI ((p : Int) % 6)]) (st' := [jI (h 56 6), jI ((p : Int) / 6)]) (hp' := h) rfl ?_
        refine jE_icmp_gt rfl (by omega) (by omega) (fun c88 => ?_) (fun c88 => ?_)
        · refine jm_Ev.bl 2 (pc' := 37) (A' := [jR 56, jI (p : Int), jI ((n : Int) + 1), jI W, jI ((p : Int) / 6), jI ((p : Int) % 6)]) (st' := []) (hp' := h) rfl ?_
          have hS1 : jSc (jgk (hp 56 6) (hp 56 7) (hp 58)) (4 * p + (n + 1)) = jSc (jgk (hp 56 6) (hp 56 7) (hp 58)) c := by rw [show 4 * p + (n + 1) = c + 1 by omega, hSs (by omega), if_neg (fun z => by have := jE_wh (x := (p : Int) / 6) (y := (p : Int) % 6) (z := W) ⟨hWr.1, hWr.2, z.1⟩; omega)]
          exact ih (n + 1) (jI W) (jI ((p : Int) / 6)) (jI ((p : Int) % 6)) h (by omega) (by rw [hS1]; exact hMFc) (by rw [hS1]; exact hMOc) hf (by omega)
        · refine jm_Ev.bl 3 (pc' := 97) (A' := [jR 56, jI (p : Int), jI (n : Int), jI W, jI ((p : Int) / 6), jI ((p : Int) % 6)]) (st' := [jI (h 56 7), jI ((p : Int) % 6)]) (hp' := h) rfl ?_
          refine jE_icmp_gt rfl (by omega) (by omega) (fun c97 => ?_) (fun c97 => ?_)
          · refine jm_Ev.bl 2 (pc' := 37) (A' := [jR 56, jI (p : Int), jI ((n : Int) + 1), jI W, jI ((p : Int) / 6), jI ((p : Int) % 6)]) (st' := []) (hp' := h) rfl ?_
            have hS1 : jSc (jgk (hp 56 6) (hp 56 7) (hp 58)) (4 * p + (n + 1)) = jSc (jgk (hp 56 6) (hp 56 7) (hp 58)) c := by rw [show 4 * p + (n + 1) = c + 1 by omega, hSs (by omega), if_neg (fun z => by have := jE_wh (x := (p : Int) / 6) (y := (p : Int) % 6) (z := W) ⟨hWr.1, hWr.2, z.1⟩; omega)]
            exact ih (n + 1) (jI W) (jI ((p : Int) / 6)) (jI ((p : Int) % 6)) h (by omega) (by rw [hS1]; exact hMFc) (by rw [hS1]; exact hMOc) hf (by omega)
          · refine jm_Ev.bl 4 (pc' := 106) (A' := [jR 56, jI (p : Int), jI (n : Int), jI W, jI ((p : Int) / 6), jI ((p : Int) % 6)]) (st' := [jI W, jI ((p : Int) % 6), jI ((p : Int) / 6), jR 56]) (hp' := h) rfl ?_
            refine jE_callI (vs := [jR 56, jI ((p : Int) / 6), jI ((p : Int) % 6), jI W]) (r := []) (nx := 109) (v := jI (jb (jed (jgk (hp 56 6) (hp 56 7) (hp 58)) ((p : Int) / 6) ((p : Int) % 6) W))) (hp1 := h) rfl (hK1 ▸ c_m_isEdge h hM1 ((p : Int) / 6) ((p : Int) % 6) W (by omega) (by omega) (by omega)) ?_
            refine jE_ifb_eq rfl (fun c109 => ?_) (fun c109 => ?_)
            · refine jm_Ev.bl 2 (pc' := 37) (A' := [jR 56, jI (p : Int), jI ((n : Int) + 1), jI W, jI ((p : Int) / 6), jI ((p : Int) % 6)]) (st' := []) (hp' := h) rfl ?_
              have hS1 : jSc (jgk (hp 56 6) (hp 56 7) (hp 58)) (4 * p + (n + 1)) = jSc (jgk (hp 56 6) (hp 56 7) (hp 58)) c := by rw [show 4 * p + (n + 1) = c + 1 by omega, hSs (by omega), if_neg (fun z => by rw [c109] at z; exact absurd z.1 (by simp))]
              exact ih (n + 1) (jI W) (jI ((p : Int) / 6)) (jI ((p : Int) % 6)) h (by omega) (by rw [hS1]; exact hMFc) (by rw [hS1]; exact hMOc) hf (by omega)
            · refine jm_Ev.bl 7 (pc' := 121) (A' := [jR 56, jI (p : Int), jI (n : Int), jI W, jI ((p : Int) / 6), jI ((p : Int) % 6)]) (st' := [jI ((4 * (p : Int)) + W), jR 66]) (hp' := h) rfl ?_
              refine jE_iald (n := 144) (f := h 66) rfl rfl (by omega) ?_
              have hg := hMFc.1 ((p : Int) / 6) ((p : Int) % 6) W (by omega) (by omega) (by omega) (by omega) hWr.1 hWr.2
              have hpm := Int.mul_ediv_add_emod (p : Int) 6
              rw [show 4 * (6 * ((p : Int) / 6) + (p : Int) % 6) + W = 4 * (p : Int) + W by omega] at hg
              have hgr : 0 ≤ h 66 (4 * (p : Int) + W) ∧ h 66 (4 * (p : Int) + W) ≤ 1 := by rw [hg]; split <;> omega
              refine jE_if_ne rfl (by omega) (fun c122 => ?_) (fun c122 => ?_)
              · refine jm_Ev.bl 2 (pc' := 37) (A' := [jR 56, jI (p : Int), jI ((n : Int) + 1), jI W, jI ((p : Int) / 6), jI ((p : Int) % 6)]) (st' := []) (hp' := h) rfl ?_
                have hS1 : jSc (jgk (hp 56 6) (hp 56 7) (hp 58)) (4 * p + (n + 1)) = jSc (jgk (hp 56 6) (hp 56 7) (hp 58)) c := by rw [show 4 * p + (n + 1) = c + 1 by omega, hSs (by omega), if_neg (fun z => by rw [if_neg z.2] at hg; exact c122 hg)]
                exact ih (n + 1) (jI W) (jI ((p : Int) / 6)) (jI ((p : Int) % 6)) h (by omega) (by rw [hS1]; exact hMFc) (by rw [hS1]; exact hMOc) hf (by omega)
              · have hnin : ((p : Int) / 6, (p : Int) % 6, W) ∉ (jSc (jgk (hp 56 6) (hp 56 7) (hp 58)) c).flatten := fun z => by rw [if_pos z] at hg; omega
                refine jm_Ev.bl 4 (pc' := 131) (A' := [jR 56, jI (p : Int), jI (n : Int), jI W, jI ((p : Int) / 6), jI ((p : Int) % 6)]) (st' := [jI W, jI ((p : Int) % 6), jI ((p : Int) / 6), jR 56]) (hp' := h) rfl ?_
                refine jE_call (vs := [jR 56, jI ((p : Int) / 6), jI ((p : Int) % 6), jI W]) (r := []) (nx := 134) rfl (c_m_walk h hM1 (jgk (hp 56 6) (hp 56 7) (hp 58)) hK1 hK (jSc (jgk (hp 56 6) (hp 56 7) (hp 58)) c) (jSc_inv hK c) ((p : Int) / 6) ((p : Int) % 6) W ⟨hWr.1, hWr.2, c109⟩ hnin hMFc hMOc) (fun rv131 h1 hq => ?_)
                obtain ⟨rfl, q1, q2, q3⟩ := hq
                refine jm_Ev.bl 2 (pc' := 37) (A' := [jR 56, jI (p : Int), jI ((n : Int) + 1), jI W, jI ((p : Int) / 6), jI ((p : Int) % 6)]) (st' := []) (hp' := h1) rfl ?_
                have hS1 : jSc (jgk (hp 56 6) (hp 56 7) (hp 58)) (4 * p + (n + 1)) = jSc (jgk (hp 56 6) (hp 56 7) (hp 58)) c ++ [jorb (jgk (hp 56 6) (hp 56 7) (hp 58)) ((p : Int) / 6, (p : Int) % 6, W)] := by rw [show 4 * p + (n + 1) = c + 1 by omega, hSs (by omega), if_pos ⟨c109, hnin⟩]
                exact ih (n + 1) (jI W) (jI ((p : Int) / 6)) (jI ((p : Int) % 6)) h1 (by omega) (by rw [hS1]; exact q1) (by rw [hS1]; exact q2) (hf.tr q3 (by simp) (by simp) (by simp) (by simp)) (by omega)
def jlay (hp : jm_H) : Option jm_V → jm_H → Prop := fun rv h => rv = none ∧ jMF h (jSc (jgk (hp 56 6) (hp 56 7) (hp 58)) 144).flatten ∧ jMO h (jgk (hp 56 6) (hp 56 7) (hp 58)) (jSc (jgk (hp 56 6) (hp 56 7) (hp 58)) 144) ∧ jFq hp h [59, 60, 61, 62, 63, 64, 66] [11]
theorem c_m_lay_p (hp : jm_H) (hM : jMG hp) : ∀ (m : Nat) (p : Nat) (z z1 z2 z3 : jm_V) (h : jm_H), p ≤ 36 → jMF h (jSc (jgk (hp 56 6) (hp 56 7) (hp 58)) (4 * p)).flatten → jMO h (jgk (hp 56 6) (hp 56 7) (hp 58)) (jSc (jgk (hp 56 6) (hp 56 7) (hp 58)) (4 * p)) → jFq hp h [59, 60, 61, 62, 63, 64, 66] [11] → 36 - p < m → jm_Ev 155 29 [jR 56, jI (p : Int), z, z1, z2, z3] [] h (jlay hp) := by
  intro n
  induction n with
  | zero => intro p z z1 z2 z3 h hp36 hMF hMO hf hm; omega
  | succ n ih =>
    intro p z z1 z2 z3 h hp36 hMF hMO hf hm
    refine jm_Ev.bl 2 (pc' := 32) (A' := [jR 56, jI (p : Int), z, z1, z2, z3]) (st' := [jI 36, jI (p : Int)]) (hp' := h) rfl ?_
    refine jE_icmp_ge rfl (by omega) (by omega) (fun c32 => ?_) (fun c32 => ?_)
    · have e : p = 36 := by omega
      subst e
      exact jE_ret rfl ⟨rfl, hMF, hMO, hf⟩
    · refine jm_Ev.bl 2 (pc' := 37) (A' := [jR 56, jI (p : Int), jI 0, z1, z2, z3]) (st' := []) (hp' := h) rfl ?_
      exact c_m_lay_n hp hM p (by omega) (fun h z1 z2 z3 a b c => jm_Ev.bl 2 (pc' := 29) (A' := [jR 56, jI ((p : Int) + 1), jI 4, z1, z2, z3]) (st' := []) (hp' := h) rfl (ih (p + 1) _ z1 z2 z3 h (by omega) a b c (by omega))) 5 0 z1 z2 z3 h (by omega) hMF hMO hf (by omega)
theorem c_m_lay_L (hp : jm_H) (hM : jMG hp) : ∀ (m : Nat) (i : Int) (h : jm_H), 0 ≤ i → i ≤ 144 → h 56 11 = 0 → (∀ j, 0 ≤ j → j < i → h 66 j = 0) → jFq hp h [59, 60, 61, 62, 63, 64, 66] [11] → 144 - i < m → jm_Ev 155 7 [jR 56, jI i, jU, jU, jU, jU] [] h (jlay hp) := by
  intro n
  induction n with
  | zero => intro i h hi0 hi1 e11 hz hf hm; omega
  | succ n ih =>
    intro i h hi0 hi1 e11 hz hf hm
    refine jm_Ev.bl 2 (pc' := 11) (A' := [jR 56, jI i, jU, jU, jU, jU]) (st' := [jI 144, jI i]) (hp' := h) rfl ?_
    refine jE_icmp_ge rfl (by omega) (by omega) (fun c11 => ?_) (fun c11 => ?_)
    · refine jm_Ev.bl 2 (pc' := 29) (A' := [jR 56, jI 0, jU, jU, jU, jU]) (st' := []) (hp' := h) rfl ?_
      exact c_m_lay_p hp hM 37 0 _ _ _ _ h (by omega) ⟨fun x y w a b c d e f => by rw [hz _ (by omega) (by omega), if_neg (by simp [jSc])], fun j t hj => by simp [jSc] at hj⟩ ⟨by rw [e11]; rfl, fun i q hi => by simp [jSc] at hi⟩ hf (by omega)
    · refine jm_Ev.bl 4 (pc' := 20) (A' := [jR 56, jI i, jU, jU, jU, jU]) (st' := [jI 0, jI i, jR 66]) (hp' := h) rfl ?_
      refine jE_iast (n := 144) rfl rfl (by omega) ?_
      refine jm_Ev.bl 2 (pc' := 7) (A' := [jR 56, jI (i + 1), jU, jU, jU, jU]) (st' := []) (hp' := (jm_hs h 66 i 0)) rfl ?_
      exact ih (i + 1) (jm_hs h 66 i 0) (by omega) (by omega) e11 (jhs_lt (F := fun _ => 0) hz rfl) (hf.set (by decide)) (by omega)
theorem c_m_layOutlines (hp : jm_H) (hM : jMG hp) : jm_Ev 155 0 [jR 56, jU, jU, jU, jU, jU] [] hp (jlay hp) := by
  refine jm_Ev.bl 5 (pc' := 7) (A' := [jR 56, jI 0, jU, jU, jU, jU]) (st' := []) (hp' := (jm_hs hp 56 11 0)) rfl ?_
  exact c_m_lay_L hp hM 145 0 _ (by omega) (by omega) rfl (fun j a b => by omega) (jFq.rf.sf (by decide)) (by omega)
