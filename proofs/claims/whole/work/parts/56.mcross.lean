/-! the model's cross; sums of squares -/
def jVm (h : jm_H) (i s N : Int) (X Y L M : Int → Int) : Prop := h 59 i = s ∧ h 60 i = N ∧ 0 ≤ s ∧ s + N ≤ 60 ∧ (0 ≤ i ∧ i < 32) ∧ ∀ n, 0 ≤ n → n < N → h 61 (s + n) = X n ∧ h 62 (s + n) = Y n ∧ h 63 (s + n) = L n ∧ h 64 (s + n) = M n
def jss (N : Int) (X Y : Int → Int) (i j : Int) : Nat → Int
  | 0 => 0
  | n + 1 => jss N X Y i j n + jfar X Y i (jwr N (i + ((n : Int) + 1))) j * jfar X Y i (jwr N (i + ((n : Int) + 1))) j
theorem jss_s {N : Int} {X Y : Int → Int} {i j s : Int} (h : 1 ≤ s) : jss N X Y i j s.toNat = jss N X Y i j (s - 1).toNat + jfar X Y i (jwr N (i + s)) j * jfar X Y i (jwr N (i + s)) j := by
  have e : s.toNat = (s - 1).toNat + 1 := by omega
  have e2 : (((s - 1).toNat : Nat) : Int) + 1 = s := by omega
  rw [e]
  conv => lhs; unfold jss
  rw [e2]
/-- the bits of a fraction -/
def jfrac (a b : Int) : Int := if a = 0 then 0 else (FP.Core.encode FP.Core.b32 (FP.Core.roundRatio FP.Core.b32 false a.toNat b.toNat 0) : Int)
theorem c_m_cross (hp : jm_H) (i s N : Int) (X Y L M : Int → Int) (hV : jVm hp i s N X Y L M) (a b c : Int) (ha : 0 ≤ a ∧ a < N) (hb : 0 ≤ b ∧ b < N) (hc : 0 ≤ c ∧ c < N) : jm_Ev 156 0 [jR 56, jI (s + a), jI (s + b), jI (s + c)] [] hp (jK (some (jI (jfar X Y a c b))) hp) := by
  obtain ⟨es, eN, s0, s60, hi, hpt⟩ := id hV
  have pa := hpt a ha.1 ha.2
  have pb := hpt b hb.1 hb.2
  have pc := hpt c hc.1 hc.2
  refine jm_Ev.bl 3 (pc' := 5) (A' := [jR 56, jI (s + a), jI (s + b), jI (s + c)]) (st' := [jI (s + c), jR 61]) (hp' := hp) rfl ?_
  refine jE_iald (n := 160) (f := hp 61) rfl rfl (by omega) ?_
  refine jE_top (w := (X c)) (pc.1) ?_
  refine jm_Ev.bl 3 (pc' := 11) (A' := [jR 56, jI (s + a), jI (s + b), jI (s + c)]) (st' := [jI (s + a), jR 61, jI (X c)]) (hp' := hp) rfl ?_
  refine jE_iald (n := 160) (f := hp 61) rfl rfl (by omega) ?_
  refine jE_top (w := (X a)) (pa.1) ?_
  refine jm_Ev.bl 4 (pc' := 18) (A' := [jR 56, jI (s + a), jI (s + b), jI (s + c)]) (st' := [jI (s + b), jR 62, jI ((X c) - (X a))]) (hp' := hp) rfl ?_
  refine jE_iald (n := 160) (f := hp 62) rfl rfl (by omega) ?_
  refine jE_top (w := (Y b)) (pb.2.1) ?_
  refine jm_Ev.bl 3 (pc' := 24) (A' := [jR 56, jI (s + a), jI (s + b), jI (s + c)]) (st' := [jI (s + a), jR 62, jI (Y b), jI ((X c) - (X a))]) (hp' := hp) rfl ?_
  refine jE_iald (n := 160) (f := hp 62) rfl rfl (by omega) ?_
  refine jE_top (w := (Y a)) (pa.2.1) ?_
  refine jm_Ev.bl 5 (pc' := 32) (A' := [jR 56, jI (s + a), jI (s + b), jI (s + c)]) (st' := [jI (s + c), jR 62, jI (((X c) - (X a)) * ((Y b) - (Y a)))]) (hp' := hp) rfl ?_
  refine jE_iald (n := 160) (f := hp 62) rfl rfl (by omega) ?_
  refine jE_top (w := (Y c)) (pc.2.1) ?_
  refine jm_Ev.bl 3 (pc' := 38) (A' := [jR 56, jI (s + a), jI (s + b), jI (s + c)]) (st' := [jI (s + a), jR 62, jI (Y c), jI (((X c) - (X a)) * ((Y b) - (Y a)))]) (hp' := hp) rfl ?_
  refine jE_iald (n := 160) (f := hp 62) rfl rfl (by omega) ?_
  refine jE_top (w := (Y a)) (pa.2.1) ?_
  refine jm_Ev.bl 4 (pc' := 45) (A' := [jR 56, jI (s + a), jI (s + b), jI (s + c)]) (st' := [jI (s + b), jR 61, jI ((Y c) - (Y a)), jI (((X c) - (X a)) * ((Y b) - (Y a)))]) (hp' := hp) rfl ?_
  refine jE_iald (n := 160) (f := hp 61) rfl rfl (by omega) ?_
  refine jE_top (w := (X b)) (pb.1) ?_
  refine jm_Ev.bl 3 (pc' := 51) (A' := [jR 56, jI (s + a), jI (s + b), jI (s + c)]) (st' := [jI (s + a), jR 61, jI (X b), jI ((Y c) - (Y a)), jI (((X c) - (X a)) * ((Y b) - (Y a)))]) (hp' := hp) rfl ?_
  refine jE_iald (n := 160) (f := hp 61) rfl rfl (by omega) ?_
  refine jE_top (w := (X a)) (pa.1) ?_
  refine jm_Ev.bl 3 (pc' := 55) (A' := [jR 56, jI (s + a), jI (s + b), jI (s + c)]) (st' := [jI ((((X c) - (X a)) * ((Y b) - (Y a))) - (((Y c) - (Y a)) * ((X b) - (X a))))]) (hp' := hp) rfl ?_
  exact jE_ret rfl ⟨rfl, rfl⟩
