/-! which points can be joined -/
def jwr (N n : Int) : Int := if n < N then n else n - N
def jstp2 (N i j : Int) : Int := if i < j then j - i else j - i + N
def jfar (X Y : Int → Int) (i k j : Int) : Int := (X k - X i) * (Y j - Y i) - (Y k - Y i) * (X j - X i)
def jspan (X Y : Int → Int) (i j : Int) : Int := max ((X j - X i).natAbs : Int) ((Y j - Y i).natAbs : Int)
abbrev jokP (X Y L M : Int → Int) (i j k : Int) : Prop := M k = 0 ∧ 2 * ((jfar X Y i k j).natAbs : Int) ≤ L k * jspan X Y i j
def jcs (N : Int) (X Y L M : Int → Int) (i j : Int) : Nat → Bool
  | 0 => true
  | n + 1 => jcs N X Y L M i j n && decide (jokP X Y L M i j (jwr N (i + ((n : Int) + 1))))
def jcan (N : Int) (X Y L M : Int → Int) (i j : Int) : Bool := decide (jspan X Y i j ≠ 0) && jcs N X Y L M i j (jstp2 N i j - 1).toNat
theorem jcs_mono {N : Int} {X Y L M : Int → Int} {i j : Int} {m n : Nat} (h : m ≤ n) (e : jcs N X Y L M i j m = false) : jcs N X Y L M i j n = false := by
  induction n with
  | zero => have : m = 0 := by omega
            subst this; exact e
  | succ n ih =>
    by_cases q : m = n + 1
    · subst q; exact e
    · unfold jcs; rw [ih (by omega)]; rfl
theorem jcs_s {N : Int} {X Y L M : Int → Int} {i j s : Int} (h : 1 ≤ s) : jcs N X Y L M i j s.toNat = (jcs N X Y L M i j (s - 1).toNat && decide (jokP X Y L M i j (jwr N (i + s)))) := by
  have e : s.toNat = (s - 1).toNat + 1 := by omega
  have e2 : (((s - 1).toNat : Nat) : Int) + 1 = s := by omega
  rw [e]
  conv => lhs; unfold jcs
  rw [e2]
theorem jmul5 {a b : Int} (a0 : -5 ≤ a) (a1 : a ≤ 5) (b0 : -5 ≤ b) (b1 : b ≤ 5) : -25 ≤ a * b ∧ a * b ≤ 25 := by
  have h : (a.natAbs * b.natAbs) ≤ 5 * 5 := Nat.mul_le_mul (by omega) (by omega)
  rw [← Int.natAbs_mul] at h
  omega
/-- a way round of N points -/
def jWy (N : Int) (X Y L M : Int → Int) : Prop := 4 ≤ N ∧ N ≤ 60 ∧ ∀ n, 0 ≤ n → n < N → (0 ≤ X n ∧ X n ≤ 5) ∧ (0 ≤ Y n ∧ Y n ≤ 5) ∧ (0 ≤ L n ∧ L n ≤ 2) ∧ (M n = 0 ∨ M n = 1)
theorem jwr_r {N i s : Int} (h0 : 0 ≤ i) (h1 : i < N) (h2 : 0 ≤ s) (h3 : s < N) : 0 ≤ jwr N (i + s) ∧ jwr N (i + s) < N := by unfold jwr; split <;> omega
theorem jspan_r {N : Int} {X Y L M : Int → Int} (h : jWy N X Y L M) {i j : Int} (i0 : 0 ≤ i) (i1 : i < N) (j0 : 0 ≤ j) (j1 : j < N) : 0 ≤ jspan X Y i j ∧ jspan X Y i j ≤ 5 := by
  have a := h.2.2 i i0 i1
  have b := h.2.2 j j0 j1
  unfold jspan
  omega
theorem jfar_r {N : Int} {X Y L M : Int → Int} (h : jWy N X Y L M) {i j k : Int} (i0 : 0 ≤ i) (i1 : i < N) (j0 : 0 ≤ j) (j1 : j < N) (k0 : 0 ≤ k) (k1 : k < N) : -50 ≤ jfar X Y i k j ∧ jfar X Y i k j ≤ 50 := by
  have a := h.2.2 i i0 i1
  have b := h.2.2 j j0 j1
  have c := h.2.2 k k0 k1
  have m1 := jmul5 (a := X k - X i) (b := Y j - Y i) (by omega) (by omega) (by omega) (by omega)
  have m2 := jmul5 (a := Y k - Y i) (b := X j - X i) (by omega) (by omega) (by omega) (by omega)
  unfold jfar
  omega
theorem c_o_steps (hp : jm_H) (i j N : Int) (hi : jR32 i) (hj : jR32 j) : jm_Ev 75 0 [jI i, jI j, jI N] [] hp (jK (some (jI (jstp2 N i j))) hp) := by
  refine jm_Ev.bl 2 (pc' := 2) (A' := [jI i, jI j, jI N]) (st' := [jI i, jI j]) (hp' := hp) rfl ?_
  refine jE_icmp_le rfl (by omega) (by omega) (fun c2 => ?_) (fun c2 => ?_)
  · refine jm_Ev.bl 5 (pc' := 16) (A' := [jI i, jI j, jI N]) (st' := [jI ((j - i) + N)]) (hp' := hp) rfl ?_
    exact jE_ret rfl ⟨jrI (by unfold jstp2; split <;> omega), rfl⟩
  · refine jm_Ev.bl 4 (pc' := 16) (A' := [jI i, jI j, jI N]) (st' := [jI (j - i)]) (hp' := hp) rfl ?_
    exact jE_ret rfl ⟨jrI (by unfold jstp2; split <;> omega), rfl⟩
