/-! Page, and String.indexOf -/
theorem ji2b_b : ∀ k : Fin 128, (Int32.ofInt (k.val : Int)).toInt8.toInt32.toInt = (k.val : Int) := by decide +kernel
theorem jE_i2b {x pc nx tg : Nat} {A r : List jm_V} {hp : jm_H} {Q : Option jm_V → jm_H → Prop} {a : Int} (hf : jm_fe x pc = some (.i2b, nx, tg)) (ha : 0 ≤ a ∧ a < 128) (k : jm_Ev x nx A (jI a :: r) hp Q) : jm_Ev x pc A (jI a :: r) hp Q := by
  refine jE_in (i := .i2b) hf rfl ?_
  have h := ji2b_b ⟨a.toNat, by omega⟩
  have e : ((a.toNat : Nat) : Int) = a := by omega
  dsimp only at h
  rw [e] at h
  rw [h]
  exact k
/-- the kind of a letter -/
def jkb (c : Int) : Int := if c = 100 then 0 else if c = 104 then 1 else if c = 115 then 2 else if c = 116 then 3 else if c = 108 then 4 else -1
theorem jkb_r (c : Int) : -1 ≤ jkb c ∧ jkb c ≤ 4 := by unfold jkb; (repeat' split) <;> omega
theorem jkb_47 : jkb 47 = -1 := by decide
theorem jkb_46 : jkb 46 = -1 := by decide
theorem c_j_coder (hp : jm_H) : jm_Ev 5 0 [jR 83] [] hp (jK (some (jI 0)) hp) := by
  refine jm_Ev.bl 1 (pc' := 3) (A' := [jR 83]) (st' := [jI 1]) (hp' := hp) rfl ?_
  refine jE_if_eq rfl (by omega) (fun c3 => absurd c3 (by omega)) (fun _ => ?_)
  refine jm_Ev.bl 3 (pc' := 14) (A' := [jR 83]) (st' := [jI 0]) (hp' := hp) rfl ?_
  exact jE_ret rfl ⟨rfl, rfl⟩
theorem c_j_isLatin1 (hp : jm_H) : jm_Ev 6 0 [jR 83] [] hp (jK (some (jI 1)) hp) := by
  refine jm_Ev.bl 1 (pc' := 3) (A' := [jR 83]) (st' := [jI 1]) (hp' := hp) rfl ?_
  refine jE_if_eq rfl (by omega) (fun c3 => absurd c3 (by omega)) (fun _ => ?_)
  refine jm_Ev.bl 2 (pc' := 10) (A' := [jR 83]) (st' := [jI 0]) (hp' := hp) rfl ?_
  refine jE_if_ne rfl (by omega) (fun c10 => absurd c10 (by omega)) (fun _ => ?_)
  refine jm_Ev.bl 2 (pc' := 18) (A' := [jR 83]) (st' := [jI 1]) (hp' := hp) rfl ?_
  exact jE_ret rfl ⟨rfl, rfl⟩
theorem c_j_length (hp : jm_H) : jm_Ev 4 0 [jR 83] [] hp (jK (some (jI 5)) hp) := by
  refine jm_Ev.bl 4 (pc' := 6) (A' := [jR 83]) (st' := [jR 83, jI 5]) (hp' := hp) rfl ?_
  refine jE_callI (vs := [jR 83]) (r := [jI 5]) (nx := 9) (v := jI 0) (hp1 := hp) rfl (c_j_coder hp) ?_
  refine jm_Ev.bl 1 (pc' := 10) (A' := [jR 83]) (st' := [jI ((Int32.ofInt 5 >>> (Int32.ofInt 0 &&& 31)).toInt)]) (hp' := hp) rfl ?_
  exact jE_ret rfl ⟨jrI (by decide), rfl⟩
theorem c_j_canEncode (hp : jm_H) (c : Int) (h : 1 ≤ c ∧ c ≤ 126) : jm_Ev 7 0 [jI c] [] hp (jK (some (jI 1)) hp) := by
  refine jm_Ev.bl 1 (pc' := 1) (A' := [jI c]) (st' := [jI c]) (hp' := hp) rfl ?_
  refine jE_if_lt rfl (by omega) (fun c1 => ?_) (fun c1 => ?_)
  · refine jm_Ev.bl 1 (pc' := 16) (A' := [jI c]) (st' := [jI 0]) (hp' := hp) rfl ?_
    exfalso; omega
  · refine jm_Ev.bl 2 (pc' := 8) (A' := [jI c]) (st' := [jI 255, jI c]) (hp' := hp) rfl ?_
    refine jE_icmp_gt rfl (by omega) (by omega) (fun c8 => ?_) (fun c8 => ?_)
    · refine jm_Ev.bl 1 (pc' := 16) (A' := [jI c]) (st' := [jI 0]) (hp' := hp) rfl ?_
      exfalso; omega
    · refine jm_Ev.bl 2 (pc' := 16) (A' := [jI c]) (st' := [jI 1]) (hp' := hp) rfl ?_
      exact jE_ret rfl ⟨rfl, rfl⟩
theorem c_j_indexOfChar (hp : jm_H) (c : Int) (h : 1 ≤ c ∧ c ≤ 126) : jm_Ev 8 0 [jR 84, jI c, jI 0, jI 5, jU, jU] [] hp (jK (some (jI (jkb c))) hp) := by
  have e0 : jm_SC 84 0 = 100 := rfl
  have e1 : jm_SC 84 1 = 104 := rfl
  have e2 : jm_SC 84 2 = 115 := rfl
  have e3 : jm_SC 84 3 = 116 := rfl
  have e4 : jm_SC 84 4 = 108 := rfl
  refine jm_Ev.bl 1 (pc' := 1) (A' := [jR 84, jI c, jI 0, jI 5, jU, jU]) (st' := [jI c]) (hp' := hp) rfl ?_
  refine jE_i2b rfl (by omega) ?_
  refine jm_Ev.bl 5 (pc' := 10) (A' := [jR 84, jI c, jI 0, jI 5, jI c, jI 0]) (st' := [jI 5, jI 0]) (hp' := hp) rfl ?_
  refine jE_icmp_ge rfl (by omega) (by omega) (fun c10 => absurd c10 (by omega)) (fun _ => ?_)
  refine jm_Ev.bl 2 (pc' := 16) (A' := [jR 84, jI c, jI 0, jI 5, jI c, jI 0]) (st' := [jI 0, jR 84]) (hp' := hp) rfl ?_
  refine jE_bald (n := 5) (f := jm_SC 84) rfl rfl rfl (by omega) ?_
  refine jm_Ev.bl 1 (pc' := 19) (A' := [jR 84, jI c, jI 0, jI 5, jI c, jI 0]) (st' := [jI c, jI (jm_SC 84 0)]) (hp' := hp) rfl ?_
  refine jE_icmp_ne rfl (by omega) (by omega) (fun c19 => ?_) (fun c19 => ?_)
  · refine jm_Ev.bl 4 (pc' := 10) (A' := [jR 84, jI c, jI 0, jI 5, jI c, jI 1]) (st' := [jI 5, jI 1]) (hp' := hp) rfl ?_
    refine jE_icmp_ge rfl (by omega) (by omega) (fun c10 => absurd c10 (by omega)) (fun _ => ?_)
    refine jm_Ev.bl 2 (pc' := 16) (A' := [jR 84, jI c, jI 0, jI 5, jI c, jI 1]) (st' := [jI 1, jR 84]) (hp' := hp) rfl ?_
    refine jE_bald (n := 5) (f := jm_SC 84) rfl rfl rfl (by omega) ?_
    refine jm_Ev.bl 1 (pc' := 19) (A' := [jR 84, jI c, jI 0, jI 5, jI c, jI 1]) (st' := [jI c, jI (jm_SC 84 1)]) (hp' := hp) rfl ?_
    refine jE_icmp_ne rfl (by omega) (by omega) (fun c19 => ?_) (fun c19 => ?_)
    · refine jm_Ev.bl 4 (pc' := 10) (A' := [jR 84, jI c, jI 0, jI 5, jI c, jI 2]) (st' := [jI 5, jI 2]) (hp' := hp) rfl ?_
      refine jE_icmp_ge rfl (by omega) (by omega) (fun c10 => absurd c10 (by omega)) (fun _ => ?_)
      refine jm_Ev.bl 2 (pc' := 16) (A' := [jR 84, jI c, jI 0, jI 5, jI c, jI 2]) (st' := [jI 2, jR 84]) (hp' := hp) rfl ?_
      refine jE_bald (n := 5) (f := jm_SC 84) rfl rfl rfl (by omega) ?_
      refine jm_Ev.bl 1 (pc' := 19) (A' := [jR 84, jI c, jI 0, jI 5, jI c, jI 2]) (st' := [jI c, jI (jm_SC 84 2)]) (hp' := hp) rfl ?_
      refine jE_icmp_ne rfl (by omega) (by omega) (fun c19 => ?_) (fun c19 => ?_)
      · refine jm_Ev.bl 4 (pc' := 10) (A' := [jR 84, jI c, jI 0, jI 5, jI c, jI 3]) (st' := [jI 5, jI 3]) (hp' := hp) rfl ?_
        refine jE_icmp_ge rfl (by omega) (by omega) (fun c10 => absurd c10 (by omega)) (fun _ => ?_)
        refine jm_Ev.bl 2 (pc' := 16) (A' := [jR 84, jI c, jI 0, jI 5, jI c, jI 3]) (st' := [jI 3, jR 84]) (hp' := hp) rfl ?_
        refine jE_bald (n := 5) (f := jm_SC 84) rfl rfl rfl (by omega) ?_
        refine jm_Ev.bl 1 (pc' := 19) (A' := [jR 84, jI c, jI 0, jI 5, jI c, jI 3]) (st' := [jI c, jI (jm_SC 84 3)]) (hp' := hp) rfl ?_
        refine jE_icmp_ne rfl (by omega) (by omega) (fun c19 => ?_) (fun c19 => ?_)
        · refine jm_Ev.bl 4 (pc' := 10) (A' := [jR 84, jI c, jI 0, jI 5, jI c, jI 4]) (st' := [jI 5, jI 4]) (hp' := hp) rfl ?_
          refine jE_icmp_ge rfl (by omega) (by omega) (fun c10 => absurd c10 (by omega)) (fun _ => ?_)
          refine jm_Ev.bl 2 (pc' := 16) (A' := [jR 84, jI c, jI 0, jI 5, jI c, jI 4]) (st' := [jI 4, jR 84]) (hp' := hp) rfl ?_
          refine jE_bald (n := 5) (f := jm_SC 84) rfl rfl rfl (by omega) ?_
          refine jm_Ev.bl 1 (pc' := 19) (A' := [jR 84, jI c, jI 0, jI 5, jI c, jI 4]) (st' := [jI c, jI (jm_SC 84 4)]) (hp' := hp) rfl ?_
          refine jE_icmp_ne rfl (by omega) (by omega) (fun c19 => ?_) (fun c19 => ?_)
          · refine jm_Ev.bl 4 (pc' := 10) (A' := [jR 84, jI c, jI 0, jI 5, jI c, jI 5]) (st' := [jI 5, jI 5]) (hp' := hp) rfl ?_
            refine jE_icmp_ge rfl (by omega) (by omega) (fun _ => ?_) (fun c10 => absurd c10 (by omega))
            refine jm_Ev.bl 1 (pc' := 32) (A' := [jR 84, jI c, jI 0, jI 5, jI c, jI 5]) (st' := [jI (-1)]) (hp' := hp) rfl ?_
            exact jE_ret rfl ⟨jrI (by unfold jkb; (repeat' split) <;> omega), rfl⟩
          · refine jm_Ev.bl 1 (pc' := 24) (A' := [jR 84, jI c, jI 0, jI 5, jI c, jI 4]) (st' := [jI 4]) (hp' := hp) rfl ?_
            exact jE_ret rfl ⟨jrI (by unfold jkb; (repeat' split) <;> omega), rfl⟩
        · refine jm_Ev.bl 1 (pc' := 24) (A' := [jR 84, jI c, jI 0, jI 5, jI c, jI 3]) (st' := [jI 3]) (hp' := hp) rfl ?_
          exact jE_ret rfl ⟨jrI (by unfold jkb; (repeat' split) <;> omega), rfl⟩
      · refine jm_Ev.bl 1 (pc' := 24) (A' := [jR 84, jI c, jI 0, jI 5, jI c, jI 2]) (st' := [jI 2]) (hp' := hp) rfl ?_
        exact jE_ret rfl ⟨jrI (by unfold jkb; (repeat' split) <;> omega), rfl⟩
    · refine jm_Ev.bl 1 (pc' := 24) (A' := [jR 84, jI c, jI 0, jI 5, jI c, jI 1]) (st' := [jI 1]) (hp' := hp) rfl ?_
      exact jE_ret rfl ⟨jrI (by unfold jkb; (repeat' split) <;> omega), rfl⟩
  · refine jm_Ev.bl 1 (pc' := 24) (A' := [jR 84, jI c, jI 0, jI 5, jI c, jI 0]) (st' := [jI 0]) (hp' := hp) rfl ?_
    exact jE_ret rfl ⟨jrI (by unfold jkb; (repeat' split) <;> omega), rfl⟩
theorem c_j_indexOf4 (hp : jm_H) (c : Int) (h : 1 ≤ c ∧ c ≤ 126) : jm_Ev 9 0 [jR 84, jI c, jI 0, jI 5] [] hp (jK (some (jI (jkb c))) hp) := by
  refine jm_Ev.bl 1 (pc' := 1) (A' := [jR 84, jI c, jI 0, jI 5]) (st' := [jI c]) (hp' := hp) rfl ?_
  refine jE_callI (vs := [jI c]) (r := []) (nx := 4) (v := jI 1) (hp1 := hp) rfl (c_j_canEncode hp c (by omega)) ?_
  refine jE_if_ne rfl (by omega) (fun _ => ?_) (fun c4 => absurd c4 (by omega))
  refine jm_Ev.bl 2 (pc' := 11) (A' := [jR 84, jI c, jI 0, jI 5]) (st' := [jI 0, jI 0]) (hp' := hp) rfl ?_
  refine jE_max (nx := 14) rfl (by omega) (by omega) ?_
  refine jE_top (w := 0) (by decide) ?_
  refine jm_Ev.bl 4 (pc' := 18) (A' := [jR 84, jI c, jI 0, jI 5]) (st' := [jI 5, jI 5]) (hp' := hp) rfl ?_
  refine jE_min (nx := 21) rfl (by omega) (by omega) ?_
  refine jE_top (w := 5) (by decide) ?_
  refine jm_Ev.bl 3 (pc' := 24) (A' := [jR 84, jI c, jI 0, jI 5]) (st' := [jI 5, jI 0]) (hp' := hp) rfl ?_
  refine jE_icmp_lt rfl (by omega) (by omega) (fun _ => ?_) (fun c24 => absurd c24 (by omega))
  refine jm_Ev.bl 4 (pc' := 33) (A' := [jR 84, jI c, jI 0, jI 5]) (st' := [jI 5, jI 0, jI c, jR 84]) (hp' := hp) rfl ?_
  refine jE_callI (vs := [jR 84, jI c, jI 0, jI 5]) (r := []) (nx := 36) (v := jI (jkb c)) (hp1 := hp) rfl (c_j_indexOfChar hp c h) ?_
  exact jE_ret rfl ⟨rfl, rfl⟩
theorem c_j_indexOf3 (hp : jm_H) (c : Int) (h : 1 ≤ c ∧ c ≤ 126) : jm_Ev 10 0 [jR 83, jI c, jI 0] [] hp (jK (some (jI (jkb c))) hp) := by
  refine jm_Ev.bl 1 (pc' := 1) (A' := [jR 83, jI c, jI 0]) (st' := [jR 83]) (hp' := hp) rfl ?_
  refine jE_callI (vs := [jR 83]) (r := []) (nx := 4) (v := jI 1) (hp1 := hp) rfl (c_j_isLatin1 hp) ?_
  refine jE_if_eq rfl (by omega) (fun c4 => absurd c4 (by omega)) (fun _ => ?_)
  refine jm_Ev.bl 5 (pc' := 14) (A' := [jR 83, jI c, jI 0]) (st' := [jR 83, jI 0, jI c, jR 84]) (hp' := hp) rfl ?_
  refine jE_callI (vs := [jR 83]) (r := [jI 0, jI c, jR 84]) (nx := 17) (v := jI 5) (hp1 := hp) rfl (c_j_length hp) ?_
  refine jE_callI (vs := [jR 84, jI c, jI 0, jI 5]) (r := []) (nx := 20) (v := jI (jkb c)) (hp1 := hp) rfl (c_j_indexOf4 hp c h) ?_
  refine jm_Ev.bl 1 (pc' := 36) (A' := [jR 83, jI c, jI 0]) (st' := [jI (jkb c)]) (hp' := hp) rfl ?_
  exact jE_ret rfl ⟨rfl, rfl⟩
theorem c_j_indexOf (hp : jm_H) (c : Int) (h : 1 ≤ c ∧ c ≤ 126) : jm_Ev 11 0 [jR 83, jI c] [] hp (jK (some (jI (jkb c))) hp) := by
  refine jm_Ev.bl 3 (pc' := 3) (A' := [jR 83, jI c]) (st' := [jI 0, jI c, jR 83]) (hp' := hp) rfl ?_
  refine jE_callI (vs := [jR 83, jI c, jI 0]) (r := []) (nx := 6) (v := jI (jkb c)) (hp1 := hp) rfl (c_j_indexOf3 hp c h) ?_
  exact jE_ret rfl ⟨rfl, rfl⟩
theorem c_p_isSign (hp : jm_H) (c : Int) (h : 1 ≤ c ∧ c ≤ 126) : jm_Ev 82 0 [jI c] [] hp (jK (some (jI (jb (decide (c = 46 ∨ jkb c ≠ -1))))) hp) := by
  refine jm_Ev.bl 2 (pc' := 3) (A' := [jI c]) (st' := [jI 46, jI c]) (hp' := hp) rfl ?_
  refine jE_icmp_eq rfl (by omega) (by omega) (fun c3 => ?_) (fun c3 => ?_)
  · refine jm_Ev.bl 2 (pc' := 21) (A' := [jI c]) (st' := [jI 1]) (hp' := hp) rfl ?_
    exact jE_ret rfl ⟨jr1 (by omega), rfl⟩
  · refine jm_Ev.bl 2 (pc' := 9) (A' := [jI c]) (st' := [jI c, jR 83]) (hp' := hp) rfl ?_
    refine jE_i2c rfl (by omega) ?_
    refine jE_callI (vs := [jR 83, jI c]) (r := []) (nx := 13) (v := jI (jkb c)) (hp1 := hp) rfl (c_j_indexOf hp c (by omega)) ?_
    have hr := jkb_r c
    refine jE_if_lt rfl (by omega) (fun c13 => ?_) (fun c13 => ?_)
    · refine jm_Ev.bl 1 (pc' := 21) (A' := [jI c]) (st' := [jI 0]) (hp' := hp) rfl ?_
      exact jE_ret rfl ⟨jr0 (by omega), rfl⟩
    · refine jm_Ev.bl 2 (pc' := 21) (A' := [jI c]) (st' := [jI 1]) (hp' := hp) rfl ?_
      exact jE_ret rfl ⟨jr1 (by omega), rfl⟩
/-- a page: n letters -/
def jPg (n : Int) (c : Int → Int) : Prop := 0 ≤ n ∧ n ≤ 32 ∧ ∀ j, 0 ≤ j → j < n → 1 ≤ c j ∧ c j ≤ 126
/-- rows ended, letters of this row, letters of the first row or 0 -/
def jpst (c : Int → Int) : Nat → Option (Int × Int × Int)
  | 0 => some (0, 0, 0)
  | k + 1 => match jpst c k with
    | none => none
    | some (r, h, w) => if c k = 47 then (if 0 < h ∧ (w = 0 ∨ h = w) ∧ r < 4 then some (r + 1, 0, if w = 0 then h else w) else none)
        else if (c k = 46 ∨ jkb (c k) ≠ -1) ∧ h < (if w = 0 then 5 else w) then some (r, h + 1, w) else none
def jflt (c : Int → Int) : Nat → Int
  | 0 => 0
  | n + 1 => if jpst c (n + 1) = none then jflt c n else (n : Int) + 1
theorem jpst_s {c : Int → Int} {i r h w : Int} (hi : 0 ≤ i) (e : jpst c i.toNat = some (r, h, w)) : jpst c (i + 1).toNat = if c i = 47 then (if 0 < h ∧ (w = 0 ∨ h = w) ∧ r < 4 then some (r + 1, 0, if w = 0 then h else w) else none)
        else if (c i = 46 ∨ jkb (c i) ≠ -1) ∧ h < (if w = 0 then 5 else w) then some (r, h + 1, w) else none := by
  have e1 : (i + 1).toNat = i.toNat + 1 := by omega
  have e2 : ((i.toNat : Nat) : Int) = i := by omega
  rw [e1]
  unfold jpst
  rw [e]
  dsimp only
  rw [e2]
/-- what holds of a good begin -/
theorem jpst_i {c : Int → Int} (k : Nat) {r h w : Int} (e : jpst c k = some (r, h, w)) : 0 ≤ r ∧ r ≤ 4 ∧ 0 ≤ h ∧ h ≤ 5 ∧ 0 ≤ w ∧ w ≤ 5 ∧ (w = 0 ↔ r = 0) ∧ (w ≠ 0 → h ≤ w) ∧ (k : Int) = r * (w + 1) + h ∧ (∀ j : Int, 0 ≤ j → j < k → (c j = 47 ↔ w ≠ 0 ∧ j % (w + 1) = w)) ∧ (∀ j : Int, 0 ≤ j → j < k → c j = 47 ∨ c j = 46 ∨ jkb (c j) ≠ -1) := by
  induction k generalizing r h w with
  | zero => simp only [jpst, Option.some.injEq, Prod.mk.injEq] at e; obtain ⟨rfl, rfl, rfl⟩ := e; exact ⟨by omega, by omega, by omega, by omega, by omega, by omega, by omega, by omega, by omega, fun j a b => by omega, fun j a b => by omega⟩
  | succ k ih =>
    unfold jpst at e
    split at e
    · exact absurd e (by simp)
    · rename_i r0 h0 w0 e0
      obtain ⟨a1, a2, a3, a4, a5, a6, a7, a8, a9, a10, a11⟩ := ih e0
      split at e
      · rename_i c47
        split at e
        · rename_i g
          simp only [Option.some.injEq, Prod.mk.injEq] at e
          obtain ⟨rfl, rfl, rfl⟩ := e
          by_cases hw : w0 = 0
          · rw [if_pos hw]
            have hr : r0 = 0 := a7.mp hw
            subst hr hw
            refine ⟨by omega, by omega, by omega, by omega, by omega, by omega, by omega, by omega, by omega, fun j b1 b2 => ?_, fun j b1 b2 => ?_⟩
            · by_cases ej : j = k
              · subst ej
                refine ⟨fun _ => ⟨by omega, ?_⟩, fun _ => c47⟩
                rw [show (k : Int) = h0 by omega]
                exact Int.emod_eq_of_lt (by omega) (by omega)
              · have := a10 j b1 (by omega)
                refine ⟨fun z => absurd (this.mp z).1 (by omega), fun z => ?_⟩
                rw [Int.emod_eq_of_lt (by omega) (by omega)] at z
                omega
            · by_cases ej : j = k
              · subst ej; exact Or.inl c47
              · exact a11 j b1 (by omega)
          · rw [if_neg hw]
            have hh : h0 = w0 := by omega
            subst hh
            have m1 : (r0 + 1) * (h0 + 1) = r0 * (h0 + 1) + (h0 + 1) := by rw [Int.add_mul, Int.one_mul]
            refine ⟨by omega, by omega, by omega, by omega, by omega, by omega, by omega, by omega, by push_cast; omega, fun j b1 b2 => ?_, fun j b1 b2 => ?_⟩
            · by_cases ej : j = k
              · subst ej
                refine ⟨fun _ => ⟨by omega, ?_⟩, fun _ => c47⟩
                rw [a9, Int.add_comm, Int.add_mul_emod_self_right]
                exact Int.emod_eq_of_lt (by omega) (by omega)
              · exact a10 j b1 (by omega)
            · by_cases ej : j = k
              · subst ej; exact Or.inl c47
              · exact a11 j b1 (by omega)
        · exact absurd e (by simp)
      · rename_i c47
        by_cases g : (c k = 46 ∨ jkb (c k) ≠ -1) ∧ h0 < (if w0 = 0 then 5 else w0)
        · rw [if_pos g] at e
          simp only [Option.some.injEq, Prod.mk.injEq] at e
          obtain ⟨rfl, rfl, rfl⟩ := e
          have hlt : h0 < 5 ∧ (w0 ≠ 0 → h0 < w0) := by
            by_cases hw : w0 = 0
            · rw [if_pos hw] at g; exact ⟨g.2, fun z => absurd hw z⟩
            · rw [if_neg hw] at g; omega
          refine ⟨a1, a2, by omega, by omega, a5, a6, a7, by omega, by push_cast; omega, fun j b1 b2 => ?_, fun j b1 b2 => ?_⟩
          · by_cases ej : j = k
            · subst ej
              refine ⟨fun z => absurd z c47, fun z => ?_⟩
              have z2 := z.2
              rw [a9, Int.add_comm, Int.add_mul_emod_self_right, Int.emod_eq_of_lt (by omega) (by omega)] at z2
              omega
            · exact a10 j b1 (by omega)
          · by_cases ej : j = k
            · subst ej; exact Or.inr g.1
            · exact a11 j b1 (by omega)
        · rw [if_neg g] at e; exact absurd e (by simp)
theorem jpst_n {c : Int → Int} {k m : Nat} (hkm : k ≤ m) (e : jpst c k = none) : jpst c m = none := by
  induction m with
  | zero => have : k = 0 := by omega
            subst this; exact e
  | succ m ih =>
    by_cases h : k = m + 1
    · subst h; exact e
    · unfold jpst; rw [ih (by omega)]
theorem jflt_a {c : Int → Int} (n : Nat) {k : Nat} (hk : k < n) (h0 : jpst c k ≠ none) (h1 : jpst c (k + 1) = none) : jflt c n = k := by
  induction n with
  | zero => omega
  | succ n ih =>
    unfold jflt
    rw [if_pos (jpst_n (by omega) h1)]
    by_cases h : k = n
    · subst h
      cases k with
      | zero => rfl
      | succ k => unfold jflt; rw [if_neg h0]; push_cast; rfl
    · exact ih (by omega)
theorem jflt_b {c : Int → Int} (n : Nat) (h0 : jpst c n ≠ none) : jflt c n = n := by
  cases n with
  | zero => rfl
  | succ n => unfold jflt; rw [if_neg h0]; push_cast; rfl
theorem jflt_r {c : Int → Int} (n : Nat) : 0 ≤ jflt c n ∧ jflt c n ≤ n := by
  induction n with
  | zero => simp [jflt]
  | succ n ih => unfold jflt; split <;> omega
theorem jflt_lt {c : Int → Int} (n : Nat) (h : jpst c n = none) : jflt c n < n := by
  induction n with
  | zero => simp [jpst] at h
  | succ n ih => unfold jflt; rw [if_pos h]; have := jflt_r (c := c) n; omega
theorem jflt_none {c : Int → Int} {n k : Int} (h0 : 0 ≤ k) (h1 : k < n) {r h w : Int} (e : jpst c k.toNat = some (r, h, w)) (e1 : jpst c (k + 1).toNat = none) : jflt c n.toNat = k := by
  have := jflt_a (c := c) n.toNat (k := k.toNat) (by omega) (by rw [e]; simp) (by rw [show k.toNat + 1 = (k + 1).toNat by omega]; exact e1)
  rw [this]; omega
theorem c_p_codeAt (hp : jm_H) (i : Int) (h0 : 0 ≤ i) (h1 : i < 32) : jm_Ev 78 0 [jR 1, jI i] [] hp (jK (some (jI (hp 2 i))) hp) := by
  refine jm_Ev.bl 1 (pc' := 1) (A' := [jR 1, jI i]) (st' := [jI i]) (hp' := hp) rfl ?_
  refine jE_if_lt rfl (by omega) (fun c1 => ?_) (fun c1 => ?_)
  · omega
  · refine jm_Ev.bl 2 (pc' := 7) (A' := [jR 1, jI i]) (st' := [jI 32, jI i]) (hp' := hp) rfl ?_
    refine jE_icmp_ge rfl (by omega) (by omega) (fun c7 => ?_) (fun c7 => ?_)
    · omega
    · refine jm_Ev.bl 3 (pc' := 15) (A' := [jR 1, jI i]) (st' := [jI i, jR 2]) (hp' := hp) rfl ?_
      refine jE_iald (n := 32) (f := hp 2) rfl rfl (by omega) ?_
      refine jm_Ev.bl 1 (pc' := 20) (A' := [jR 1, jI i]) (st' := [jI (hp 2 i)]) (hp' := hp) rfl ?_
      exact jE_ret rfl ⟨jrI rfl, rfl⟩
theorem c_p_append (hp : jm_H) (a : Int) (h0 : 0 ≤ hp 1 1) (h1 : hp 1 1 < 32) : jm_Ev 77 0 [jR 1, jI a] [] hp (jK (some (jI 1)) (jm_hs (jm_hs hp 2 (hp 1 1) a) 1 1 (hp 1 1 + 1))) := by
  refine jm_Ev.bl 2 (pc' := 4) (A' := [jR 1, jI a]) (st' := [jI (hp 1 1)]) (hp' := hp) rfl ?_
  refine jE_if_lt rfl (by omega) (fun c4 => ?_) (fun c4 => ?_)
  · omega
  · refine jm_Ev.bl 3 (pc' := 13) (A' := [jR 1, jI a]) (st' := [jI 32, jI (hp 1 1)]) (hp' := hp) rfl ?_
    refine jE_icmp_lt rfl (by omega) (by omega) (fun c13 => ?_) (fun c13 => ?_)
    · refine jm_Ev.bl 5 (pc' := 27) (A' := [jR 1, jI a]) (st' := [jI a, jI (hp 1 1), jR 2]) (hp' := hp) rfl ?_
      refine jE_iast (n := 32) rfl rfl (by omega) ?_
      refine jm_Ev.bl 7 (pc' := 39) (A' := [jR 1, jI a]) (st' := [jI 1]) (hp' := (jm_hs (jm_hs hp 2 (hp 1 1) a) 1 1 ((hp 1 1) + 1))) rfl ?_
      exact jE_ret rfl ⟨rfl, rfl⟩
    · omega
theorem c_p_append_full (hp : jm_H) (a : Int) (h1 : hp 1 1 = 32) : jm_Ev 77 0 [jR 1, jI a] [] hp (jK (some (jI 0)) hp) := by
  refine jm_Ev.bl 2 (pc' := 4) (A' := [jR 1, jI a]) (st' := [jI (hp 1 1)]) (hp' := hp) rfl ?_
  refine jE_if_lt rfl (by omega) (fun c4 => ?_) (fun c4 => ?_)
  · omega
  · refine jm_Ev.bl 3 (pc' := 13) (A' := [jR 1, jI a]) (st' := [jI 32, jI (hp 1 1)]) (hp' := hp) rfl ?_
    refine jE_icmp_lt rfl (by omega) (by omega) (fun c13 => ?_) (fun c13 => ?_)
    · omega
    · refine jm_Ev.bl 1 (pc' := 17) (A' := [jR 1, jI a]) (st' := [jI 0]) (hp' := hp) rfl ?_
      exact jE_ret rfl ⟨rfl, rfl⟩
theorem jall_s {F : Int → Prop} {i : Int} (h : ∀ j, 0 ≤ j → j < i → F j) (hi : F i) : ∀ j, 0 ≤ j → j < i + 1 → F j := fun j a b => by
  by_cases e : j = i
  · rw [e]; exact hi
  · exact h j a (by omega)
theorem c_p_firstRow_L {Q : Option jm_V → jm_H → Prop} (hp : jm_H) (hP : jPg (hp 1 1) (hp 2)) (k : ∀ i, 0 ≤ i → i ≤ hp 1 1 → (∀ j, 0 ≤ j → j < i → hp 2 j ≠ 47) → (i < hp 1 1 → hp 2 i = 47) → Q (some (jI i)) hp) : ∀ (n : Nat) (i : Int), 0 ≤ i → i ≤ hp 1 1 → (∀ j, 0 ≤ j → j < i → hp 2 j ≠ 47) → hp 1 1 - i < n → jm_Ev 81 2 [jR 1, jI i] [] hp Q := by
  obtain ⟨h1, h2, h3⟩ := id hP
  intro n
  induction n with
  | zero => intro i hi0 hi1 hb hn; omega
  | succ n ih =>
    intro i hi0 hi1 hb hn
    refine jm_Ev.bl 3 (pc' := 7) (A' := [jR 1, jI i]) (st' := [jI (hp 1 1), jI i]) (hp' := hp) rfl ?_
    refine jE_icmp_ge rfl (by omega) (by omega) (fun c7 => ?_) (fun c7 => ?_)
    · refine jm_Ev.bl 2 (pc' := 32) (A' := [jR 1, jI i]) (st' := [jI (hp 1 1)]) (hp' := hp) rfl ?_
      exact jE_ret rfl (k _ h1 (by omega) (fun j a b => hb j a (by omega)) (fun z => by omega))
    · refine jm_Ev.bl 2 (pc' := 12) (A' := [jR 1, jI i]) (st' := [jI i, jR 1]) (hp' := hp) rfl ?_
      refine jE_callI (vs := [jR 1, jI i]) (r := []) (nx := 15) (v := jI (hp 2 i)) (hp1 := hp) rfl (c_p_codeAt hp i (by omega) (by omega)) ?_
      have hc := h3 i hi0 (by omega)
      refine jm_Ev.bl 1 (pc' := 17) (A' := [jR 1, jI i]) (st' := [jI 47, jI (hp 2 i)]) (hp' := hp) rfl ?_
      refine jE_icmp_ne rfl (by omega) (by omega) (fun c17 => ?_) (fun c17 => ?_)
      · refine jm_Ev.bl 2 (pc' := 2) (A' := [jR 1, jI (i + 1)]) (st' := []) (hp' := hp) rfl ?_
        exact ih (i + 1) (by omega) (by omega) (jall_s hb c17) (by omega)
      · refine jm_Ev.bl 1 (pc' := 21) (A' := [jR 1, jI i]) (st' := [jI i]) (hp' := hp) rfl ?_
        exact jE_ret rfl (k i hi0 (by omega) hb (fun _ => c17))
theorem c_p_firstRow (hp : jm_H) (hP : jPg (hp 1 1) (hp 2)) (W : Int) (hu : True ∧ ∀ i, 0 ≤ i → i ≤ hp 1 1 → (∀ j, 0 ≤ j → j < i → hp 2 j ≠ 47) → (i < hp 1 1 → hp 2 i = 47) → i = W) : jm_Ev 81 0 [jR 1, jU] [] hp (jK (some (jI W)) hp) := by
  obtain ⟨h1, h2, h3⟩ := id hP
  refine jm_Ev.bl 2 (pc' := 2) (A' := [jR 1, jI 0]) (st' := []) (hp' := hp) rfl ?_
  exact c_p_firstRow_L hp hP (fun i a b c d => ⟨jrI (by rcases hu.2 i a b c d with rfl; rfl), rfl⟩) 33 0 (by omega) (by omega) (fun j a b => by omega) (by omega)
theorem c_p_fault_L (hp : jm_H) (hP : jPg (hp 1 1) (hp 2)) : ∀ (n : Nat) (i r h w W : Int) (y z : jm_V), 0 ≤ i → i ≤ hp 1 1 → jpst (hp 2) i.toNat = some (r, h, w) → W = (if w = 0 then 5 else w) → hp 1 1 - i < n → jm_Ev 79 9 [jR 1, jI r, jI h, jI W, jI i, y, z] [] hp (jK (some (jI (jflt (hp 2) (hp 1 1).toNat))) hp) := by
  obtain ⟨h1, h2, h3⟩ := id hP
  intro n
  induction n with
  | zero => intro i r h w W y z hi0 hi1 hs hW hn; omega
  | succ n ih =>
    intro i r h w W y z hi0 hi1 hs hW hn
    have q0 := jpst_i i.toNat hs
    have hWr : 0 ≤ W ∧ W ≤ 5 := by rw [hW]; split <;> omega
    refine jm_Ev.bl 3 (pc' := 15) (A' := [jR 1, jI r, jI h, jI W, jI i, y, z]) (st' := [jI (hp 1 1), jI i]) (hp' := hp) rfl ?_
    refine jE_icmp_ge rfl (by omega) (by omega) (fun c15 => ?_) (fun c15 => ?_)
    · refine jm_Ev.bl 2 (pc' := 113) (A' := [jR 1, jI r, jI h, jI W, jI i, y, z]) (st' := [jI (hp 1 1)]) (hp' := hp) rfl ?_
      have e : i = hp 1 1 := by omega
      subst e
      refine jE_ret rfl ⟨jrI ?_, rfl⟩
      rw [jflt_b _ (by rw [hs]; simp)]; omega
    · refine jm_Ev.bl 2 (pc' := 21) (A' := [jR 1, jI r, jI h, jI W, jI i, y, z]) (st' := [jI i, jR 1]) (hp' := hp) rfl ?_
      refine jE_callI (vs := [jR 1, jI i]) (r := []) (nx := 24) (v := jI (hp 2 i)) (hp1 := hp) rfl (c_p_codeAt hp i (by omega) (by omega)) ?_
      refine jm_Ev.bl 1 (pc' := 26) (A' := [jR 1, jI r, jI h, jI W, jI i, jI (hp 2 i), z]) (st' := []) (hp' := hp) rfl ?_
      have q := jpst_i i.toNat hs
      have hc := h3 i hi0 (by omega)
      refine jm_Ev.bl 2 (pc' := 30) (A' := [jR 1, jI r, jI h, jI W, jI i, jI (hp 2 i), z]) (st' := [jI 47, jI (hp 2 i)]) (hp' := hp) rfl ?_
      refine jE_icmp_ne rfl (by omega) (by omega) (fun c30 => ?_) (fun c30 => ?_)
      · refine jm_Ev.bl 1 (pc' := 86) (A' := [jR 1, jI r, jI h, jI W, jI i, jI (hp 2 i), z]) (st' := [jI (hp 2 i)]) (hp' := hp) rfl ?_
        refine jE_callI (vs := [jI (hp 2 i)]) (r := []) (nx := 89) (v := jI (jb (decide ((hp 2 i) = 46 ∨ jkb (hp 2 i) ≠ -1)))) (hp1 := hp) rfl (c_p_isSign hp (hp 2 i) hc) ?_
        refine jE_ifd_eq rfl (fun c89 => ?_) (fun c89 => ?_)
        · refine jm_Ev.bl 1 (pc' := 99) (A' := [jR 1, jI r, jI h, jI W, jI i, jI (hp 2 i), z]) (st' := [jI i]) (hp' := hp) rfl ?_
          exact jE_ret rfl ⟨jrI (jflt_none hi0 c15 hs (by rw [jpst_s hi0 hs, if_neg c30, if_neg (fun z => by first | exact c89 z.1 | (have z2 := z.2; rw [← hW] at z2; omega))])).symm, rfl⟩
        · refine jm_Ev.bl 2 (pc' := 94) (A' := [jR 1, jI r, jI h, jI W, jI i, jI (hp 2 i), z]) (st' := [jI W, jI h]) (hp' := hp) rfl ?_
          refine jE_icmp_ne rfl (by omega) (by omega) (fun c94 => ?_) (fun c94 => ?_)
          · refine jm_Ev.bl 3 (pc' := 9) (A' := [jR 1, jI r, jI (h + 1), jI W, jI (i + 1), jI (hp 2 i), z]) (st' := []) (hp' := hp) rfl ?_
            exact ih (i + 1) r (h + 1) w W (jI (hp 2 i)) z (by omega) (by omega) (by rw [jpst_s hi0 hs, if_neg c30, if_pos ⟨c89, by rw [← hW]; omega⟩]) hW (by omega)
          · refine jm_Ev.bl 1 (pc' := 99) (A' := [jR 1, jI r, jI h, jI W, jI i, jI (hp 2 i), z]) (st' := [jI i]) (hp' := hp) rfl ?_
            exact jE_ret rfl ⟨jrI (jflt_none hi0 c15 hs (by rw [jpst_s hi0 hs, if_neg c30, if_neg (fun z => by first | exact c89 z.1 | (have z2 := z.2; rw [← hW] at z2; omega))])).symm, rfl⟩
      · refine jm_Ev.bl 1 (pc' := 34) (A' := [jR 1, jI r, jI h, jI W, jI i, jI (hp 2 i), z]) (st' := [jI r]) (hp' := hp) rfl ?_
        refine jE_if_ne rfl (by omega) (fun c34 => ?_) (fun c34 => ?_)
        · refine jm_Ev.bl 2 (pc' := 51) (A' := [jR 1, jI r, jI h, jI W, jI i, jI (hp 2 i), z]) (st' := [jI W, jI h]) (hp' := hp) rfl ?_
          refine jE_icmp_ne rfl (by omega) (by omega) (fun c51 => ?_) (fun c51 => ?_)
          · refine jm_Ev.bl 2 (pc' := 61) (A' := [jR 1, jI r, jI h, jI W, jI i, jI (hp 2 i), jI 0]) (st' := []) (hp' := hp) rfl ?_
            have hW2 : w ≠ 0 → W = w := fun z => by rw [hW, if_neg z]
            refine jm_Ev.bl 1 (pc' := 63) (A' := [jR 1, jI r, jI h, jI W, jI i, jI (hp 2 i), jI 0]) (st' := [jI 0]) (hp' := hp) rfl ?_
            refine jE_if_eq rfl (by omega) (fun _ => ?_) (fun c63 => absurd c63 (by omega))
            refine jm_Ev.bl 1 (pc' := 73) (A' := [jR 1, jI r, jI h, jI W, jI i, jI (hp 2 i), jI 0]) (st' := [jI i]) (hp' := hp) rfl ?_
            exact jE_ret rfl ⟨jrI (jflt_none hi0 c15 hs (by rw [jpst_s hi0 hs, if_pos c30, if_neg (by omega)])).symm, rfl⟩
          · refine jm_Ev.bl 3 (pc' := 61) (A' := [jR 1, jI r, jI h, jI W, jI i, jI (hp 2 i), jI 1]) (st' := []) (hp' := hp) rfl ?_
            have hW2 : w ≠ 0 → W = w := fun z => by rw [hW, if_neg z]
            refine jm_Ev.bl 1 (pc' := 63) (A' := [jR 1, jI r, jI h, jI W, jI i, jI (hp 2 i), jI 1]) (st' := [jI 1]) (hp' := hp) rfl ?_
            refine jE_if_eq rfl (by omega) (fun c63 => absurd c63 (by omega)) (fun _ => ?_)
            refine jm_Ev.bl 2 (pc' := 68) (A' := [jR 1, jI r, jI h, jI W, jI i, jI (hp 2 i), jI 1]) (st' := [jI 4, jI r]) (hp' := hp) rfl ?_
            refine jE_icmp_ne rfl (by omega) (by omega) (fun c68 => ?_) (fun c68 => ?_)
            · refine jm_Ev.bl 8 (pc' := 9) (A' := [jR 1, jI (r + 1), jI 0, jI h, jI (i + 1), jI (hp 2 i), jI 1]) (st' := []) (hp' := hp) rfl ?_
              have hw : (if w = 0 then h else w) = h := by split <;> omega
              exact ih (i + 1) (r + 1) 0 (if w = 0 then h else w) h (jI (hp 2 i)) (jI 1) (by omega) (by omega) (by rw [jpst_s hi0 hs, if_pos c30, if_pos (by omega)]) (by rw [if_neg (by omega), hw]) (by omega)
            · refine jm_Ev.bl 1 (pc' := 73) (A' := [jR 1, jI r, jI h, jI W, jI i, jI (hp 2 i), jI 1]) (st' := [jI i]) (hp' := hp) rfl ?_
              exact jE_ret rfl ⟨jrI (jflt_none hi0 c15 hs (by rw [jpst_s hi0 hs, if_pos c30, if_neg (by omega)])).symm, rfl⟩
        · refine jm_Ev.bl 1 (pc' := 38) (A' := [jR 1, jI r, jI h, jI W, jI i, jI (hp 2 i), z]) (st' := [jI h]) (hp' := hp) rfl ?_
          refine jE_if_le rfl (by omega) (fun c38 => ?_) (fun c38 => ?_)
          · refine jm_Ev.bl 3 (pc' := 61) (A' := [jR 1, jI r, jI h, jI W, jI i, jI (hp 2 i), jI 0]) (st' := []) (hp' := hp) rfl ?_
            have hW2 : w ≠ 0 → W = w := fun z => by rw [hW, if_neg z]
            refine jm_Ev.bl 1 (pc' := 63) (A' := [jR 1, jI r, jI h, jI W, jI i, jI (hp 2 i), jI 0]) (st' := [jI 0]) (hp' := hp) rfl ?_
            refine jE_if_eq rfl (by omega) (fun _ => ?_) (fun c63 => absurd c63 (by omega))
            refine jm_Ev.bl 1 (pc' := 73) (A' := [jR 1, jI r, jI h, jI W, jI i, jI (hp 2 i), jI 0]) (st' := [jI i]) (hp' := hp) rfl ?_
            exact jE_ret rfl ⟨jrI (jflt_none hi0 c15 hs (by rw [jpst_s hi0 hs, if_pos c30, if_neg (by omega)])).symm, rfl⟩
          · refine jm_Ev.bl 3 (pc' := 61) (A' := [jR 1, jI r, jI h, jI W, jI i, jI (hp 2 i), jI 1]) (st' := []) (hp' := hp) rfl ?_
            have hW2 : w ≠ 0 → W = w := fun z => by rw [hW, if_neg z]
            refine jm_Ev.bl 1 (pc' := 63) (A' := [jR 1, jI r, jI h, jI W, jI i, jI (hp 2 i), jI 1]) (st' := [jI 1]) (hp' := hp) rfl ?_
            refine jE_if_eq rfl (by omega) (fun c63 => absurd c63 (by omega)) (fun _ => ?_)
            refine jm_Ev.bl 2 (pc' := 68) (A' := [jR 1, jI r, jI h, jI W, jI i, jI (hp 2 i), jI 1]) (st' := [jI 4, jI r]) (hp' := hp) rfl ?_
            refine jE_icmp_ne rfl (by omega) (by omega) (fun c68 => ?_) (fun c68 => ?_)
            · refine jm_Ev.bl 8 (pc' := 9) (A' := [jR 1, jI (r + 1), jI 0, jI h, jI (i + 1), jI (hp 2 i), jI 1]) (st' := []) (hp' := hp) rfl ?_
              have hw : (if w = 0 then h else w) = h := by split <;> omega
              exact ih (i + 1) (r + 1) 0 (if w = 0 then h else w) h (jI (hp 2 i)) (jI 1) (by omega) (by omega) (by rw [jpst_s hi0 hs, if_pos c30, if_pos (by omega)]) (by rw [if_neg (by omega), hw]) (by omega)
            · refine jm_Ev.bl 1 (pc' := 73) (A' := [jR 1, jI r, jI h, jI W, jI i, jI (hp 2 i), jI 1]) (st' := [jI i]) (hp' := hp) rfl ?_
              exact jE_ret rfl ⟨jrI (jflt_none hi0 c15 hs (by rw [jpst_s hi0 hs, if_pos c30, if_neg (by omega)])).symm, rfl⟩
theorem c_p_fault (hp : jm_H) (hP : jPg (hp 1 1) (hp 2)) : jm_Ev 79 0 [jR 1, jU, jU, jU, jU, jU, jU] [] hp (jK (some (jI (jflt (hp 2) (hp 1 1).toNat))) hp) := by
  obtain ⟨h1, h2, h3⟩ := id hP
  refine jm_Ev.bl 8 (pc' := 9) (A' := [jR 1, jI 0, jI 0, jI 5, jI 0, jU, jU]) (st' := []) (hp' := hp) rfl ?_
  exact c_p_fault_L hp hP 33 0 0 0 0 5 _ _ (by omega) (by omega) rfl rfl (by omega)
