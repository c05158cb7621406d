/-! switches that fall to their default -/
theorem jE_tswd {x pc nx tg : Nat} {A r : List jm_V} {hp : jm_H} {Q : Option jm_V → jm_H → Prop} {a d lo hi : Int} {offs : Array Int} (hf : jm_fe x pc = some (.tableswitch d lo hi offs, nx, tg)) (ha : jR32 a) (hd : a < lo ∨ hi < a) (k : jm_Ev x ((pc : Int) + d).toNat A r hp Q) : jm_Ev x pc A (jI a :: r) hp Q := by
  refine jE_in (i := .tableswitch d lo hi offs) hf ?_ k
  show (match jm_tsw d lo hi offs pc (jm_w32 a) with | some q => some (Sum.inl (q, A, r, hp)) | none => none) = _
  rw [jw32 ha]
  unfold jm_tsw
  rw [if_pos hd]
theorem jlsw_d (l : List (Int × Int)) (d k : Int) (h : ∀ q ∈ l, q.1 ≠ k) : Op.lookupswitch.offset l d k = d := by
  induction l with
  | nil => rfl
  | cons q r ih =>
    obtain ⟨a, o⟩ := q
    rw [Op.lookupswitch.offset_cons, if_neg (h (a, o) (by simp))]
    exact ih (fun q hq => h q (by simp [hq]))
theorem jE_lswd {x pc nx tg : Nat} {A r : List jm_V} {hp : jm_H} {Q : Option jm_V → jm_H → Prop} {a d : Int} {ps : Array (Int × Int)} (hf : jm_fe x pc = some (.lookupswitch d ps, nx, tg)) (ha : jR32 a) (hd : ∀ q ∈ ps.toList, q.1 ≠ a) (k : jm_Ev x ((pc : Int) + d).toNat A r hp Q) : jm_Ev x pc A (jI a :: r) hp Q := by
  refine jE_in (i := .lookupswitch d ps) hf ?_ k
  show some (Sum.inl (((pc : Int) + Op.lookupswitch.offset ps.toList d (jm_w32 a)).toNat, A, r, hp)) = _
  rw [jw32 ha, jlsw_d _ _ _ hd]
/-- how many of five bits -/
def jbc (s : Int) : Int := s % 2 + s / 2 % 2 + s / 4 % 2 + s / 8 % 2 + s / 16 % 2
theorem jbc_b : ∀ k : Fin 32, (fun v : Int => (Int32.ofInt (((Int32.ofInt (((Int32.ofInt (v - (Int32.ofInt (((Int32.ofInt v).toUInt32 >>> ((Int32.ofInt 1).toUInt32 &&& Int32.toUInt32 31)).toInt32.toInt) &&& Int32.ofInt 1431655765).toInt) &&& Int32.ofInt 858993459).toInt + (Int32.ofInt (((Int32.ofInt (v - (Int32.ofInt (((Int32.ofInt v).toUInt32 >>> ((Int32.ofInt 1).toUInt32 &&& Int32.toUInt32 31)).toInt32.toInt) &&& Int32.ofInt 1431655765).toInt)).toUInt32 >>> ((Int32.ofInt 2).toUInt32 &&& Int32.toUInt32 31)).toInt32.toInt) &&& Int32.ofInt 858993459).toInt) + ((Int32.ofInt ((Int32.ofInt (v - (Int32.ofInt (((Int32.ofInt v).toUInt32 >>> ((Int32.ofInt 1).toUInt32 &&& Int32.toUInt32 31)).toInt32.toInt) &&& Int32.ofInt 1431655765).toInt) &&& Int32.ofInt 858993459).toInt + (Int32.ofInt (((Int32.ofInt (v - (Int32.ofInt (((Int32.ofInt v).toUInt32 >>> ((Int32.ofInt 1).toUInt32 &&& Int32.toUInt32 31)).toInt32.toInt) &&& Int32.ofInt 1431655765).toInt)).toUInt32 >>> ((Int32.ofInt 2).toUInt32 &&& Int32.toUInt32 31)).toInt32.toInt) &&& Int32.ofInt 858993459).toInt)).toUInt32 >>> ((Int32.ofInt 4).toUInt32 &&& Int32.toUInt32 31)).toInt32.toInt) &&& Int32.ofInt 252645135).toInt + ((Int32.ofInt ((Int32.ofInt (((Int32.ofInt (v - (Int32.ofInt (((Int32.ofInt v).toUInt32 >>> ((Int32.ofInt 1).toUInt32 &&& Int32.toUInt32 31)).toInt32.toInt) &&& Int32.ofInt 1431655765).toInt) &&& Int32.ofInt 858993459).toInt + (Int32.ofInt (((Int32.ofInt (v - (Int32.ofInt (((Int32.ofInt v).toUInt32 >>> ((Int32.ofInt 1).toUInt32 &&& Int32.toUInt32 31)).toInt32.toInt) &&& Int32.ofInt 1431655765).toInt)).toUInt32 >>> ((Int32.ofInt 2).toUInt32 &&& Int32.toUInt32 31)).toInt32.toInt) &&& Int32.ofInt 858993459).toInt) + ((Int32.ofInt ((Int32.ofInt (v - (Int32.ofInt (((Int32.ofInt v).toUInt32 >>> ((Int32.ofInt 1).toUInt32 &&& Int32.toUInt32 31)).toInt32.toInt) &&& Int32.ofInt 1431655765).toInt) &&& Int32.ofInt 858993459).toInt + (Int32.ofInt (((Int32.ofInt (v - (Int32.ofInt (((Int32.ofInt v).toUInt32 >>> ((Int32.ofInt 1).toUInt32 &&& Int32.toUInt32 31)).toInt32.toInt) &&& Int32.ofInt 1431655765).toInt)).toUInt32 >>> ((Int32.ofInt 2).toUInt32 &&& Int32.toUInt32 31)).toInt32.toInt) &&& Int32.ofInt 858993459).toInt)).toUInt32 >>> ((Int32.ofInt 4).toUInt32 &&& Int32.toUInt32 31)).toInt32.toInt) &&& Int32.ofInt 252645135).toInt)).toUInt32 >>> ((Int32.ofInt 8).toUInt32 &&& Int32.toUInt32 31)).toInt32.toInt) + ((Int32.ofInt ((Int32.ofInt (((Int32.ofInt (v - (Int32.ofInt (((Int32.ofInt v).toUInt32 >>> ((Int32.ofInt 1).toUInt32 &&& Int32.toUInt32 31)).toInt32.toInt) &&& Int32.ofInt 1431655765).toInt) &&& Int32.ofInt 858993459).toInt + (Int32.ofInt (((Int32.ofInt (v - (Int32.ofInt (((Int32.ofInt v).toUInt32 >>> ((Int32.ofInt 1).toUInt32 &&& Int32.toUInt32 31)).toInt32.toInt) &&& Int32.ofInt 1431655765).toInt)).toUInt32 >>> ((Int32.ofInt 2).toUInt32 &&& Int32.toUInt32 31)).toInt32.toInt) &&& Int32.ofInt 858993459).toInt) + ((Int32.ofInt ((Int32.ofInt (v - (Int32.ofInt (((Int32.ofInt v).toUInt32 >>> ((Int32.ofInt 1).toUInt32 &&& Int32.toUInt32 31)).toInt32.toInt) &&& Int32.ofInt 1431655765).toInt) &&& Int32.ofInt 858993459).toInt + (Int32.ofInt (((Int32.ofInt (v - (Int32.ofInt (((Int32.ofInt v).toUInt32 >>> ((Int32.ofInt 1).toUInt32 &&& Int32.toUInt32 31)).toInt32.toInt) &&& Int32.ofInt 1431655765).toInt)).toUInt32 >>> ((Int32.ofInt 2).toUInt32 &&& Int32.toUInt32 31)).toInt32.toInt) &&& Int32.ofInt 858993459).toInt)).toUInt32 >>> ((Int32.ofInt 4).toUInt32 &&& Int32.toUInt32 31)).toInt32.toInt) &&& Int32.ofInt 252645135).toInt + ((Int32.ofInt ((Int32.ofInt (((Int32.ofInt (v - (Int32.ofInt (((Int32.ofInt v).toUInt32 >>> ((Int32.ofInt 1).toUInt32 &&& Int32.toUInt32 31)).toInt32.toInt) &&& Int32.ofInt 1431655765).toInt) &&& Int32.ofInt 858993459).toInt + (Int32.ofInt (((Int32.ofInt (v - (Int32.ofInt (((Int32.ofInt v).toUInt32 >>> ((Int32.ofInt 1).toUInt32 &&& Int32.toUInt32 31)).toInt32.toInt) &&& Int32.ofInt 1431655765).toInt)).toUInt32 >>> ((Int32.ofInt 2).toUInt32 &&& Int32.toUInt32 31)).toInt32.toInt) &&& Int32.ofInt 858993459).toInt) + ((Int32.ofInt ((Int32.ofInt (v - (Int32.ofInt (((Int32.ofInt v).toUInt32 >>> ((Int32.ofInt 1).toUInt32 &&& Int32.toUInt32 31)).toInt32.toInt) &&& Int32.ofInt 1431655765).toInt) &&& Int32.ofInt 858993459).toInt + (Int32.ofInt (((Int32.ofInt (v - (Int32.ofInt (((Int32.ofInt v).toUInt32 >>> ((Int32.ofInt 1).toUInt32 &&& Int32.toUInt32 31)).toInt32.toInt) &&& Int32.ofInt 1431655765).toInt)).toUInt32 >>> ((Int32.ofInt 2).toUInt32 &&& Int32.toUInt32 31)).toInt32.toInt) &&& Int32.ofInt 858993459).toInt)).toUInt32 >>> ((Int32.ofInt 4).toUInt32 &&& Int32.toUInt32 31)).toInt32.toInt) &&& Int32.ofInt 252645135).toInt)).toUInt32 >>> ((Int32.ofInt 8).toUInt32 &&& Int32.toUInt32 31)).toInt32.toInt)).toUInt32 >>> ((Int32.ofInt 16).toUInt32 &&& Int32.toUInt32 31)).toInt32.toInt) &&& Int32.ofInt 63).toInt = jbc v) (k.val : Int) := by decide +kernel
theorem jbc_o {v : Int} (h0 : 0 ≤ v) (h1 : v ≤ 31) : (Int32.ofInt (((Int32.ofInt (((Int32.ofInt (v - (Int32.ofInt (((Int32.ofInt v).toUInt32 >>> ((Int32.ofInt 1).toUInt32 &&& Int32.toUInt32 31)).toInt32.toInt) &&& Int32.ofInt 1431655765).toInt) &&& Int32.ofInt 858993459).toInt + (Int32.ofInt (((Int32.ofInt (v - (Int32.ofInt (((Int32.ofInt v).toUInt32 >>> ((Int32.ofInt 1).toUInt32 &&& Int32.toUInt32 31)).toInt32.toInt) &&& Int32.ofInt 1431655765).toInt)).toUInt32 >>> ((Int32.ofInt 2).toUInt32 &&& Int32.toUInt32 31)).toInt32.toInt) &&& Int32.ofInt 858993459).toInt) + ((Int32.ofInt ((Int32.ofInt (v - (Int32.ofInt (((Int32.ofInt v).toUInt32 >>> ((Int32.ofInt 1).toUInt32 &&& Int32.toUInt32 31)).toInt32.toInt) &&& Int32.ofInt 1431655765).toInt) &&& Int32.ofInt 858993459).toInt + (Int32.ofInt (((Int32.ofInt (v - (Int32.ofInt (((Int32.ofInt v).toUInt32 >>> ((Int32.ofInt 1).toUInt32 &&& Int32.toUInt32 31)).toInt32.toInt) &&& Int32.ofInt 1431655765).toInt)).toUInt32 >>> ((Int32.ofInt 2).toUInt32 &&& Int32.toUInt32 31)).toInt32.toInt) &&& Int32.ofInt 858993459).toInt)).toUInt32 >>> ((Int32.ofInt 4).toUInt32 &&& Int32.toUInt32 31)).toInt32.toInt) &&& Int32.ofInt 252645135).toInt + ((Int32.ofInt ((Int32.ofInt (((Int32.ofInt (v - (Int32.ofInt (((Int32.ofInt v).toUInt32 >>> ((Int32.ofInt 1).toUInt32 &&& Int32.toUInt32 31)).toInt32.toInt) &&& Int32.ofInt 1431655765).toInt) &&& Int32.ofInt 858993459).toInt + (Int32.ofInt (((Int32.ofInt (v - (Int32.ofInt (((Int32.ofInt v).toUInt32 >>> ((Int32.ofInt 1).toUInt32 &&& Int32.toUInt32 31)).toInt32.toInt) &&& Int32.ofInt 1431655765).toInt)).toUInt32 >>> ((Int32.ofInt 2).toUInt32 &&& Int32.toUInt32 31)).toInt32.toInt) &&& Int32.ofInt 858993459).toInt) + ((Int32.ofInt ((Int32.ofInt (v - (Int32.ofInt (((Int32.ofInt v).toUInt32 >>> ((Int32.ofInt 1).toUInt32 &&& Int32.toUInt32 31)).toInt32.toInt) &&& Int32.ofInt 1431655765).toInt) &&& Int32.ofInt 858993459).toInt + (Int32.ofInt (((Int32.ofInt (v - (Int32.ofInt (((Int32.ofInt v).toUInt32 >>> ((Int32.ofInt 1).toUInt32 &&& Int32.toUInt32 31)).toInt32.toInt) &&& Int32.ofInt 1431655765).toInt)).toUInt32 >>> ((Int32.ofInt 2).toUInt32 &&& Int32.toUInt32 31)).toInt32.toInt) &&& Int32.ofInt 858993459).toInt)).toUInt32 >>> ((Int32.ofInt 4).toUInt32 &&& Int32.toUInt32 31)).toInt32.toInt) &&& Int32.ofInt 252645135).toInt)).toUInt32 >>> ((Int32.ofInt 8).toUInt32 &&& Int32.toUInt32 31)).toInt32.toInt) + ((Int32.ofInt ((Int32.ofInt (((Int32.ofInt (v - (Int32.ofInt (((Int32.ofInt v).toUInt32 >>> ((Int32.ofInt 1).toUInt32 &&& Int32.toUInt32 31)).toInt32.toInt) &&& Int32.ofInt 1431655765).toInt) &&& Int32.ofInt 858993459).toInt + (Int32.ofInt (((Int32.ofInt (v - (Int32.ofInt (((Int32.ofInt v).toUInt32 >>> ((Int32.ofInt 1).toUInt32 &&& Int32.toUInt32 31)).toInt32.toInt) &&& Int32.ofInt 1431655765).toInt)).toUInt32 >>> ((Int32.ofInt 2).toUInt32 &&& Int32.toUInt32 31)).toInt32.toInt) &&& Int32.ofInt 858993459).toInt) + ((Int32.ofInt ((Int32.ofInt (v - (Int32.ofInt (((Int32.ofInt v).toUInt32 >>> ((Int32.ofInt 1).toUInt32 &&& Int32.toUInt32 31)).toInt32.toInt) &&& Int32.ofInt 1431655765).toInt) &&& Int32.ofInt 858993459).toInt + (Int32.ofInt (((Int32.ofInt (v - (Int32.ofInt (((Int32.ofInt v).toUInt32 >>> ((Int32.ofInt 1).toUInt32 &&& Int32.toUInt32 31)).toInt32.toInt) &&& Int32.ofInt 1431655765).toInt)).toUInt32 >>> ((Int32.ofInt 2).toUInt32 &&& Int32.toUInt32 31)).toInt32.toInt) &&& Int32.ofInt 858993459).toInt)).toUInt32 >>> ((Int32.ofInt 4).toUInt32 &&& Int32.toUInt32 31)).toInt32.toInt) &&& Int32.ofInt 252645135).toInt + ((Int32.ofInt ((Int32.ofInt (((Int32.ofInt (v - (Int32.ofInt (((Int32.ofInt v).toUInt32 >>> ((Int32.ofInt 1).toUInt32 &&& Int32.toUInt32 31)).toInt32.toInt) &&& Int32.ofInt 1431655765).toInt) &&& Int32.ofInt 858993459).toInt + (Int32.ofInt (((Int32.ofInt (v - (Int32.ofInt (((Int32.ofInt v).toUInt32 >>> ((Int32.ofInt 1).toUInt32 &&& Int32.toUInt32 31)).toInt32.toInt) &&& Int32.ofInt 1431655765).toInt)).toUInt32 >>> ((Int32.ofInt 2).toUInt32 &&& Int32.toUInt32 31)).toInt32.toInt) &&& Int32.ofInt 858993459).toInt) + ((Int32.ofInt ((Int32.ofInt (v - (Int32.ofInt (((Int32.ofInt v).toUInt32 >>> ((Int32.ofInt 1).toUInt32 &&& Int32.toUInt32 31)).toInt32.toInt) &&& Int32.ofInt 1431655765).toInt) &&& Int32.ofInt 858993459).toInt + (Int32.ofInt (((Int32.ofInt (v - (Int32.ofInt (((Int32.ofInt v).toUInt32 >>> ((Int32.ofInt 1).toUInt32 &&& Int32.toUInt32 31)).toInt32.toInt) &&& Int32.ofInt 1431655765).toInt)).toUInt32 >>> ((Int32.ofInt 2).toUInt32 &&& Int32.toUInt32 31)).toInt32.toInt) &&& Int32.ofInt 858993459).toInt)).toUInt32 >>> ((Int32.ofInt 4).toUInt32 &&& Int32.toUInt32 31)).toInt32.toInt) &&& Int32.ofInt 252645135).toInt)).toUInt32 >>> ((Int32.ofInt 8).toUInt32 &&& Int32.toUInt32 31)).toInt32.toInt)).toUInt32 >>> ((Int32.ofInt 16).toUInt32 &&& Int32.toUInt32 31)).toInt32.toInt) &&& Int32.ofInt 63).toInt = jbc v := jlt32 (P := fun v : Int => (Int32.ofInt (((Int32.ofInt (((Int32.ofInt (v - (Int32.ofInt (((Int32.ofInt v).toUInt32 >>> ((Int32.ofInt 1).toUInt32 &&& Int32.toUInt32 31)).toInt32.toInt) &&& Int32.ofInt 1431655765).toInt) &&& Int32.ofInt 858993459).toInt + (Int32.ofInt (((Int32.ofInt (v - (Int32.ofInt (((Int32.ofInt v).toUInt32 >>> ((Int32.ofInt 1).toUInt32 &&& Int32.toUInt32 31)).toInt32.toInt) &&& Int32.ofInt 1431655765).toInt)).toUInt32 >>> ((Int32.ofInt 2).toUInt32 &&& Int32.toUInt32 31)).toInt32.toInt) &&& Int32.ofInt 858993459).toInt) + ((Int32.ofInt ((Int32.ofInt (v - (Int32.ofInt (((Int32.ofInt v).toUInt32 >>> ((Int32.ofInt 1).toUInt32 &&& Int32.toUInt32 31)).toInt32.toInt) &&& Int32.ofInt 1431655765).toInt) &&& Int32.ofInt 858993459).toInt + (Int32.ofInt (((Int32.ofInt (v - (Int32.ofInt (((Int32.ofInt v).toUInt32 >>> ((Int32.ofInt 1).toUInt32 &&& Int32.toUInt32 31)).toInt32.toInt) &&& Int32.ofInt 1431655765).toInt)).toUInt32 >>> ((Int32.ofInt 2).toUInt32 &&& Int32.toUInt32 31)).toInt32.toInt) &&& Int32.ofInt 858993459).toInt)).toUInt32 >>> ((Int32.ofInt 4).toUInt32 &&& Int32.toUInt32 31)).toInt32.toInt) &&& Int32.ofInt 252645135).toInt + ((Int32.ofInt ((Int32.ofInt (((Int32.ofInt (v - (Int32.ofInt (((Int32.ofInt v).toUInt32 >>> ((Int32.ofInt 1).toUInt32 &&& Int32.toUInt32 31)).toInt32.toInt) &&& Int32.ofInt 1431655765).toInt) &&& Int32.ofInt 858993459).toInt + (Int32.ofInt (((Int32.ofInt (v - (Int32.ofInt (((Int32.ofInt v).toUInt32 >>> ((Int32.ofInt 1).toUInt32 &&& Int32.toUInt32 31)).toInt32.toInt) &&& Int32.ofInt 1431655765).toInt)).toUInt32 >>> ((Int32.ofInt 2).toUInt32 &&& Int32.toUInt32 31)).toInt32.toInt) &&& Int32.ofInt 858993459).toInt) + ((Int32.ofInt ((Int32.ofInt (v - (Int32.ofInt (((Int32.ofInt v).toUInt32 >>> ((Int32.ofInt 1).toUInt32 &&& Int32.toUInt32 31)).toInt32.toInt) &&& Int32.ofInt 1431655765).toInt) &&& Int32.ofInt 858993459).toInt + (Int32.ofInt (((Int32.ofInt (v - (Int32.ofInt (((Int32.ofInt v).toUInt32 >>> ((Int32.ofInt 1).toUInt32 &&& Int32.toUInt32 31)).toInt32.toInt) &&& Int32.ofInt 1431655765).toInt)).toUInt32 >>> ((Int32.ofInt 2).toUInt32 &&& Int32.toUInt32 31)).toInt32.toInt) &&& Int32.ofInt 858993459).toInt)).toUInt32 >>> ((Int32.ofInt 4).toUInt32 &&& Int32.toUInt32 31)).toInt32.toInt) &&& Int32.ofInt 252645135).toInt)).toUInt32 >>> ((Int32.ofInt 8).toUInt32 &&& Int32.toUInt32 31)).toInt32.toInt) + ((Int32.ofInt ((Int32.ofInt (((Int32.ofInt (v - (Int32.ofInt (((Int32.ofInt v).toUInt32 >>> ((Int32.ofInt 1).toUInt32 &&& Int32.toUInt32 31)).toInt32.toInt) &&& Int32.ofInt 1431655765).toInt) &&& Int32.ofInt 858993459).toInt + (Int32.ofInt (((Int32.ofInt (v - (Int32.ofInt (((Int32.ofInt v).toUInt32 >>> ((Int32.ofInt 1).toUInt32 &&& Int32.toUInt32 31)).toInt32.toInt) &&& Int32.ofInt 1431655765).toInt)).toUInt32 >>> ((Int32.ofInt 2).toUInt32 &&& Int32.toUInt32 31)).toInt32.toInt) &&& Int32.ofInt 858993459).toInt) + ((Int32.ofInt ((Int32.ofInt (v - (Int32.ofInt (((Int32.ofInt v).toUInt32 >>> ((Int32.ofInt 1).toUInt32 &&& Int32.toUInt32 31)).toInt32.toInt) &&& Int32.ofInt 1431655765).toInt) &&& Int32.ofInt 858993459).toInt + (Int32.ofInt (((Int32.ofInt (v - (Int32.ofInt (((Int32.ofInt v).toUInt32 >>> ((Int32.ofInt 1).toUInt32 &&& Int32.toUInt32 31)).toInt32.toInt) &&& Int32.ofInt 1431655765).toInt)).toUInt32 >>> ((Int32.ofInt 2).toUInt32 &&& Int32.toUInt32 31)).toInt32.toInt) &&& Int32.ofInt 858993459).toInt)).toUInt32 >>> ((Int32.ofInt 4).toUInt32 &&& Int32.toUInt32 31)).toInt32.toInt) &&& Int32.ofInt 252645135).toInt + ((Int32.ofInt ((Int32.ofInt (((Int32.ofInt (v - (Int32.ofInt (((Int32.ofInt v).toUInt32 >>> ((Int32.ofInt 1).toUInt32 &&& Int32.toUInt32 31)).toInt32.toInt) &&& Int32.ofInt 1431655765).toInt) &&& Int32.ofInt 858993459).toInt + (Int32.ofInt (((Int32.ofInt (v - (Int32.ofInt (((Int32.ofInt v).toUInt32 >>> ((Int32.ofInt 1).toUInt32 &&& Int32.toUInt32 31)).toInt32.toInt) &&& Int32.ofInt 1431655765).toInt)).toUInt32 >>> ((Int32.ofInt 2).toUInt32 &&& Int32.toUInt32 31)).toInt32.toInt) &&& Int32.ofInt 858993459).toInt) + ((Int32.ofInt ((Int32.ofInt (v - (Int32.ofInt (((Int32.ofInt v).toUInt32 >>> ((Int32.ofInt 1).toUInt32 &&& Int32.toUInt32 31)).toInt32.toInt) &&& Int32.ofInt 1431655765).toInt) &&& Int32.ofInt 858993459).toInt + (Int32.ofInt (((Int32.ofInt (v - (Int32.ofInt (((Int32.ofInt v).toUInt32 >>> ((Int32.ofInt 1).toUInt32 &&& Int32.toUInt32 31)).toInt32.toInt) &&& Int32.ofInt 1431655765).toInt)).toUInt32 >>> ((Int32.ofInt 2).toUInt32 &&& Int32.toUInt32 31)).toInt32.toInt) &&& Int32.ofInt 858993459).toInt)).toUInt32 >>> ((Int32.ofInt 4).toUInt32 &&& Int32.toUInt32 31)).toInt32.toInt) &&& Int32.ofInt 252645135).toInt)).toUInt32 >>> ((Int32.ofInt 8).toUInt32 &&& Int32.toUInt32 31)).toInt32.toInt)).toUInt32 >>> ((Int32.ofInt 16).toUInt32 &&& Int32.toUInt32 31)).toInt32.toInt) &&& Int32.ofInt 63).toInt = jbc v) h0 h1 jbc_b
theorem c_bitCount (hp : jm_H) (v : Int) (h0 : 0 ≤ v) (h1 : v ≤ 31) : jm_Ev 3 0 [jI v] [] hp (jK (some (jI (jbc v))) hp) := by
  refine jm_Ev.bl 41 (pc' := 52) (A' := [jI (((Int32.ofInt (((Int32.ofInt (v - (Int32.ofInt (((Int32.ofInt v).toUInt32 >>> ((Int32.ofInt 1).toUInt32 &&& Int32.toUInt32 31)).toInt32.toInt) &&& Int32.ofInt 1431655765).toInt) &&& Int32.ofInt 858993459).toInt + (Int32.ofInt (((Int32.ofInt (v - (Int32.ofInt (((Int32.ofInt v).toUInt32 >>> ((Int32.ofInt 1).toUInt32 &&& Int32.toUInt32 31)).toInt32.toInt) &&& Int32.ofInt 1431655765).toInt)).toUInt32 >>> ((Int32.ofInt 2).toUInt32 &&& Int32.toUInt32 31)).toInt32.toInt) &&& Int32.ofInt 858993459).toInt) + ((Int32.ofInt ((Int32.ofInt (v - (Int32.ofInt (((Int32.ofInt v).toUInt32 >>> ((Int32.ofInt 1).toUInt32 &&& Int32.toUInt32 31)).toInt32.toInt) &&& Int32.ofInt 1431655765).toInt) &&& Int32.ofInt 858993459).toInt + (Int32.ofInt (((Int32.ofInt (v - (Int32.ofInt (((Int32.ofInt v).toUInt32 >>> ((Int32.ofInt 1).toUInt32 &&& Int32.toUInt32 31)).toInt32.toInt) &&& Int32.ofInt 1431655765).toInt)).toUInt32 >>> ((Int32.ofInt 2).toUInt32 &&& Int32.toUInt32 31)).toInt32.toInt) &&& Int32.ofInt 858993459).toInt)).toUInt32 >>> ((Int32.ofInt 4).toUInt32 &&& Int32.toUInt32 31)).toInt32.toInt) &&& Int32.ofInt 252645135).toInt + ((Int32.ofInt ((Int32.ofInt (((Int32.ofInt (v - (Int32.ofInt (((Int32.ofInt v).toUInt32 >>> ((Int32.ofInt 1).toUInt32 &&& Int32.toUInt32 31)).toInt32.toInt) &&& Int32.ofInt 1431655765).toInt) &&& Int32.ofInt 858993459).toInt + (Int32.ofInt (((Int32.ofInt (v - (Int32.ofInt (((Int32.ofInt v).toUInt32 >>> ((Int32.ofInt 1).toUInt32 &&& Int32.toUInt32 31)).toInt32.toInt) &&& Int32.ofInt 1431655765).toInt)).toUInt32 >>> ((Int32.ofInt 2).toUInt32 &&& Int32.toUInt32 31)).toInt32.toInt) &&& Int32.ofInt 858993459).toInt) + ((Int32.ofInt ((Int32.ofInt (v - (Int32.ofInt (((Int32.ofInt v).toUInt32 >>> ((Int32.ofInt 1).toUInt32 &&& Int32.toUInt32 31)).toInt32.toInt) &&& Int32.ofInt 1431655765).toInt) &&& Int32.ofInt 858993459).toInt + (Int32.ofInt (((Int32.ofInt (v - (Int32.ofInt (((Int32.ofInt v).toUInt32 >>> ((Int32.ofInt 1).toUInt32 &&& Int32.toUInt32 31)).toInt32.toInt) &&& Int32.ofInt 1431655765).toInt)).toUInt32 >>> ((Int32.ofInt 2).toUInt32 &&& Int32.toUInt32 31)).toInt32.toInt) &&& Int32.ofInt 858993459).toInt)).toUInt32 >>> ((Int32.ofInt 4).toUInt32 &&& Int32.toUInt32 31)).toInt32.toInt) &&& Int32.ofInt 252645135).toInt)).toUInt32 >>> ((Int32.ofInt 8).toUInt32 &&& Int32.toUInt32 31)).toInt32.toInt) + ((Int32.ofInt ((Int32.ofInt (((Int32.ofInt (v - (Int32.ofInt (((Int32.ofInt v).toUInt32 >>> ((Int32.ofInt 1).toUInt32 &&& Int32.toUInt32 31)).toInt32.toInt) &&& Int32.ofInt 1431655765).toInt) &&& Int32.ofInt 858993459).toInt + (Int32.ofInt (((Int32.ofInt (v - (Int32.ofInt (((Int32.ofInt v).toUInt32 >>> ((Int32.ofInt 1).toUInt32 &&& Int32.toUInt32 31)).toInt32.toInt) &&& Int32.ofInt 1431655765).toInt)).toUInt32 >>> ((Int32.ofInt 2).toUInt32 &&& Int32.toUInt32 31)).toInt32.toInt) &&& Int32.ofInt 858993459).toInt) + ((Int32.ofInt ((Int32.ofInt (v - (Int32.ofInt (((Int32.ofInt v).toUInt32 >>> ((Int32.ofInt 1).toUInt32 &&& Int32.toUInt32 31)).toInt32.toInt) &&& Int32.ofInt 1431655765).toInt) &&& Int32.ofInt 858993459).toInt + (Int32.ofInt (((Int32.ofInt (v - (Int32.ofInt (((Int32.ofInt v).toUInt32 >>> ((Int32.ofInt 1).toUInt32 &&& Int32.toUInt32 31)).toInt32.toInt) &&& Int32.ofInt 1431655765).toInt)).toUInt32 >>> ((Int32.ofInt 2).toUInt32 &&& Int32.toUInt32 31)).toInt32.toInt) &&& Int32.ofInt 858993459).toInt)).toUInt32 >>> ((Int32.ofInt 4).toUInt32 &&& Int32.toUInt32 31)).toInt32.toInt) &&& Int32.ofInt 252645135).toInt + ((Int32.ofInt ((Int32.ofInt (((Int32.ofInt (v - (Int32.ofInt (((Int32.ofInt v).toUInt32 >>> ((Int32.ofInt 1).toUInt32 &&& Int32.toUInt32 31)).toInt32.toInt) &&& Int32.ofInt 1431655765).toInt) &&& Int32.ofInt 858993459).toInt + (Int32.ofInt (((Int32.ofInt (v - (Int32.ofInt (((Int32.ofInt v).toUInt32 >>> ((Int32.ofInt 1).toUInt32 &&& Int32.toUInt32 31)).toInt32.toInt) &&& Int32.ofInt 1431655765).toInt)).toUInt32 >>> ((Int32.ofInt 2).toUInt32 &&& Int32.toUInt32 31)).toInt32.toInt) &&& Int32.ofInt 858993459).toInt) + ((Int32.ofInt ((Int32.ofInt (v - (Int32.ofInt (((Int32.ofInt v).toUInt32 >>> ((Int32.ofInt 1).toUInt32 &&& Int32.toUInt32 31)).toInt32.toInt) &&& Int32.ofInt 1431655765).toInt) &&& Int32.ofInt 858993459).toInt + (Int32.ofInt (((Int32.ofInt (v - (Int32.ofInt (((Int32.ofInt v).toUInt32 >>> ((Int32.ofInt 1).toUInt32 &&& Int32.toUInt32 31)).toInt32.toInt) &&& Int32.ofInt 1431655765).toInt)).toUInt32 >>> ((Int32.ofInt 2).toUInt32 &&& Int32.toUInt32 31)).toInt32.toInt) &&& Int32.ofInt 858993459).toInt)).toUInt32 >>> ((Int32.ofInt 4).toUInt32 &&& Int32.toUInt32 31)).toInt32.toInt) &&& Int32.ofInt 252645135).toInt)).toUInt32 >>> ((Int32.ofInt 8).toUInt32 &&& Int32.toUInt32 31)).toInt32.toInt)).toUInt32 >>> ((Int32.ofInt 16).toUInt32 &&& Int32.toUInt32 31)).toInt32.toInt)]) (st' := [jI ((Int32.ofInt (((Int32.ofInt (((Int32.ofInt (v - (Int32.ofInt (((Int32.ofInt v).toUInt32 >>> ((Int32.ofInt 1).toUInt32 &&& Int32.toUInt32 31)).toInt32.toInt) &&& Int32.ofInt 1431655765).toInt) &&& Int32.ofInt 858993459).toInt + (Int32.ofInt (((Int32.ofInt (v - (Int32.ofInt (((Int32.ofInt v).toUInt32 >>> ((Int32.ofInt 1).toUInt32 &&& Int32.toUInt32 31)).toInt32.toInt) &&& Int32.ofInt 1431655765).toInt)).toUInt32 >>> ((Int32.ofInt 2).toUInt32 &&& Int32.toUInt32 31)).toInt32.toInt) &&& Int32.ofInt 858993459).toInt) + ((Int32.ofInt ((Int32.ofInt (v - (Int32.ofInt (((Int32.ofInt v).toUInt32 >>> ((Int32.ofInt 1).toUInt32 &&& Int32.toUInt32 31)).toInt32.toInt) &&& Int32.ofInt 1431655765).toInt) &&& Int32.ofInt 858993459).toInt + (Int32.ofInt (((Int32.ofInt (v - (Int32.ofInt (((Int32.ofInt v).toUInt32 >>> ((Int32.ofInt 1).toUInt32 &&& Int32.toUInt32 31)).toInt32.toInt) &&& Int32.ofInt 1431655765).toInt)).toUInt32 >>> ((Int32.ofInt 2).toUInt32 &&& Int32.toUInt32 31)).toInt32.toInt) &&& Int32.ofInt 858993459).toInt)).toUInt32 >>> ((Int32.ofInt 4).toUInt32 &&& Int32.toUInt32 31)).toInt32.toInt) &&& Int32.ofInt 252645135).toInt + ((Int32.ofInt ((Int32.ofInt (((Int32.ofInt (v - (Int32.ofInt (((Int32.ofInt v).toUInt32 >>> ((Int32.ofInt 1).toUInt32 &&& Int32.toUInt32 31)).toInt32.toInt) &&& Int32.ofInt 1431655765).toInt) &&& Int32.ofInt 858993459).toInt + (Int32.ofInt (((Int32.ofInt (v - (Int32.ofInt (((Int32.ofInt v).toUInt32 >>> ((Int32.ofInt 1).toUInt32 &&& Int32.toUInt32 31)).toInt32.toInt) &&& Int32.ofInt 1431655765).toInt)).toUInt32 >>> ((Int32.ofInt 2).toUInt32 &&& Int32.toUInt32 31)).toInt32.toInt) &&& Int32.ofInt 858993459).toInt) + ((Int32.ofInt ((Int32.ofInt (v - (Int32.ofInt (((Int32.ofInt v).toUInt32 >>> ((Int32.ofInt 1).toUInt32 &&& Int32.toUInt32 31)).toInt32.toInt) &&& Int32.ofInt 1431655765).toInt) &&& Int32.ofInt 858993459).toInt + (Int32.ofInt (((Int32.ofInt (v - (Int32.ofInt (((Int32.ofInt v).toUInt32 >>> ((Int32.ofInt 1).toUInt32 &&& Int32.toUInt32 31)).toInt32.toInt) &&& Int32.ofInt 1431655765).toInt)).toUInt32 >>> ((Int32.ofInt 2).toUInt32 &&& Int32.toUInt32 31)).toInt32.toInt) &&& Int32.ofInt 858993459).toInt)).toUInt32 >>> ((Int32.ofInt 4).toUInt32 &&& Int32.toUInt32 31)).toInt32.toInt) &&& Int32.ofInt 252645135).toInt)).toUInt32 >>> ((Int32.ofInt 8).toUInt32 &&& Int32.toUInt32 31)).toInt32.toInt) + ((Int32.ofInt ((Int32.ofInt (((Int32.ofInt (v - (Int32.ofInt (((Int32.ofInt v).toUInt32 >>> ((Int32.ofInt 1).toUInt32 &&& Int32.toUInt32 31)).toInt32.toInt) &&& Int32.ofInt 1431655765).toInt) &&& Int32.ofInt 858993459).toInt + (Int32.ofInt (((Int32.ofInt (v - (Int32.ofInt (((Int32.ofInt v).toUInt32 >>> ((Int32.ofInt 1).toUInt32 &&& Int32.toUInt32 31)).toInt32.toInt) &&& Int32.ofInt 1431655765).toInt)).toUInt32 >>> ((Int32.ofInt 2).toUInt32 &&& Int32.toUInt32 31)).toInt32.toInt) &&& Int32.ofInt 858993459).toInt) + ((Int32.ofInt ((Int32.ofInt (v - (Int32.ofInt (((Int32.ofInt v).toUInt32 >>> ((Int32.ofInt 1).toUInt32 &&& Int32.toUInt32 31)).toInt32.toInt) &&& Int32.ofInt 1431655765).toInt) &&& Int32.ofInt 858993459).toInt + (Int32.ofInt (((Int32.ofInt (v - (Int32.ofInt (((Int32.ofInt v).toUInt32 >>> ((Int32.ofInt 1).toUInt32 &&& Int32.toUInt32 31)).toInt32.toInt) &&& Int32.ofInt 1431655765).toInt)).toUInt32 >>> ((Int32.ofInt 2).toUInt32 &&& Int32.toUInt32 31)).toInt32.toInt) &&& Int32.ofInt 858993459).toInt)).toUInt32 >>> ((Int32.ofInt 4).toUInt32 &&& Int32.toUInt32 31)).toInt32.toInt) &&& Int32.ofInt 252645135).toInt + ((Int32.ofInt ((Int32.ofInt (((Int32.ofInt (v - (Int32.ofInt (((Int32.ofInt v).toUInt32 >>> ((Int32.ofInt 1).toUInt32 &&& Int32.toUInt32 31)).toInt32.toInt) &&& Int32.ofInt 1431655765).toInt) &&& Int32.ofInt 858993459).toInt + (Int32.ofInt (((Int32.ofInt (v - (Int32.ofInt (((Int32.ofInt v).toUInt32 >>> ((Int32.ofInt 1).toUInt32 &&& Int32.toUInt32 31)).toInt32.toInt) &&& Int32.ofInt 1431655765).toInt)).toUInt32 >>> ((Int32.ofInt 2).toUInt32 &&& Int32.toUInt32 31)).toInt32.toInt) &&& Int32.ofInt 858993459).toInt) + ((Int32.ofInt ((Int32.ofInt (v - (Int32.ofInt (((Int32.ofInt v).toUInt32 >>> ((Int32.ofInt 1).toUInt32 &&& Int32.toUInt32 31)).toInt32.toInt) &&& Int32.ofInt 1431655765).toInt) &&& Int32.ofInt 858993459).toInt + (Int32.ofInt (((Int32.ofInt (v - (Int32.ofInt (((Int32.ofInt v).toUInt32 >>> ((Int32.ofInt 1).toUInt32 &&& Int32.toUInt32 31)).toInt32.toInt) &&& Int32.ofInt 1431655765).toInt)).toUInt32 >>> ((Int32.ofInt 2).toUInt32 &&& Int32.toUInt32 31)).toInt32.toInt) &&& Int32.ofInt 858993459).toInt)).toUInt32 >>> ((Int32.ofInt 4).toUInt32 &&& Int32.toUInt32 31)).toInt32.toInt) &&& Int32.ofInt 252645135).toInt)).toUInt32 >>> ((Int32.ofInt 8).toUInt32 &&& Int32.toUInt32 31)).toInt32.toInt)).toUInt32 >>> ((Int32.ofInt 16).toUInt32 &&& Int32.toUInt32 31)).toInt32.toInt) &&& Int32.ofInt 63).toInt)]) (hp' := hp) rfl ?_
  exact jE_ret rfl ⟨jrI (jbc_o h0 h1), rfl⟩
/-- what is left at worst of the sorts s by the question q -/
def jlf (s q : Int) : Int := max (jbc (jsq s q 1)) (jbc s - jbc (jsq s q 1))
def jasks (s : Int) : Nat → Int × Int
  | 0 => (6, -1)
  | n + 1 => if jlf s n < (jasks s n).1 then (jlf s n, (n : Int)) else jasks s n
theorem jasks_s {s q : Int} (h : 0 ≤ q) : jasks s (q + 1).toNat = if jlf s q < (jasks s q.toNat).1 then (jlf s q, q) else jasks s q.toNat := by
  have e : (q + 1).toNat = q.toNat + 1 := by omega
  have e2 : ((q.toNat : Nat) : Int) = q := by omega
  rw [e]
  show (if jlf s ((q.toNat : Nat) : Int) < (jasks s q.toNat).1 then (jlf s ((q.toNat : Nat) : Int), ((q.toNat : Nat) : Int)) else jasks s q.toNat) = _
  rw [e2]
def jask (s : Int) : Int := if s = 0 then -1 else (jasks s 4).2
theorem jsq_i {s q : Int} (h0 : 0 ≤ s) (h1 : s ≤ 31) (h2 : 0 ≤ q) (h3 : q < 4) {P : Int → Int → Prop} (h : ∀ s : Fin 32, ∀ q : Fin 4, P (s.val : Int) (q.val : Int)) : P s q := by
  refine jlt32 (P := fun s => P s q) h0 h1 (fun k => ?_)
  have : q = 0 ∨ q = 1 ∨ q = 2 ∨ q = 3 := by omega
  rcases this with rfl | rfl | rfl | rfl
  · exact h k 0
  · exact h k 1
  · exact h k 2
  · exact h k 3
theorem jlf_b : ∀ s : Fin 32, ∀ q : Fin 4, 0 ≤ jbc (jsq (s.val : Int) (q.val : Int) 1) ∧ jbc (jsq (s.val : Int) (q.val : Int) 1) ≤ jbc (s.val : Int) ∧ jbc (s.val : Int) ≤ 5 ∧ jbc (jsq (s.val : Int) (q.val : Int) 0) = jbc (s.val : Int) - jbc (jsq (s.val : Int) (q.val : Int) 1) := by decide +kernel
theorem jlf_c {s q : Int} (h0 : 0 ≤ s) (h1 : s ≤ 31) (h2 : 0 ≤ q) (h3 : q < 4) : 0 ≤ jbc (jsq s q 1) ∧ jbc (jsq s q 1) ≤ jbc s ∧ jbc s ≤ 5 ∧ jbc (jsq s q 0) = jbc s - jbc (jsq s q 1) := jsq_i (P := fun s q => 0 ≤ jbc (jsq s q 1) ∧ jbc (jsq s q 1) ≤ jbc s ∧ jbc s ≤ 5 ∧ jbc (jsq s q 0) = jbc s - jbc (jsq s q 1)) h0 h1 h2 h3 jlf_b
theorem jlf_r {s q : Int} (h0 : 0 ≤ s) (h1 : s ≤ 31) (h2 : 0 ≤ q) (h3 : q < 4) : 0 ≤ jlf s q ∧ jlf s q ≤ 5 := by
  have := jlf_c h0 h1 h2 h3
  unfold jlf
  omega
theorem jnotq {s q : Int} (h0 : 0 ≤ s) (h1 : s ≤ 31) (h2 : 0 ≤ q) (h3 : q < 4) : (Int32.ofInt s &&& Int32.ofInt (Int32.ofInt (jtab q) ^^^ Int32.ofInt (-1)).toInt).toInt = jsq s q 0 := by
  rw [jnot h0 h1 h2 h3]; rfl
theorem jasks_r {s : Int} (h0 : 0 ≤ s) (h1 : s ≤ 31) (n : Nat) (h : n ≤ 4) : 0 ≤ (jasks s n).1 ∧ (jasks s n).1 ≤ 6 ∧ -1 ≤ (jasks s n).2 ∧ (jasks s n).2 ≤ 3 := by
  induction n with
  | zero => simp [jasks]
  | succ n ih =>
    have h2 := ih (by omega)
    have h3 := jlf_r (q := n) h0 h1 (by omega) (by omega)
    unfold jasks
    split
    · refine ⟨?_, ?_, ?_, ?_⟩ <;> dsimp only <;> omega
    · exact h2
theorem c_s_next_L {Q : Option jm_V → jm_H → Prop} (hp : jm_H) (s : Int) (h0 : 0 ≤ s) (h1 : s ≤ 31) (k : ∀ l f y z, (l, f) = jasks s 4 → jm_Ev 91 62 [jI s, jI l, jI f, jI 4, y, z] [] hp Q) : ∀ (n : Nat) (q l f : Int) (y z : jm_V), 0 ≤ q → q ≤ 4 → (l, f) = jasks s q.toNat → 4 - q < n → jm_Ev 91 13 [jI s, jI l, jI f, jI q, y, z] [] hp Q := by
  intro n
  induction n with
  | zero => intro q l f y z hq0 hq1 hs hn; omega
  | succ n ih =>
    intro q l f y z hq0 hq1 hs hn
    refine jm_Ev.bl 2 (pc' := 15) (A' := [jI s, jI l, jI f, jI q, y, z]) (st' := [jI 4, jI q]) (hp' := hp) rfl ?_
    refine jE_icmp_ge rfl (by omega) (by omega) (fun c15 => ?_) (fun c15 => ?_)
    · have e : q = 4 := by omega
      subst e
      exact k l f y z hs
    · have r1 : 0 ≤ jsq s q 1 ∧ jsq s q 1 ≤ 31 := jsq_r h0 h1 hq0 (by omega)
      have r0 : 0 ≤ jsq s q 0 ∧ jsq s q 0 ≤ 31 := jsq_r h0 h1 hq0 (by omega)
      have b := jlf_c h0 h1 hq0 (show q < 4 by omega)
      have bl := jlf_r h0 h1 hq0 (show q < 4 by omega)
      have br : 0 ≤ l ∧ l ≤ 6 := by have := jasks_r h0 h1 q.toNat (by omega); rw [← hs] at this; exact ⟨this.1, this.2.1⟩
      refine jm_Ev.bl 1 (pc' := 19) (A' := [jI s, jI l, jI f, jI q, y, z]) (st' := [jI q]) (hp' := hp) rfl ?_
      refine jE_callI (vs := [jI q]) (r := []) (nx := 22) (v := jI (jtab q)) (hp1 := hp) rfl (c_s_are hp _ (by omega) (by omega)) ?_
      refine jm_Ev.bl 4 (pc' := 28) (A' := [jI s, jI l, jI f, jI q, jI (jtab q), z]) (st' := [jI ((Int32.ofInt s &&& Int32.ofInt (jtab q)).toInt)]) (hp' := hp) rfl ?_
      refine jE_callI (vs := [jI ((Int32.ofInt s &&& Int32.ofInt (jtab q)).toInt)]) (r := []) (nx := 31) (v := jI (jbc (jsq s q 1))) (hp1 := hp) rfl (c_bitCount hp _ r1.1 r1.2) ?_
      refine jm_Ev.bl 5 (pc' := 37) (A' := [jI s, jI l, jI f, jI q, jI (jtab q), z]) (st' := [jI ((Int32.ofInt s &&& Int32.ofInt ((Int32.ofInt (jtab q) ^^^ Int32.ofInt (-1)).toInt)).toInt), jI (jbc (jsq s q 1))]) (hp' := hp) rfl ?_
      refine jE_top (w := jsq s q 0) (jnotq h0 h1 hq0 (by omega)) ?_
      refine jE_callI (vs := [jI (jsq s q 0)]) (r := [jI (jbc (jsq s q 1))]) (nx := 40) (v := jI (jbc (jsq s q 0))) (hp1 := hp) rfl (c_bitCount hp _ r0.1 r0.2) ?_
      refine jE_max (nx := 43) rfl (by omega) (by omega) ?_
      refine jE_top (w := jlf s q) (by rw [b.2.2.2]; rfl) ?_
      refine jm_Ev.bl 3 (pc' := 48) (A' := [jI s, jI l, jI f, jI q, jI (jtab q), jI (jlf s q)]) (st' := [jI l, jI (jlf s q)]) (hp' := hp) rfl ?_
      refine jE_icmp_ge rfl (by omega) (by omega) (fun c48 => ?_) (fun c48 => ?_)
      · refine jm_Ev.bl 2 (pc' := 13) (A' := [jI s, jI l, jI f, jI (q + 1), jI (jtab q), jI (jlf s q)]) (st' := []) (hp' := hp) rfl ?_
        exact ih (q + 1) l f (jI (jtab q)) (jI (jlf s q)) (by omega) (by omega) (by rw [jasks_s hq0, if_neg (by rw [← hs]; exact Int.not_lt.mpr c48), hs]) (by omega)
      · refine jm_Ev.bl 6 (pc' := 13) (A' := [jI s, jI (jlf s q), jI q, jI (q + 1), jI (jtab q), jI (jlf s q)]) (st' := []) (hp' := hp) rfl ?_
        exact ih (q + 1) (jlf s q) q (jI (jtab q)) (jI (jlf s q)) (by omega) (by omega) (by rw [jasks_s hq0, if_pos (by rw [← hs]; exact c48)]) (by omega)
theorem c_s_next (hp : jm_H) (s : Int) (h0 : 0 ≤ s) (h1 : s ≤ 31) : jm_Ev 91 0 [jI s, jU, jU, jU, jU, jU] [] hp (jK (some (jI (jask s))) hp) := by
  refine jm_Ev.bl 1 (pc' := 1) (A' := [jI s, jU, jU, jU, jU, jU]) (st' := [jI s]) (hp' := hp) rfl ?_
  refine jE_if_ne rfl (by omega) (fun c1 => ?_) (fun c1 => ?_)
  · refine jm_Ev.bl 6 (pc' := 13) (A' := [jI s, jI 6, jI (-1), jI 0, jU, jU]) (st' := []) (hp' := hp) rfl ?_
    exact c_s_next_L hp s h0 h1 (fun l f y z e => jE_b1 rfl (jE_ret rfl ⟨jrI (by unfold jask; rw [if_neg c1, ← e]), rfl⟩)) 5 0 _ _ _ _ (by omega) (by omega) rfl (by omega)
  · refine jm_Ev.bl 1 (pc' := 5) (A' := [jI s, jU, jU, jU, jU, jU]) (st' := [jI (-1)]) (hp' := hp) rfl ?_
    exact jE_ret rfl ⟨jrI (by unfold jask; rw [if_pos c1]), rfl⟩
/-- a racks' sizes -/
def jRk (hp : jm_H) : Prop := ∀ j, 0 ≤ j → j < 5 → 0 ≤ hp 19 j ∧ hp 19 j ≤ 3
theorem c_isKind (hp : jm_H) (a : Int) (ha : jR32 a) : jm_Ev 127 0 [jI a] [] hp (jK (some (jI (jb (decide (0 ≤ a ∧ a < 5))))) hp) := by
  refine jm_Ev.bl 1 (pc' := 1) (A' := [jI a]) (st' := [jI a]) (hp' := hp) rfl ?_
  refine jE_if_lt rfl (by omega) (fun c1 => ?_) (fun c1 => ?_)
  · refine jm_Ev.bl 1 (pc' := 14) (A' := [jI a]) (st' := [jI 0]) (hp' := hp) rfl ?_
    exact jE_ret rfl ⟨jr0 (by omega), rfl⟩
  · refine jm_Ev.bl 2 (pc' := 6) (A' := [jI a]) (st' := [jI 5, jI a]) (hp' := hp) rfl ?_
    refine jE_icmp_ge rfl (by omega) (by omega) (fun c6 => ?_) (fun c6 => ?_)
    · refine jm_Ev.bl 1 (pc' := 14) (A' := [jI a]) (st' := [jI 0]) (hp' := hp) rfl ?_
      exact jE_ret rfl ⟨jr0 (by omega), rfl⟩
    · refine jm_Ev.bl 2 (pc' := 14) (A' := [jI a]) (st' := [jI 1]) (hp' := hp) rfl ?_
      exact jE_ret rfl ⟨jr1 (by omega), rfl⟩
abbrev jals (a b : Int) : Prop := b = 0 ∨ a = b ∨ (a = 2 ∧ b = 1)
theorem c_isAlso (hp : jm_H) (a b : Int) (ha : jR32 a) (hb : jR32 b) : jm_Ev 128 0 [jI a, jI b] [] hp (jK (some (jI (jb (decide (jals a b))))) hp) := by
  refine jm_Ev.bl 1 (pc' := 1) (A' := [jI a, jI b]) (st' := [jI b]) (hp' := hp) rfl ?_
  refine jE_if_eq rfl (by omega) (fun c1 => ?_) (fun c1 => ?_)
  · refine jm_Ev.bl 2 (pc' := 24) (A' := [jI a, jI b]) (st' := [jI 1]) (hp' := hp) rfl ?_
    exact jE_ret rfl ⟨jr1 (by omega), rfl⟩
  · refine jm_Ev.bl 2 (pc' := 6) (A' := [jI a, jI b]) (st' := [jI b, jI a]) (hp' := hp) rfl ?_
    refine jE_icmp_eq rfl (by omega) (by omega) (fun c6 => ?_) (fun c6 => ?_)
    · refine jm_Ev.bl 2 (pc' := 24) (A' := [jI a, jI b]) (st' := [jI 1]) (hp' := hp) rfl ?_
      exact jE_ret rfl ⟨jr1 (by omega), rfl⟩
    · refine jm_Ev.bl 2 (pc' := 11) (A' := [jI a, jI b]) (st' := [jI 2, jI a]) (hp' := hp) rfl ?_
      refine jE_icmp_ne rfl (by omega) (by omega) (fun c11 => ?_) (fun c11 => ?_)
      · refine jm_Ev.bl 1 (pc' := 24) (A' := [jI a, jI b]) (st' := [jI 0]) (hp' := hp) rfl ?_
        exact jE_ret rfl ⟨jr0 (by omega), rfl⟩
      · refine jm_Ev.bl 2 (pc' := 16) (A' := [jI a, jI b]) (st' := [jI 1, jI b]) (hp' := hp) rfl ?_
        refine jE_icmp_ne rfl (by omega) (by omega) (fun c16 => ?_) (fun c16 => ?_)
        · refine jm_Ev.bl 1 (pc' := 24) (A' := [jI a, jI b]) (st' := [jI 0]) (hp' := hp) rfl ?_
          exact jE_ret rfl ⟨jr0 (by omega), rfl⟩
        · refine jm_Ev.bl 2 (pc' := 24) (A' := [jI a, jI b]) (st' := [jI 1]) (hp' := hp) rfl ?_
          exact jE_ret rfl ⟨jr1 (by omega), rfl⟩
theorem c_r_isFull (hp : jm_H) (hR : jRk hp) (a : Int) (ha : jR32 a) : jm_Ev 84 0 [jR 17, jI a] [] hp (jK (some (jI (jb (decide (¬ (0 ≤ a ∧ a < 5) ∨ 3 ≤ hp 19 a))))) hp) := by
  refine jm_Ev.bl 1 (pc' := 1) (A' := [jR 17, jI a]) (st' := [jI a]) (hp' := hp) rfl ?_
  refine jE_callI (vs := [jI a]) (r := []) (nx := 4) (v := jI (jb (decide (0 ≤ a ∧ a < 5)))) (hp1 := hp) rfl (c_isKind hp _ (by omega)) ?_
  refine jE_ifd_eq rfl (fun c4 => ?_) (fun c4 => ?_)
  · refine jm_Ev.bl 2 (pc' := 22) (A' := [jR 17, jI a]) (st' := [jI 1]) (hp' := hp) rfl ?_
    exact jE_ret rfl ⟨jr1 (by omega), rfl⟩
  · refine jm_Ev.bl 3 (pc' := 12) (A' := [jR 17, jI a]) (st' := [jI a, jR 19]) (hp' := hp) rfl ?_
    refine jE_iald (n := 5) (f := hp 19) rfl rfl (by omega) ?_
    have hr := hR a (by omega) (by omega)
    refine jm_Ev.bl 1 (pc' := 14) (A' := [jR 17, jI a]) (st' := [jI 3, jI (hp 19 a)]) (hp' := hp) rfl ?_
    refine jE_icmp_lt rfl (by omega) (by omega) (fun c14 => ?_) (fun c14 => ?_)
    · refine jm_Ev.bl 1 (pc' := 22) (A' := [jR 17, jI a]) (st' := [jI 0]) (hp' := hp) rfl ?_
      exact jE_ret rfl ⟨jr0 (by omega), rfl⟩
    · refine jm_Ev.bl 2 (pc' := 22) (A' := [jR 17, jI a]) (st' := [jI 1]) (hp' := hp) rfl ?_
      exact jE_ret rfl ⟨jr1 (by omega), rfl⟩
theorem c_r_clear (hp : jm_H) : jm_Ev 83 0 [jR 17, jU] [] hp (jK none (jm_hs (jm_hs (jm_hs (jm_hs (jm_hs hp 19 0 0) 19 1 0) 19 2 0) 19 3 0) 19 4 0)) := by
  refine jm_Ev.bl 4 (pc' := 4) (A' := [jR 17, jI 0]) (st' := [jI 5, jI 0]) (hp' := hp) rfl ?_
  refine jE_icmp_ge rfl (by omega) (by omega) (fun c4 => absurd c4 (by omega)) (fun _ => ?_)
  refine jm_Ev.bl 4 (pc' := 13) (A' := [jR 17, jI 0]) (st' := [jI 0, jI 0, jR 19]) (hp' := hp) rfl ?_
  refine jE_iast (n := 5) rfl rfl (by omega) ?_
  refine jm_Ev.bl 4 (pc' := 4) (A' := [jR 17, jI 1]) (st' := [jI 5, jI 1]) (hp' := (jm_hs hp 19 0 0)) rfl ?_
  refine jE_icmp_ge rfl (by omega) (by omega) (fun c4 => absurd c4 (by omega)) (fun _ => ?_)
  refine jm_Ev.bl 4 (pc' := 13) (A' := [jR 17, jI 1]) (st' := [jI 0, jI 1, jR 19]) (hp' := (jm_hs hp 19 0 0)) rfl ?_
  refine jE_iast (n := 5) rfl rfl (by omega) ?_
  refine jm_Ev.bl 4 (pc' := 4) (A' := [jR 17, jI 2]) (st' := [jI 5, jI 2]) (hp' := (jm_hs (jm_hs hp 19 0 0) 19 1 0)) rfl ?_
  refine jE_icmp_ge rfl (by omega) (by omega) (fun c4 => absurd c4 (by omega)) (fun _ => ?_)
  refine jm_Ev.bl 4 (pc' := 13) (A' := [jR 17, jI 2]) (st' := [jI 0, jI 2, jR 19]) (hp' := (jm_hs (jm_hs hp 19 0 0) 19 1 0)) rfl ?_
  refine jE_iast (n := 5) rfl rfl (by omega) ?_
  refine jm_Ev.bl 4 (pc' := 4) (A' := [jR 17, jI 3]) (st' := [jI 5, jI 3]) (hp' := (jm_hs (jm_hs (jm_hs hp 19 0 0) 19 1 0) 19 2 0)) rfl ?_
  refine jE_icmp_ge rfl (by omega) (by omega) (fun c4 => absurd c4 (by omega)) (fun _ => ?_)
  refine jm_Ev.bl 4 (pc' := 13) (A' := [jR 17, jI 3]) (st' := [jI 0, jI 3, jR 19]) (hp' := (jm_hs (jm_hs (jm_hs hp 19 0 0) 19 1 0) 19 2 0)) rfl ?_
  refine jE_iast (n := 5) rfl rfl (by omega) ?_
  refine jm_Ev.bl 4 (pc' := 4) (A' := [jR 17, jI 4]) (st' := [jI 5, jI 4]) (hp' := (jm_hs (jm_hs (jm_hs (jm_hs hp 19 0 0) 19 1 0) 19 2 0) 19 3 0)) rfl ?_
  refine jE_icmp_ge rfl (by omega) (by omega) (fun c4 => absurd c4 (by omega)) (fun _ => ?_)
  refine jm_Ev.bl 4 (pc' := 13) (A' := [jR 17, jI 4]) (st' := [jI 0, jI 4, jR 19]) (hp' := (jm_hs (jm_hs (jm_hs (jm_hs hp 19 0 0) 19 1 0) 19 2 0) 19 3 0)) rfl ?_
  refine jE_iast (n := 5) rfl rfl (by omega) ?_
  refine jm_Ev.bl 4 (pc' := 4) (A' := [jR 17, jI 5]) (st' := [jI 5, jI 5]) (hp' := (jm_hs (jm_hs (jm_hs (jm_hs (jm_hs hp 19 0 0) 19 1 0) 19 2 0) 19 3 0) 19 4 0)) rfl ?_
  refine jE_icmp_ge rfl (by omega) (by omega) (fun _ => ?_) (fun c4 => absurd c4 (by omega))
  exact jE_ret rfl ⟨rfl, rfl⟩
theorem c_r_placeAt (hp : jm_H) (hR : jRk hp) (a b : Int) (ha : jR32 a) (hb : jR32 b) : jm_Ev 86 0 [jR 17, jI a, jI b] [] hp (jK (some (jI (if 0 ≤ a ∧ a < 5 ∧ 0 ≤ b ∧ b < 3 ∧ b < hp 19 a then hp 18 (a * 3 + b) else -1))) hp) := by
  refine jm_Ev.bl 1 (pc' := 1) (A' := [jR 17, jI a, jI b]) (st' := [jI a]) (hp' := hp) rfl ?_
  refine jE_callI (vs := [jI a]) (r := []) (nx := 4) (v := jI (jb (decide (0 ≤ a ∧ a < 5)))) (hp1 := hp) rfl (c_isKind hp _ (by omega)) ?_
  refine jE_ifd_eq rfl (fun c4 => ?_) (fun c4 => ?_)
  · refine jm_Ev.bl 1 (pc' := 27) (A' := [jR 17, jI a, jI b]) (st' := [jI (-1)]) (hp' := hp) rfl ?_
    exact jE_ret rfl ⟨jrI (by first | rw [if_pos (by omega)] | rw [if_neg (by omega)]), rfl⟩
  · refine jm_Ev.bl 1 (pc' := 8) (A' := [jR 17, jI a, jI b]) (st' := [jI b]) (hp' := hp) rfl ?_
    refine jE_if_lt rfl (by omega) (fun c8 => ?_) (fun c8 => ?_)
    · refine jm_Ev.bl 1 (pc' := 27) (A' := [jR 17, jI a, jI b]) (st' := [jI (-1)]) (hp' := hp) rfl ?_
      exact jE_ret rfl ⟨jrI (by first | rw [if_pos (by omega)] | rw [if_neg (by omega)]), rfl⟩
    · refine jm_Ev.bl 2 (pc' := 13) (A' := [jR 17, jI a, jI b]) (st' := [jI 3, jI b]) (hp' := hp) rfl ?_
      refine jE_icmp_ge rfl (by omega) (by omega) (fun c13 => ?_) (fun c13 => ?_)
      · refine jm_Ev.bl 1 (pc' := 27) (A' := [jR 17, jI a, jI b]) (st' := [jI (-1)]) (hp' := hp) rfl ?_
        exact jE_ret rfl ⟨jrI (by first | rw [if_pos (by omega)] | rw [if_neg (by omega)]), rfl⟩
      · refine jm_Ev.bl 4 (pc' := 22) (A' := [jR 17, jI a, jI b]) (st' := [jI a, jR 19, jI b]) (hp' := hp) rfl ?_
        refine jE_iald (n := 5) (f := hp 19) rfl rfl (by omega) ?_
        have hr := hR a (by omega) (by omega)
        refine jE_icmp_lt rfl (by omega) (by omega) (fun c23 => ?_) (fun c23 => ?_)
        · refine jm_Ev.bl 7 (pc' := 37) (A' := [jR 17, jI a, jI b]) (st' := [jI ((a * 3) + b), jR 18]) (hp' := hp) rfl ?_
          refine jE_iald (n := 15) (f := hp 18) rfl rfl (by omega) ?_
          exact jE_ret rfl ⟨jrI (by first | rw [if_pos (by omega)] | rw [if_neg (by omega)]), rfl⟩
        · refine jm_Ev.bl 1 (pc' := 27) (A' := [jR 17, jI a, jI b]) (st' := [jI (-1)]) (hp' := hp) rfl ?_
          exact jE_ret rfl ⟨jrI (by first | rw [if_pos (by omega)] | rw [if_neg (by omega)]), rfl⟩
theorem c_r_add (hp : jm_H) (hR : jRk hp) (a b : Int) (h0 : 0 ≤ a) (h1 : a < 5) (h2 : hp 19 a < 3) : jm_Ev 85 0 [jR 17, jI a, jI b] [] hp (jK (some (jI (hp 19 a + 1))) (jm_hs (jm_hs hp 18 (a * 3 + hp 19 a) b) 19 a (hp 19 a + 1))) := by
  have hr := hR a h0 h1
  refine jm_Ev.bl 2 (pc' := 2) (A' := [jR 17, jI a, jI b]) (st' := [jI a, jR 17]) (hp' := hp) rfl ?_
  refine jE_callI (vs := [jR 17, jI a]) (r := []) (nx := 5) (v := jI (jb (decide (¬ (0 ≤ a ∧ a < 5) ∨ 3 ≤ hp 19 a)))) (hp1 := hp) rfl (c_r_isFull hp hR a (by omega)) ?_
  refine jE_ifd_ne rfl (fun c5 => ?_) (fun c5 => ?_)
  · exfalso; omega
  · refine jm_Ev.bl 3 (pc' := 13) (A' := [jR 17, jI a, jI b]) (st' := [jI a, jR 19]) (hp' := hp) rfl ?_
    refine jE_iald (n := 5) (f := hp 19) rfl rfl (by omega) ?_
    refine jE_if_ge rfl (by omega) (fun c14 => ?_) (fun c14 => ?_)
    · refine jm_Ev.bl 8 (pc' := 32) (A' := [jR 17, jI a, jI b]) (st' := [jI a, jR 19, jI (a * 3), jR 18]) (hp' := hp) rfl ?_
      refine jE_iald (n := 5) (f := hp 19) rfl rfl (by omega) ?_
      refine jm_Ev.bl 2 (pc' := 35) (A' := [jR 17, jI a, jI b]) (st' := [jI b, jI ((a * 3) + (hp 19 a)), jR 18]) (hp' := hp) rfl ?_
      refine jE_iast (n := 15) rfl rfl (by omega) ?_
      refine jm_Ev.bl 4 (pc' := 42) (A' := [jR 17, jI a, jI b]) (st' := [jI a, jR 19, jI a, jR 19]) (hp' := (jm_hs hp 18 ((a * 3) + (hp 19 a)) b)) rfl ?_
      refine jE_iald (n := 5) (f := hp 19) rfl rfl (by omega) ?_
      refine jm_Ev.bl 2 (pc' := 45) (A' := [jR 17, jI a, jI b]) (st' := [jI ((hp 19 a) + 1), jI a, jR 19]) (hp' := (jm_hs hp 18 ((a * 3) + (hp 19 a)) b)) rfl ?_
      refine jE_iast (n := 5) rfl rfl (by omega) ?_
      refine jm_Ev.bl 3 (pc' := 51) (A' := [jR 17, jI a, jI b]) (st' := [jI a, jR 19]) (hp' := (jm_hs (jm_hs hp 18 ((a * 3) + (hp 19 a)) b) 19 a ((hp 19 a) + 1))) rfl ?_
      refine jE_iald (n := 5) (f := (jm_hs (jm_hs hp 18 ((a * 3) + (hp 19 a)) b) 19 a ((hp 19 a) + 1)) 19) rfl rfl (by omega) ?_
      exact jE_ret rfl ⟨jrI (by rw [js_hs_eq, if_pos rfl]), rfl⟩
    · exfalso; omega
theorem c_r_total (hp : jm_H) : jm_Ev 87 0 [jR 17, jU, jU] [] hp (jK (some (jI (hp 19 0 + hp 19 1 + hp 19 2 + hp 19 3 + hp 19 4))) hp) := by
  refine jm_Ev.bl 6 (pc' := 6) (A' := [jR 17, jI 0, jI 0]) (st' := [jI 5, jI 0]) (hp' := hp) rfl ?_
  refine jE_icmp_ge rfl (by omega) (by omega) (fun c6 => absurd c6 (by omega)) (fun _ => ?_)
  refine jm_Ev.bl 4 (pc' := 15) (A' := [jR 17, jI 0, jI 0]) (st' := [jI 0, jR 19, jI 0]) (hp' := hp) rfl ?_
  refine jE_iald (n := 5) (f := hp 19) rfl rfl (by omega) ?_
  refine jm_Ev.bl 6 (pc' := 6) (A' := [jR 17, jI (0 + (hp 19 0)), jI 1]) (st' := [jI 5, jI 1]) (hp' := hp) rfl ?_
  refine jE_icmp_ge rfl (by omega) (by omega) (fun c6 => absurd c6 (by omega)) (fun _ => ?_)
  refine jm_Ev.bl 4 (pc' := 15) (A' := [jR 17, jI (0 + (hp 19 0)), jI 1]) (st' := [jI 1, jR 19, jI (0 + (hp 19 0))]) (hp' := hp) rfl ?_
  refine jE_iald (n := 5) (f := hp 19) rfl rfl (by omega) ?_
  refine jm_Ev.bl 6 (pc' := 6) (A' := [jR 17, jI ((0 + (hp 19 0)) + (hp 19 1)), jI 2]) (st' := [jI 5, jI 2]) (hp' := hp) rfl ?_
  refine jE_icmp_ge rfl (by omega) (by omega) (fun c6 => absurd c6 (by omega)) (fun _ => ?_)
  refine jm_Ev.bl 4 (pc' := 15) (A' := [jR 17, jI ((0 + (hp 19 0)) + (hp 19 1)), jI 2]) (st' := [jI 2, jR 19, jI ((0 + (hp 19 0)) + (hp 19 1))]) (hp' := hp) rfl ?_
  refine jE_iald (n := 5) (f := hp 19) rfl rfl (by omega) ?_
  refine jm_Ev.bl 6 (pc' := 6) (A' := [jR 17, jI (((0 + (hp 19 0)) + (hp 19 1)) + (hp 19 2)), jI 3]) (st' := [jI 5, jI 3]) (hp' := hp) rfl ?_
  refine jE_icmp_ge rfl (by omega) (by omega) (fun c6 => absurd c6 (by omega)) (fun _ => ?_)
  refine jm_Ev.bl 4 (pc' := 15) (A' := [jR 17, jI (((0 + (hp 19 0)) + (hp 19 1)) + (hp 19 2)), jI 3]) (st' := [jI 3, jR 19, jI (((0 + (hp 19 0)) + (hp 19 1)) + (hp 19 2))]) (hp' := hp) rfl ?_
  refine jE_iald (n := 5) (f := hp 19) rfl rfl (by omega) ?_
  refine jm_Ev.bl 6 (pc' := 6) (A' := [jR 17, jI ((((0 + (hp 19 0)) + (hp 19 1)) + (hp 19 2)) + (hp 19 3)), jI 4]) (st' := [jI 5, jI 4]) (hp' := hp) rfl ?_
  refine jE_icmp_ge rfl (by omega) (by omega) (fun c6 => absurd c6 (by omega)) (fun _ => ?_)
  refine jm_Ev.bl 4 (pc' := 15) (A' := [jR 17, jI ((((0 + (hp 19 0)) + (hp 19 1)) + (hp 19 2)) + (hp 19 3)), jI 4]) (st' := [jI 4, jR 19, jI ((((0 + (hp 19 0)) + (hp 19 1)) + (hp 19 2)) + (hp 19 3))]) (hp' := hp) rfl ?_
  refine jE_iald (n := 5) (f := hp 19) rfl rfl (by omega) ?_
  refine jm_Ev.bl 6 (pc' := 6) (A' := [jR 17, jI (((((0 + (hp 19 0)) + (hp 19 1)) + (hp 19 2)) + (hp 19 3)) + (hp 19 4)), jI 5]) (st' := [jI 5, jI 5]) (hp' := hp) rfl ?_
  refine jE_icmp_ge rfl (by omega) (by omega) (fun _ => ?_) (fun c6 => absurd c6 (by omega))
  refine jm_Ev.bl 1 (pc' := 25) (A' := [jR 17, jI (((((0 + (hp 19 0)) + (hp 19 1)) + (hp 19 2)) + (hp 19 3)) + (hp 19 4)), jI 5]) (st' := [jI (((((0 + (hp 19 0)) + (hp 19 1)) + (hp 19 2)) + (hp 19 3)) + (hp 19 4))]) (hp' := hp) rfl ?_
  exact jE_ret rfl ⟨jrI (by omega), rfl⟩
