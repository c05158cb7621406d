/-! rows for floats -/
theorem jE_f2 {x pc nx tg : Nat} {A r : List jm_V} {hp : jm_H} {Q : Option jm_V → jm_H → Prop} {a b z : Nat} {i : Instr} (hf : jm_fe x pc = some (i, nx, tg)) (hi : jm_in x (jm_me x).1 (jm_me x).2.2.2.2.1 pc i nx tg A (jF b :: jF a :: r) hp = (match jm_f2 i a b with | some z => some (.inl (nx, A, jF z :: r, hp)) | none => none)) (hz : jm_f2 i a b = some z) (k : jm_Ev x nx A (jF z :: r) hp Q) : jm_Ev x pc A (jF b :: jF a :: r) hp Q := by
  refine jE_in hf ?_ k
  rw [hi, hz]
/-- two floats compared, by whole numbers in their stead -/
theorem jE_fcmp {x pc nx tg : Nat} {A r : List jm_V} {hp : jm_H} {Q : Option jm_V → jm_H → Prop} {a b : Nat} {u v : Int} {op : ClassFile.CmpOp} (hf : jm_fe x pc = some (.fcmp op, nx, tg)) (he : (Op.cmpValue (FP.fcmp (UInt32.ofNat a) (UInt32.ofNat b)) op).toInt = jm_lc u v) (k : jm_Ev x nx A (jI (jm_lc u v) :: r) hp Q) : jm_Ev x pc A (jF b :: jF a :: r) hp Q := by
  refine jE_in (i := .fcmp op) hf rfl ?_
  rw [he]
  exact k
