/-! the machine of these rows: ints and longs are any representative of their class modulo 2^32, 2^64; floats are their bits; references are places -/
def jm_w32 (z : Int) : Int := (Int32.ofInt z).toInt
def jm_w64 (z : Int) : Int := (Int64.ofInt z).toInt
def jm_hs (hp : jm_H) (k : Nat) (j v : Int) : jm_H := fun a => bif Nat.beq a k then (fun b => bif decide (b = j) then v else hp k b) else hp a
/-- the length and the contents of an array that holds elements of a tag -/
def jm_ar (hp : jm_H) (k t : Nat) : Option (Int × (Int → Int)) :=
  match jm_sh k with
  | .inl _ => none
  | .inr (u, n) =>
    bif Nat.beq u t then some (n, hp k)
    else bif Nat.beq t 0 && Nat.beq u 10 then some (n, jm_SC k)
    else bif Nat.beq t 0 && Nat.beq u 11 then some (hp 85 0, hp 82)
    else bif Nat.beq t 4 && Nat.beq u 14 then some (n, jm_SC k)
    else none
/-- the length of any array -/
def jm_le (hp : jm_H) (k : Nat) : Option Int :=
  match jm_sh k with
  | .inl _ => none
  | .inr (u, n) => bif Nat.beq u 11 then some (hp 85 0) else bif Nat.blt u 50 then some n else none
def jm_cl (A : List jm_V) (k : Nat) : List jm_V :=
  match k with
  | 0 => A
  | k + 1 => match A[k]? with
    | some (.inr (.inl _)) => A.set k jU
    | _ => A
def jm_so (A : List jm_V) (k : Nat) (v : jm_V) : Option (List jm_V) := bif Nat.blt k A.length then some ((jm_cl A k).set k v) else none
def jm_so2 (A : List jm_V) (k : Nat) (v : jm_V) : Option (List jm_V) := bif Nat.blt (k + 1) A.length then some (((jm_cl A k).set k v).set (k + 1) jU) else none
def jm_cmp (c : ClassFile.Cond) (a b : Int) : Bool :=
  match c with
  | .eq => decide (a = b)
  | .ne => decide (a ≠ b)
  | .lt => decide (a < b)
  | .ge => decide (b ≤ a)
  | .gt => decide (b < a)
  | .le => decide (a ≤ b)
def jm_lc (a b : Int) : Int := if a < b then -1 else if a = b then 0 else 1
abbrev jm_C : Type := Nat × List jm_V × List jm_V × jm_H
abbrev jm_O : Type := jm_C ⊕ Option jm_V ⊕ (Nat × List jm_V × List jm_V × Nat)
def jm_cat (v : jm_V) : Nat :=
  match v with
  | .inr (.inl _) => 2
  | _ => 1
def jm_lay (vs : List jm_V) : List jm_V := vs.flatMap (fun v => match v with
  | .inr (.inl z) => [jL z, jU]
  | v => [v])
def jm_en (y : Nat) (vs : List jm_V) : List jm_V := jm_lay vs ++ List.replicate ((jm_me y).2.2.2.1 - (jm_lay vs).length) jU
def jm_ps (rv : Option jm_V) (st : List jm_V) : List jm_V :=
  match rv with
  | none => st
  | some v => v :: st
/-- may x call y: frames and words -/
def jm_ro (x y : Nat) : Bool := Nat.ble ((jm_me y).2.2.2.2.2.1 + 1) (jm_me x).2.2.2.2.2.1 && Nat.ble (8 + ((jm_me y).2.2.2.1 + 11) + (jm_me y).2.2.2.2.2.2) (jm_me x).2.2.2.2.2.2
def jm_call (x y : Nat) (st : List jm_V) (nx : Nat) : Option jm_O :=
  bif Nat.ble (jm_me y).2.1 st.length && jm_ro x y && Nat.ble ((st.drop (jm_me y).2.1).map jm_cat).sum 8 && Nat.ble (jm_lay (st.take (jm_me y).2.1).reverse).length (jm_me y).2.2.2.1
  then some (.inr (.inr (y, (st.take (jm_me y).2.1).reverse, st.drop (jm_me y).2.1, nx))) else none
/-- is the receiver an object of y's class -/
def jm_rc (y : Nat) (st : List jm_V) : Bool :=
  match st[(jm_me y).2.1 - 1]? with
  | some (.inr (.inr (.inr (.inl k)))) => match jm_sh k with
    | .inl (c, _) => Nat.beq c (jm_me y).1
    | .inr _ => false
  | _ => false
def jm_i2 (i : Instr) (a b : Int) : Option Int :=
  match i with
  | .iadd => some (a + b)
  | .isub => some (a - b)
  | .imul => some (a * b)
  | .iand => some (Int32.ofInt a &&& Int32.ofInt b).toInt
  | .ior => some (Int32.ofInt a ||| Int32.ofInt b).toInt
  | .ixor => some (Int32.ofInt a ^^^ Int32.ofInt b).toInt
  | .ishl => some (Int32.ofInt a <<< (Int32.ofInt b &&& 31)).toInt
  | .ishr => some (Int32.ofInt a >>> (Int32.ofInt b &&& 31)).toInt
  | .iushr => some ((Int32.ofInt a).toUInt32 >>> ((Int32.ofInt b).toUInt32 &&& Int32.toUInt32 31)).toInt32.toInt
  | .idiv => bif decide (jm_w32 b = 0) then none else some (Int32.ofInt a / Int32.ofInt b).toInt
  | .irem => bif decide (jm_w32 b = 0) then none else some (Int32.ofInt a - Int32.ofInt a / Int32.ofInt b * Int32.ofInt b).toInt
  | _ => none
def jm_l2 (i : Instr) (a b : Int) : Option Int :=
  match i with
  | .ladd => some (a + b)
  | .lsub => some (a - b)
  | .lmul => some (a * b)
  | .land => some (Int64.ofInt a &&& Int64.ofInt b).toInt
  | .lor => some (Int64.ofInt a ||| Int64.ofInt b).toInt
  | .ldiv => bif decide (jm_w64 b = 0) then none else some (Int64.ofInt a / Int64.ofInt b).toInt
  | .lrem => bif decide (jm_w64 b = 0) then none else some (Int64.ofInt a - Int64.ofInt a / Int64.ofInt b * Int64.ofInt b).toInt
  | _ => none
def jm_f2 (i : Instr) (a b : Nat) : Option Nat :=
  match i with
  | .fadd => bif decide ((FP.fadd (UInt32.ofNat a) (UInt32.ofNat b)) &&& 0x7fffffff ≤ 0x7f800000) then some (FP.fadd (UInt32.ofNat a) (UInt32.ofNat b)).toNat else none
  | .fsub => bif decide ((FP.fsub (UInt32.ofNat a) (UInt32.ofNat b)) &&& 0x7fffffff ≤ 0x7f800000) then some (FP.fsub (UInt32.ofNat a) (UInt32.ofNat b)).toNat else none
  | .fmul => bif decide ((FP.fmul (UInt32.ofNat a) (UInt32.ofNat b)) &&& 0x7fffffff ≤ 0x7f800000) then some (FP.fmul (UInt32.ofNat a) (UInt32.ofNat b)).toNat else none
  | .fdiv => bif decide ((FP.fdiv (UInt32.ofNat a) (UInt32.ofNat b)) &&& 0x7fffffff ≤ 0x7f800000) then some (FP.fdiv (UInt32.ofNat a) (UInt32.ofNat b)).toNat else none
  | _ => none
/-- a load of a local -/
def jm_ld (t : Nat) (A : List jm_V) (k : Nat) (nx : Nat) (st : List jm_V) (hp : jm_H) : Option jm_O :=
  match A[k]? with
  | some (.inl z) => bif Nat.beq t 0 then some (.inl (nx, A, jI z :: st, hp)) else none
  | some (.inr (.inl z)) => bif Nat.beq t 1 then some (.inl (nx, A, jL z :: st, hp)) else none
  | some (.inr (.inr (.inl b))) => bif Nat.beq t 2 then some (.inl (nx, A, jF b :: st, hp)) else none
  | some (.inr (.inr (.inr (.inl r)))) => bif Nat.beq t 3 then some (.inl (nx, A, jR r :: st, hp)) else none
  | _ => none
/-- a store to a local -/
def jm_sv (t : Nat) (A : List jm_V) (k : Nat) (nx : Nat) (st : List jm_V) (hp : jm_H) : Option jm_O :=
  match st with
  | .inl z :: r => bif Nat.beq t 0 then (match jm_so A k (jI z) with
    | some B => some (.inl (nx, B, r, hp))
    | none => none) else none
  | .inr (.inl z) :: r => bif Nat.beq t 1 then (match jm_so2 A k (jL z) with
    | some B => some (.inl (nx, B, r, hp))
    | none => none) else none
  | .inr (.inr (.inl z)) :: r => bif Nat.beq t 2 then (match jm_so A k (jF z) with
    | some B => some (.inl (nx, B, r, hp))
    | none => none) else none
  | _ => none
def jm_getf (f : Option (Nat × Nat)) (nx : Nat) (A st : List jm_V) (hp : jm_H) : Option jm_O :=
  match f with
  | none => none
  | some (ci, j) => match st with
    | .inr (.inr (.inr (.inl k))) :: r => match jm_sh k with
      | .inl (c, fs) => bif Nat.beq c ci then (match fs[j]? with
        | some (.inr q) => some (.inl (nx, A, jR q :: r, hp))
        | some (.inl t) => bif Nat.beq t 1 then some (.inl (nx, A, jL (hp k j) :: r, hp)) else bif Nat.beq t 10 then some (.inl (nx, A, jI 0 :: r, hp)) else some (.inl (nx, A, jI (hp k j) :: r, hp))
        | none => none) else none
      | .inr _ => none
    | _ => none
def jm_putf (f : Option (Nat × Nat)) (nx : Nat) (A st : List jm_V) (hp : jm_H) : Option jm_O :=
  match f with
  | none => none
  | some (ci, j) => match st with
    | v :: .inr (.inr (.inr (.inl k))) :: r => match jm_sh k with
      | .inl (c, fs) => bif Nat.beq c ci then (match fs[j]? with
        | some (.inl t) => (match v with
          | .inl z => bif Nat.beq t 0 || (Nat.beq t 3 && (decide (z = 0) || decide (z = 1))) then some (.inl (nx, A, r, jm_hs hp k j z)) else none
          | .inr (.inl z) => bif Nat.beq t 1 then some (.inl (nx, A, r, jm_hs hp k j z)) else none
          | _ => none)
        | _ => none) else none
      | .inr _ => none
    | _ => none
/-- an array's element is read: tag of the elements, what is made of it -/
def jm_ald (t : Nat) (mk : Int → jm_V) (nx : Nat) (A st : List jm_V) (hp : jm_H) : Option jm_O :=
  match st with
  | .inl i :: .inr (.inr (.inr (.inl k))) :: r => match jm_ar hp k t with
    | some (n, f) => bif decide (0 ≤ jm_w32 i ∧ jm_w32 i < n) then some (.inl (nx, A, mk (f (jm_w32 i)) :: r, hp)) else none
    | none => none
  | _ => none
/-- an array's element is written -/
def jm_ast (t : Nat) (ok : jm_V → Option Int) (nx : Nat) (A st : List jm_V) (hp : jm_H) : Option jm_O :=
  match st with
  | v :: .inl i :: .inr (.inr (.inr (.inl k))) :: r => match jm_sh k, ok v with
    | .inr (u, n), some z => bif Nat.beq u t && decide (0 ≤ jm_w32 i ∧ jm_w32 i < n) then some (.inl (nx, A, r, jm_hs hp k (jm_w32 i) z)) else none
    | _, _ => none
  | _ => none
def jm_okI (v : jm_V) : Option Int := match v with
  | .inl z => some z
  | _ => none
def jm_okZ (v : jm_V) : Option Int := match v with
  | .inl z => bif decide (z = 0) || decide (z = 1) then some z else none
  | _ => none
def jm_okL (v : jm_V) : Option Int := match v with
  | .inr (.inl z) => some z
  | _ => none
def jm_okF (v : jm_V) : Option Int := match v with
  | .inr (.inr (.inl b)) => some (b : Int)
  | _ => none
def jm_retI (rk : Nat) (st : List jm_V) : Option jm_O :=
  match st with
  | [.inl z] => bif Nat.beq rk 1 || (Nat.beq rk 2 && (decide (z = 0) || decide (z = 1))) || (Nat.beq rk 5 && decide (z = 0)) then some (.inr (.inl (some (jI z)))) else none
  | _ => none
def jm_kV (v : Option jm_V) (nx : Nat) (A st : List jm_V) (hp : jm_H) : Option jm_O := match v with
  | some v => some (.inl (nx, A, v :: st, hp))
  | none => none
def jm_k1 (v : Option jm_V) : Option jm_V := match v with
  | some (.inl z) => some (jI z)
  | some (.inr (.inr (.inl b))) => some (jF b)
  | some (.inr (.inr (.inr (.inl k)))) => some (jR k)
  | _ => none
def jm_k2 (v : Option jm_V) : Option jm_V := match v with
  | some (.inr (.inl z)) => some (jL z)
  | _ => none
def jm_k3 (v : Option jm_V) : Option jm_V := match v with
  | some (.inl z) => some (jI z)
  | some (.inr (.inr (.inl b))) => some (jF b)
  | _ => none
def jm_tsw (dflt lo hi : Int) (offs : Array Int) (pc : Nat) (x : Int) : Option Nat :=
  if x < lo ∨ hi < x then some ((pc : Int) + dflt).toNat else match offs[(x - lo).toNat]? with
    | some o => some ((pc : Int) + o).toNat
    | none => none
/-- Math.abs, max, min, as one step -/
def jm_mth (x y nx : Nat) (A st : List jm_V) (hp : jm_H) : Option jm_O :=
  match st with
  | .inl b :: r => bif Nat.beq y 0 then (bif Nat.ble 1 (jm_me x).2.2.2.2.2.1 && Nat.ble ((r.map jm_cat).sum + 13) (jm_me x).2.2.2.2.2.2 then some (.inl (nx, A, jI (bif decide (0 ≤ jm_w32 b) then b else 0 - b) :: r, hp)) else none)
    else (match r with
      | .inl a :: r => bif Nat.ble 1 (jm_me x).2.2.2.2.2.1 && Nat.ble ((r.map jm_cat).sum + 13) (jm_me x).2.2.2.2.2.2 then (bif Nat.beq y 1 then some (.inl (nx, A, jI (bif decide (jm_w32 a < jm_w32 b) then b else a) :: r, hp)) else bif Nat.beq y 2 then some (.inl (nx, A, jI (bif decide (jm_w32 b < jm_w32 a) then b else a) :: r, hp)) else none) else none
      | _ => none)
  | _ => none
/-- two operands of one kind -/
def jm_ar2 (i : Instr) (nx : Nat) (A st : List jm_V) (hp : jm_H) : Option jm_O :=
  match st with
  | .inl b :: .inl a :: r => match jm_i2 i a b with
    | some z => some (.inl (nx, A, jI z :: r, hp))
    | none => none
  | .inr (.inl b) :: .inr (.inl a) :: r => match jm_l2 i a b with
    | some z => some (.inl (nx, A, jL z :: r, hp))
    | none => none
  | .inr (.inr (.inl b)) :: .inr (.inr (.inl a)) :: r => match jm_f2 i a b with
    | some z => some (.inl (nx, A, jF z :: r, hp))
    | none => none
  | _ => none
/-- one step, x: the method, c: its class -/
def jm_in (x c rk pc : Nat) (i : Instr) (nx tg : Nat) (A st : List jm_V) (hp : jm_H) : Option jm_O :=
  match i with
  | .iconst n => some (.inl (nx, A, jI n :: st, hp))
  | .bipush n => some (.inl (nx, A, jI n :: st, hp))
  | .sipush n => some (.inl (nx, A, jI n :: st, hp))
  | .lconst n => some (.inl (nx, A, jL ((n : Nat) : Int) :: st, hp))
  | .fconst n => some (.inl (nx, A, jF (match (n : Nat) with | 0 => 0 | 1 => 0x3f800000 | _ => 0x40000000) :: st, hp))
  | .iload k => jm_ld 0 A k nx st hp
  | .iload_n k => jm_ld 0 A k nx st hp
  | .lload k => jm_ld 1 A k nx st hp
  | .lload_n k => jm_ld 1 A k nx st hp
  | .fload k => jm_ld 2 A k nx st hp
  | .fload_n k => jm_ld 2 A k nx st hp
  | .aload k => jm_ld 3 A k nx st hp
  | .aload_n k => jm_ld 3 A k nx st hp
  | .istore k => jm_sv 0 A k nx st hp
  | .istore_n k => jm_sv 0 A k nx st hp
  | .lstore k => jm_sv 1 A k nx st hp
  | .lstore_n k => jm_sv 1 A k nx st hp
  | .fstore k => jm_sv 2 A k nx st hp
  | .fstore_n k => jm_sv 2 A k nx st hp
  | .iinc k n => match A[k]? with
    | some (.inl z) => match jm_so A k (jI (z + n)) with
      | some B => some (.inl (nx, B, st, hp))
      | none => none
    | _ => none
  | .goto _ => some (.inl (tg, A, st, hp))
  | .if_icmp cd _ => match st with
    | .inl b :: .inl a :: r => some (.inl (bif jm_cmp cd (jm_w32 a) (jm_w32 b) then tg else nx, A, r, hp))
    | _ => none
  | .ifCond cd _ => match st with
    | .inl a :: r => some (.inl (bif jm_cmp cd (jm_w32 a) 0 then tg else nx, A, r, hp))
    | _ => none
  | .tableswitch d lo hi offs => match st with
    | .inl a :: r => match jm_tsw d lo hi offs pc (jm_w32 a) with
      | some q => some (.inl (q, A, r, hp))
      | none => none
    | _ => none
  | .lookupswitch d ps => match st with
    | .inl a :: r => some (.inl (((pc : Int) + Op.lookupswitch.offset ps.toList d (jm_w32 a)).toNat, A, r, hp))
    | _ => none
  | .lcmp => match st with
    | .inr (.inl b) :: .inr (.inl a) :: r => some (.inl (nx, A, jI (jm_lc (jm_w64 a) (jm_w64 b)) :: r, hp))
    | _ => none
  | .fcmp op => match st with
    | .inr (.inr (.inl b)) :: .inr (.inr (.inl a)) :: r => some (.inl (nx, A, jI (Op.cmpValue (FP.fcmp (UInt32.ofNat a) (UInt32.ofNat b)) op).toInt :: r, hp))
    | _ => none
  | .i2l => match st with
    | .inl a :: r => some (.inl (nx, A, jL (jm_w32 a) :: r, hp))
    | _ => none
  | .l2i => match st with
    | .inr (.inl a) :: r => some (.inl (nx, A, jI a :: r, hp))
    | _ => none
  | .i2c => match st with
    | .inl a :: r => some (.inl (nx, A, jI ((Int32.ofInt a).toUInt32 % 65536).toInt32.toInt :: r, hp))
    | _ => none
  | .i2b => match st with
    | .inl a :: r => some (.inl (nx, A, jI (Int32.ofInt a).toInt8.toInt32.toInt :: r, hp))
    | _ => none
  | .i2f => match st with
    | .inl a :: r => some (.inl (nx, A, jF (FP.i2f (Int32.ofInt a)).toNat :: r, hp))
    | _ => none
  | .f2i => match st with
    | .inr (.inr (.inl a)) :: r => some (.inl (nx, A, jI (FP.f2i (UInt32.ofNat a)).toInt :: r, hp))
    | _ => none
  | .ineg => match st with
    | .inl a :: r => some (.inl (nx, A, jI (-a) :: r, hp))
    | _ => none
  | .lshl => match st with
    | .inl b :: .inr (.inl a) :: r => some (.inl (nx, A, jL (Int64.ofInt a <<< ((Int32.ofInt b).toInt64 &&& 63)).toInt :: r, hp))
    | _ => none
  | .lushr => match st with
    | .inl b :: .inr (.inl a) :: r => some (.inl (nx, A, jL ((Int64.ofInt a).toUInt64 >>> ((Int32.ofInt b).toInt64.toUInt64 &&& Int64.toUInt64 63)).toInt64.toInt :: r, hp))
    | _ => none
  | .dup => match st with
    | v :: r => bif Nat.beq (jm_cat v) 1 then some (.inl (nx, A, v :: v :: r, hp)) else none
    | _ => none
  | .dup2 => match st with
    | v :: w :: r => bif Nat.beq (jm_cat v) 1 && Nat.beq (jm_cat w) 1 then some (.inl (nx, A, v :: w :: v :: w :: r, hp)) else none
    | _ => none
  | .pop => match st with
    | v :: r => bif Nat.beq (jm_cat v) 1 then some (.inl (nx, A, r, hp)) else none
    | _ => none
  | .arraylength => match st with
    | .inr (.inr (.inr (.inl k))) :: r => match jm_le hp k with
      | some n => some (.inl (nx, A, jI n :: r, hp))
      | none => none
    | _ => none
  | .getfield k => jm_getf (jm_pf jm_FL c k) nx A st hp
  | .putfield k => jm_putf (jm_pf jm_FL c k) nx A st hp
  | .getstatic k => jm_kV (jm_pf jm_ST c k) nx A st hp
  | .ldc k => jm_kV (jm_k1 (jm_pf jm_CS c k)) nx A st hp
  | .ldc_w k => jm_kV (jm_k3 (jm_pf jm_CS c k)) nx A st hp
  | .ldc2_w k => jm_kV (jm_k2 (jm_pf jm_CS c k)) nx A st hp
  | .iaload => jm_ald 0 (fun z => jI z) nx A st hp
  | .laload => jm_ald 1 (fun z => jL z) nx A st hp
  | .faload => jm_ald 2 (fun z => jF z.toNat) nx A st hp
  | .baload => match jm_ald 3 (fun z => jI z) nx A st hp with
    | some o => some o
    | none => jm_ald 4 (fun z => jI z) nx A st hp
  | .iastore => jm_ast 0 jm_okI nx A st hp
  | .lastore => jm_ast 1 jm_okL nx A st hp
  | .fastore => jm_ast 2 jm_okF nx A st hp
  | .bastore => jm_ast 3 jm_okZ nx A st hp
  | .invokevirtual k => match jm_pf jm_ML c k with
    | some y => bif jm_rc y st && !(jm_me y).2.2.1 then jm_call x y st nx else none
    | none => none
  | .invokestatic k => match jm_pf jm_ML c k with
    | some y => bif Nat.ble y 2 then jm_mth x y nx A st hp else bif (jm_me y).2.2.1 then jm_call x y st nx else none
    | none => none
  | .ireturn => jm_retI rk st
  | .lreturn => match st with
    | [.inr (.inl z)] => bif Nat.beq rk 3 then some (.inr (.inl (some (jL z)))) else none
    | _ => none
  | .freturn => match st with
    | [.inr (.inr (.inl z))] => bif Nat.beq rk 4 then some (.inr (.inl (some (jF z)))) else none
    | _ => none
  | .return_ => match st with
    | [] => bif Nat.beq rk 0 then some (.inr (.inl none)) else none
    | _ => none
  | i => jm_ar2 i nx A st hp
def jm_go (x pc : Nat) (A st : List jm_V) (hp : jm_H) : Option jm_O :=
  match jm_fe x pc with
  | some (i, nx, tg) => jm_in x (jm_me x).1 (jm_me x).2.2.2.2.1 pc i nx tg A st hp
  | none => none
def jm_run : Nat → Nat → Nat → List jm_V → List jm_V → jm_H → Option (Option jm_V × jm_H)
  | 0, _, _, _, _, _ => none
  | n + 1, x, pc, A, st, hp => match jm_go x pc A st hp with
    | some (.inl (pc', A', st', hp')) => jm_run n x pc' A' st' hp'
    | some (.inr (.inl rv)) => some (rv, hp)
    | some (.inr (.inr (y, vs, r, nx))) => match jm_run n y 0 (jm_en y vs) [] hp with
      | some (rv, hp') => jm_run n x nx A (jm_ps rv r) hp'
      | none => none
    | none => none
theorem jm_mono : ∀ (n x pc : Nat) (A st : List jm_V) (hp : jm_H) (r : Option jm_V × jm_H), jm_run n x pc A st hp = some r → jm_run (n + 1) x pc A st hp = some r := by
  intro n
  induction n with
  | zero => intro x pc A st hp r h; exact absurd h (by simp [jm_run])
  | succ n ih =>
    intro x pc A st hp r h
    rw [jm_run] at h ⊢
    cases hg : jm_go x pc A st hp with
    | none => rw [hg] at h; exact absurd h (by simp)
    | some o =>
      rw [hg] at h
      rcases o with ⟨pc', A', st', hp'⟩ | rv | ⟨y, vs, r', nx⟩
      · exact ih _ _ _ _ _ _ h
      · exact h
      · simp only at h ⊢
        cases hc : jm_run n y 0 (jm_en y vs) [] hp with
        | none => rw [hc] at h; exact absurd h (by simp)
        | some q =>
          rw [hc] at h
          rw [ih _ _ _ _ _ _ hc]
          exact ih _ _ _ _ _ _ h
theorem jm_mono_le {n m x pc : Nat} {A st : List jm_V} {hp : jm_H} {r : Option jm_V × jm_H} (hle : n ≤ m) (h : jm_run n x pc A st hp = some r) : jm_run m x pc A st hp = some r := by
  induction hle with
  | refl => exact h
  | step _ ih => exact jm_mono _ _ _ _ _ _ _ ih
/-- from here the method comes to its end with Q -/
def jm_Ev (x pc : Nat) (A st : List jm_V) (hp : jm_H) (Q : Option jm_V → jm_H → Prop) : Prop := ∃ n rv hp', jm_run n x pc A st hp = some (rv, hp') ∧ Q rv hp'
theorem jm_Ev.go {x pc pc' : Nat} {A st A' st' : List jm_V} {hp hp' : jm_H} {Q : Option jm_V → jm_H → Prop} (h : jm_go x pc A st hp = some (.inl (pc', A', st', hp'))) (k : jm_Ev x pc' A' st' hp' Q) : jm_Ev x pc A st hp Q := by
  obtain ⟨n, rv, h2, e, q⟩ := k
  exact ⟨n + 1, rv, h2, by rw [jm_run, h]; exact e, q⟩
theorem jm_Ev.ret {x pc : Nat} {A st : List jm_V} {hp : jm_H} {rv : Option jm_V} {Q : Option jm_V → jm_H → Prop} (h : jm_go x pc A st hp = some (.inr (.inl rv))) (q : Q rv hp) : jm_Ev x pc A st hp Q := ⟨1, rv, hp, by rw [jm_run, h], q⟩
theorem jm_Ev.call {x pc y nx : Nat} {A st vs r : List jm_V} {hp : jm_H} {Q Q1 : Option jm_V → jm_H → Prop} (h : jm_go x pc A st hp = some (.inr (.inr (y, vs, r, nx)))) (hc : jm_Ev y 0 (jm_en y vs) [] hp Q1) (k : ∀ rv hp', Q1 rv hp' → jm_Ev x nx A (jm_ps rv r) hp' Q) : jm_Ev x pc A st hp Q := by
  obtain ⟨n, rv, h1, e1, q1⟩ := hc
  obtain ⟨m, rv2, h2, e2, q2⟩ := k rv h1 q1
  refine ⟨max n m + 1, rv2, h2, ?_, q2⟩
  rw [jm_run, h]
  simp only [jm_mono_le (Nat.le_max_left n m) e1]
  exact jm_mono_le (Nat.le_max_right n m) e2
theorem jm_Ev.mono {x pc : Nat} {A st : List jm_V} {hp : jm_H} {Q Q2 : Option jm_V → jm_H → Prop} (h : jm_Ev x pc A st hp Q) (q : ∀ rv hp', Q rv hp' → Q2 rv hp') : jm_Ev x pc A st hp Q2 := by
  obtain ⟨n, rv, h2, e, k⟩ := h
  exact ⟨n, rv, h2, e, q _ _ k⟩
/-- n steps, none of them a call or a return -/
def jm_bl : Nat → Nat → jm_C → Option jm_C
  | 0, _, c => some c
  | n + 1, x, (pc, A, st, hp) => match jm_go x pc A st hp with
    | some (.inl c) => jm_bl n x c
    | _ => none
theorem jm_Ev.bl {x : Nat} {Q : Option jm_V → jm_H → Prop} : ∀ (n : Nat) {pc pc' : Nat} {A st A' st' : List jm_V} {hp hp' : jm_H}, jm_bl n x (pc, A, st, hp) = some (pc', A', st', hp') → jm_Ev x pc' A' st' hp' Q → jm_Ev x pc A st hp Q := by
  intro n
  induction n with
  | zero => intro pc pc' A st A' st' hp hp' h k; simp only [jm_bl, Option.some.injEq, Prod.mk.injEq] at h; obtain ⟨rfl, rfl, rfl, rfl⟩ := h; exact k
  | succ n ih =>
    intro pc pc' A st A' st' hp hp' h k
    rw [jm_bl] at h
    cases hg : jm_go x pc A st hp with
    | none => rw [hg] at h; exact absurd h (by simp)
    | some o =>
      rw [hg] at h
      rcases o with ⟨p1, A1, s1, h1⟩ | o
      · exact jm_Ev.go hg (ih h k)
      · exact absurd h (by simp)
