/-! the rows against the claim's bytes: each resolved instruction is what the bytes have there -/
def ownN (o : Nat) : String := ownT.getD o ""
def clsT (c : Nat) : vw_C := vwCl.getD c ("", fun _ => ("", "", "", false), 0)
def fkd (f : Nat) : Nat := (ftab.getD (f / 100) []).getD (f % 100) 9
def ffin (f : Nat) : Bool := ((clsT (f / 100)).2.1 (f % 100)).2.2.2
def ixO (raw : Instr) : Nat := match raw with
  | .getfield k => k
  | .putfield k => k
  | .getstatic k => k
  | .invokevirtual k => k
  | .invokespecial k => k
  | .invokestatic k => k
  | .new k => k
  | .anewarray k => k
  | .ldc k => k
  | .ldc_w k => k
  | .ldc2_w k => k
  | _ => 0
def oO (raw : Instr) : Int := match raw with
  | .goto o => o
  | .ifCond _ o => o
  | .if_icmp _ o => o
  | _ => 0
def flH (o k f : Nat) : Bool := flT.any fun q => q.1 == o && (q.2.1 == k && q.2.2.1 == f)
def mlH (o k j : Nat) : Bool := mlT.any fun q => q.1 == o && (q.2.1 == k && q.2.2.1 == j)
def mnH (o k j : Nat) : Bool := mnT.any fun q => q.1 == o && (q.2.1 == k && q.2.2.1 == j)
def clH (o k c : Nat) : Bool := clT.any fun q => q.1 == o && (q.2.1 == k && q.2.2.1 == c)
def ctH (o k : Nat) (v : Int) : Bool := ctT.any fun q => q.1 == o && (q.2.1 == k && q.2.2.1 == v)
def c2H (o k : Nat) (v : Int) : Bool := c2T.any fun q => q.1 == o && (q.2.1 == k && q.2.2.1 == v)
def obH (o k : Nat) : Bool := obT.any fun q => q.1 == o && q.2.1 == k
def acH (o k : Nat) : Bool := acT.any fun q => q.1 == o && q.2.1 == k
/-- a jump: the row of that number stands at that place -/
def jOk (all : List Row) (t : Int) (pc : Nat) (off : Int) : Bool := match all[t.toNat]? with
  | some row => decide ((pc : Int) + off = (row.1 : Int))
  | none => false
def simpleI (i : Instr) : Bool := match i with
  | .iadd | .isub | .imul | .iand | .ior | .ixor | .ishl | .ishr | .iushr | .idiv | .irem | .ladd | .lsub | .lmul | .land | .lor | .lxor | .lshl | .lushr | .ldiv | .lrem | .lneg | .lcmp | .i2l | .l2i | .i2b | .i2s | .dup | .dup2 | .pop | .iaload | .baload | .laload | .aaload | .iastore | .bastore | .lastore | .aastore | .arraylength => true
  | _ => false
def mj (j : Nat) : Bool := match (MT j).2.2.1 % 100 with
  | 0 => true
  | _ => false
/-- a call's instruction: static, a constructor, any other -/
def callOp (j k : Nat) : Instr := bif mj j then .invokestatic k else if (MI j).1.name = "<init>" then .invokespecial k else .invokevirtual k
def okI (own maxL rk : Nat) (rt : Option FieldType) (nm : String) (all : List Row) (pc len : Nat) (raw i : Instr) : Bool := match i with
  | .iconst v => decide ((-2147483648 ≤ v ∧ v < 2147483648) ∧ ((raw = .iconst v ∧ len = 1) ∨ (raw = .bipush v ∧ len = 2 ∧ (Int8.ofInt v).toInt32 = Int32.ofInt v) ∨ (raw = .sipush v ∧ len = 3 ∧ (Int16.ofInt v).toInt32 = Int32.ofInt v) ∨ (raw = .ldc (ixO raw) ∧ len = 2 ∧ ctH own (ixO raw) v = true) ∨ (raw = .ldc_w (ixO raw) ∧ len = 3 ∧ ctH own (ixO raw) v = true)))
  | .goto_w v => decide ((-9223372036854775808 ≤ v ∧ v < 9223372036854775808) ∧ ((raw = .lconst 0 ∧ v = 0 ∧ len = 1) ∨ (raw = .lconst 1 ∧ v = 1 ∧ len = 1) ∨ (raw = .ldc2_w (ixO raw) ∧ len = 3 ∧ c2H own (ixO raw) v = true)))
  | .iload n => decide ((raw = .iload n ∧ len = 2) ∨ (raw = .iload_n (Fin.ofNat 4 n) ∧ (Fin.ofNat 4 n).val = n ∧ len = 1))
  | .lload n => decide ((raw = .lload n ∧ len = 2) ∨ (raw = .lload_n (Fin.ofNat 4 n) ∧ (Fin.ofNat 4 n).val = n ∧ len = 1))
  | .aload n => decide ((raw = .aload n ∧ len = 2) ∨ (raw = .aload_n (Fin.ofNat 4 n) ∧ (Fin.ofNat 4 n).val = n ∧ len = 1))
  | .istore n => decide (n < maxL ∧ ((raw = .istore n ∧ len = 2) ∨ (raw = .istore_n (Fin.ofNat 4 n) ∧ (Fin.ofNat 4 n).val = n ∧ len = 1)))
  | .lstore n => decide (n + 1 < maxL ∧ ((raw = .lstore n ∧ len = 2) ∨ (raw = .lstore_n (Fin.ofNat 4 n) ∧ (Fin.ofNat 4 n).val = n ∧ len = 1)))
  | .astore n => decide (n < maxL ∧ ((raw = .astore n ∧ len = 2) ∨ (raw = .astore_n (Fin.ofNat 4 n) ∧ (Fin.ofNat 4 n).val = n ∧ len = 1)))
  | .iinc n k => decide (raw = .iinc n k ∧ n < maxL ∧ len = 3)
  | .goto t => decide (raw = .goto (oO raw) ∧ len = 3) && jOk all t pc (oO raw)
  | .ifCond k t => decide (raw = .ifCond k (oO raw) ∧ len = 3) && jOk all t pc (oO raw)
  | .if_icmp k t => decide (raw = .if_icmp k (oO raw) ∧ len = 3) && jOk all t pc (oO raw)
  | .tableswitch d lo hi offs => match raw with
    | .tableswitch d0 lo0 hi0 offs0 => decide (lo = lo0 ∧ hi = hi0 ∧ offs.size = offs0.size ∧ hi - lo + 1 = offs.size) && (jOk all d pc d0 && (offs.toList.zip offs0.toList).all fun q => jOk all q.1 pc q.2)
    | _ => false
  | .lookupswitch d ps => match raw with
    | .lookupswitch d0 ps0 => decide (ps.toList.map (·.1) = ps0.toList.map (·.1)) && ((ps0.toList.zip (ps0.toList.drop 1)).all (fun (a, next) => a.1 < next.1) && (jOk all d pc d0 && (ps.toList.zip ps0.toList).all fun q => jOk all q.1.2 pc q.2.2))
    | _ => false
  | .getfield f => decide (raw = .getfield (ixO raw) ∧ len = 3 ∧ flH own (ixO raw) f = true ∧ (fkd f = 0 ∨ fkd f = 3))
  | .instanceof f => decide (raw = .getfield (ixO raw) ∧ len = 3 ∧ flH own (ixO raw) f = true ∧ fkd f = 1)
  | .checkcast f => decide (raw = .getfield (ixO raw) ∧ len = 3 ∧ flH own (ixO raw) f = true ∧ fkd f = 2)
  | .putfield f => decide (raw = .putfield (ixO raw) ∧ len = 3 ∧ flH own (ixO raw) f = true ∧ fkd f = 0 ∧ ffin f = false)
  | .ret f => decide (raw = .putfield (ixO raw) ∧ len = 3 ∧ flH own (ixO raw) f = true ∧ fkd f = 3 ∧ ffin f = false)
  | .putstatic f => decide (raw = .putfield (ixO raw) ∧ len = 3 ∧ flH own (ixO raw) f = true ∧ fkd f = 1 ∧ ffin f = false)
  | .invokedynamic f => decide (raw = .putfield (ixO raw) ∧ len = 3 ∧ flH own (ixO raw) f = true ∧ fkd f = 2 ∧ ffin f = true ∧ nm = "<init>" ∧ own = f / 100)
  | .faload => decide (raw = .iaload ∧ len = 1)
  | .fastore => decide (raw = .arraylength ∧ len = 1)
  | .dastore => decide (raw = .getstatic 231 ∧ own = 1 ∧ len = 3)
  | .daload => decide (raw = .laload ∧ len = 1)
  | .castore => decide (raw = .ldc 57 ∧ own = 8 ∧ len = 2)
  | .saload => decide (raw = .invokevirtual 59 ∧ own = 8 ∧ len = 3 ∧ 6 ≤ rk)
  | .caload => decide (raw = .invokevirtual 64 ∧ own = 8 ∧ len = 3 ∧ 6 ≤ rk)
  | .dadd => decide (raw = .invokestatic (ixO raw) ∧ acH own (ixO raw) = true ∧ len = 3)
  | .dsub => decide (raw = .invokestatic (ixO raw) ∧ acH own (ixO raw) = true ∧ len = 3)
  | .invokestatic j => decide (j < 384 ∧ raw = callOp j (ixO raw) ∧ len = 3 ∧ (mlH own (ixO raw) j = true ∨ mnH own (ixO raw) j = true) ∧ (MI j).2.2.2.2.2.1 + 1 ≤ rk)
  | .invokevirtual j => decide (j < 384 ∧ raw = callOp j (ixO raw) ∧ len = 3 ∧ (mlH own (ixO raw) j = true ∨ mnH own (ixO raw) j = true) ∧ (MI j).2.2.2.2.2.1 + 1 ≤ rk + 64)
  | .invokespecial _ => decide (raw = .invokespecial (ixO raw) ∧ obH own (ixO raw) = true ∧ len = 3)
  | .new k => decide (raw = .new (ixO raw) ∧ clH own (ixO raw) k = true ∧ len = 3)
  | .dload t => decide (len = 2 ∧ ((raw = .newarray .int ∧ akind t = 0) ∨ (raw = .newarray .long ∧ akind t = 1) ∨ (raw = .newarray .byte ∧ akind t = 2)))
  | .fload t => decide (raw = .anewarray (ixO raw) ∧ clH own (ixO raw) (acomp t) = true ∧ len = 3)
  | .multianewarray t u => decide (raw = .multianewarray 9 2 ∧ own = 0 ∧ t = 32 ∧ u = 33 ∧ len = 4)
  | .ireturn => decide (raw = .ireturn ∧ len = 1 ∧ rt = some .int)
  | .freturn => decide (raw = .ireturn ∧ len = 1 ∧ rt = some .boolean)
  | .lreturn => decide (raw = .lreturn ∧ len = 1 ∧ rt = some .long)
  | .areturn => decide (raw = .areturn ∧ len = 1) && (match rt with
    | some (.object _) => true
    | _ => false)
  | .return_ => decide (raw = .return_ ∧ len = 1 ∧ rt = none)
  | i => simpleI i && decide (raw = i ∧ len = 1)
/-- whether the next row is never come to from this one -/
def noFall (i : Instr) : Bool := match i with
  | .goto _ | .tableswitch _ _ _ _ | .lookupswitch _ _ | .ireturn | .freturn | .lreturn | .areturn | .return_ => true
  | _ => false
def headPc (rows : List Row) : Option Nat := match rows with
  | [] => none
  | r :: _ => some r.1
def chkR (own maxL rk : Nat) (rt : Option FieldType) (nm : String) (cc : ByteArray) (all : List Row) : List Row → Bool
  | [] => true
  | (pc, _, i) :: tl => (match decode cc pc with
    | .ok (raw, len) => okI own maxL rk rt nm all pc len raw i && (noFall i || decide (headPc tl = some (pc + len)))
    | .error _ => false) && chkR own maxL rk rt nm cc all tl
def chkM (j : Nat) : Bool := chkR (MI j).2.2.2.2.1 (MI j).2.2.1 (MI j).2.2.2.2.2.1 (MI j).2.2.2.1 (MI j).1.name (MI j).2.1 (MT j).1 (MT j).1 && decide (headPc (MT j).1 = some 0)
