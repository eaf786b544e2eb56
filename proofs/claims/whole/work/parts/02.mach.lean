/-! THE SMALL MACHINE: what the methods do, over whole numbers; a heap of tagged cells. Values: an int, a long, a reference (tag, number of the cell). -/
abbrev mv : Type := Int ⊕ (Int ⊕ (Nat × Nat))
abbrev vI (x : Int) : mv := .inl x
abbrev vL (x : Int) : mv := .inr (.inl x)
abbrev vR (t a : Nat) : mv := .inr (.inr (t, a))
/-- what is cut to 32, 64 bits -/
def w32 (x : Int) : Int := (x + 2147483648) % 4294967296 - 2147483648
def w64 (x : Int) : Int := (x + 9223372036854775808) % 18446744073709551616 - 9223372036854775808
def x8 (x : Int) : Int := (x + 128) % 256 - 128
def x16 (x : Int) : Int := (x + 32768) % 65536 - 32768
def xand (x y : Int) : Int := (Int32.ofInt x &&& Int32.ofInt y).toInt
def xor32 (x y : Int) : Int := (Int32.ofInt x ||| Int32.ofInt y).toInt
def xxor (x y : Int) : Int := (Int32.ofInt x ^^^ Int32.ofInt y).toInt
def xshl (x y : Int) : Int := (Int32.ofInt x <<< (Int32.ofInt y &&& 31)).toInt
def xshr (x y : Int) : Int := (Int32.ofInt x >>> (Int32.ofInt y &&& 31)).toInt
def xushr (x y : Int) : Int := ((Int32.ofInt x).toUInt32 >>> ((Int32.ofInt y).toUInt32 &&& Int32.toUInt32 31)).toInt32.toInt
def xdiv (x y : Int) : Int := (Int32.ofInt x / Int32.ofInt y).toInt
def xrem (x y : Int) : Int := (Int32.ofInt x - Int32.ofInt x / Int32.ofInt y * Int32.ofInt y).toInt
def yand (x y : Int) : Int := (Int64.ofInt x &&& Int64.ofInt y).toInt
def yor (x y : Int) : Int := (Int64.ofInt x ||| Int64.ofInt y).toInt
def yxor (x y : Int) : Int := (Int64.ofInt x ^^^ Int64.ofInt y).toInt
def yshl (x y : Int) : Int := (Int64.ofInt x <<< ((Int32.ofInt y).toInt64 &&& 63)).toInt
def yushr (x y : Int) : Int := ((Int64.ofInt x).toUInt64 >>> ((Int32.ofInt y).toInt64.toUInt64 &&& Int64.toUInt64 63)).toInt64.toInt
def ydiv (x y : Int) : Int := (Int64.ofInt x / Int64.ofInt y).toInt
def yrem (x y : Int) : Int := (Int64.ofInt x - Int64.ofInt x / Int64.ofInt y * Int64.ofInt y).toInt
def ycmp (x y : Int) : Int := if y < x then 1 else if x < y then -1 else 0
/-- the memory: ints and longs by cell and place; references of fields (by field, cell), of rows (by tag, cell, place); the cells' tags; the script -/
abbrev Shp : Type := (Nat → Nat → Option (Nat × Nat)) × (Nat → Nat → Nat → Option (Nat × Nat)) × List Nat × ((Nat → Int) × Nat)
abbrev Mem : Type := (Nat → Nat → Int) × (Nat → Nat → Int) × Shp
abbrev LV : Type := List (Nat × mv)
abbrev Res : Type := Option mv × Mem
abbrev Row : Type := Nat × Option (List Nat) × Instr
def up2 (f : Nat → Nat → Int) (a k : Nat) (v : Int) : Nat → Nat → Int := fun b j => if b = a ∧ j = k then v else f b j
abbrev putI (M : Mem) (a k : Nat) (v : Int) : Mem := (up2 M.1 a k v, M.2)
abbrev putL (M : Mem) (a k : Nat) (v : Int) : Mem := (M.1, up2 M.2.1 a k v, M.2.2)
/-- rows: kind (0 int, 1 long, 2 byte, 3 references, 4 rows of longs), length; by tag from 20 on -/
def atab : List (Nat × Nat × Nat) := [(3, 4, 10), (2, 900, 0), (3, 3, 1), (1, 60, 0), (3, 6, 5), (3, 8, 3), (3, 4, 9), (0, 60, 0), (1, 28, 0), (0, 901, 0), (1, 901, 0), (0, 3, 0), (4, 13, 33), (1, 13, 0), (0, 4, 0), (1, 240, 0), (0, 1725, 0), (0, 73, 0), (1, 90, 0), (1, 169, 0), (0, 5, 0)]
abbrev akind (t : Nat) : Nat := bif Nat.ble 20 t then (atab.getD (t - 20) (9, 0, 0)).1 else 9
abbrev alen (t : Nat) : Nat := (atab.getD (t - 20) (9, 0, 0)).2.1
abbrev acomp (t : Nat) : Nat := (atab.getD (t - 20) (9, 0, 0)).2.2
def setsF : List Int := [-6148914691236517206, -3689348814741910324, -1085102592571150096, -71777214294589696, -281470681808896, -4294967296]
def keyT : List Int := [108, 105, 102, 101, 32, 98, 111, 114, 100, 101, 114, 32, 106, 97, 114, 115, 32, 112, 97, 114, 116, 32, 102, 97, 100, 101, 115, 32, 119, 97, 121, 115, 32, 119, 114, 105, 116, 116, 101, 110, 32, 104, 97, 110, 100, 32, 97, 103, 101, 32, 112, 114, 105, 99, 101, 32, 107, 110, 111, 119, 115, 32, 115, 112, 114, 105, 110, 103, 32, 97, 116, 32, 103, 105, 118, 101, 115, 32, 121, 101, 97, 114, 32, 109, 97, 107, 101, 32, 117, 115, 101, 32, 116, 101, 97, 99, 104, 32, 119, 114, 105, 116, 101, 32, 98, 117, 114, 110, 32, 99, 97, 112, 116, 117, 114, 101, 32, 97, 110, 121, 32, 119, 104, 101, 110, 32, 107, 110, 111, 119, 110, 32, 119, 104, 111, 108, 101, 32, 108, 111, 111, 112, 32, 101, 110, 100, 32, 115, 116, 111, 112, 32]
/-- locals -/
def lvGet : LV → Nat → Option mv
  | [], _ => none
  | q :: l, k => bif Nat.beq q.1 k then some q.2 else lvGet l k
def isL (v : mv) : Bool := match v with
  | .inr (.inl _) => true
  | _ => false
def lvIns (k : Nat) (v : mv) : LV → LV
  | [] => [(k, v)]
  | q :: l => bif Nat.ble k q.1 then (k, v) :: q :: l else q :: lvIns k v l
def lvDel (k : Nat) (lg : Bool) : LV → LV
  | [] => []
  | q :: l => bif (Nat.beq q.1 k || (Nat.beq (q.1 + 1) k && isL q.2)) || (lg && Nat.beq q.1 (k + 1)) then lvDel k lg l else q :: lvDel k lg l
abbrev lvSet (lv : LV) (k : Nat) (v : mv) : LV := lvIns k v (lvDel k (isL v) lv)
def hasK (k : Nat) : List Nat → Bool
  | [] => false
  | x :: l => Nat.beq x k || hasK k l
def lvOnly (ks : List Nat) : LV → LV
  | [] => []
  | q :: l => bif hasK q.1 ks then q :: lvOnly ks l else lvOnly ks l
def lvCut (kp : Option (List Nat)) (lv : LV) : LV := match kp with
  | none => lv
  | some ks => lvOnly ks lv
def ent : Nat → List mv → LV
  | _, [] => []
  | n, v :: l => (n, v) :: ent (bif isL v then n + 2 else n + 1) l
def wsum : List mv → Nat
  | [] => 0
  | v :: l => (bif isL v then 2 else 1) + wsum l
/-- what an instruction gives: the next (a jump, locals, stack, memory), a call (deeper or not, the method, stack, locals), the end -/
abbrev Out : Type := (Option Nat × LV × List mv × Mem) ⊕ ((Bool × Nat × LV × List mv) ⊕ (Option mv))
section Act
variable {β : Type}
def pI (st : List mv) (f : Int → List mv → Option β) : Option β := match st with
  | .inl x :: r => f x r
  | _ => none
def pL (st : List mv) (f : Int → List mv → Option β) : Option β := match st with
  | .inr (.inl x) :: r => f x r
  | _ => none
def pR (st : List mv) (f : Nat → Nat → List mv → Option β) : Option β := match st with
  | .inr (.inr (t, a)) :: r => f t a r
  | _ => none
def pO {α : Type} (o : Option α) (f : α → Option β) : Option β := match o with
  | some x => f x
  | none => none
def pV (v : mv) (f : Int → Option β) : Option β := match v with
  | .inl x => f x
  | _ => none
def pW (v : mv) (f : Int → Option β) : Option β := match v with
  | .inr (.inl x) => f x
  | _ => none
def pU (v : mv) (f : Nat → Nat → Option β) : Option β := match v with
  | .inr (.inr (t, a)) => f t a
  | _ => none
/-- a graph of references that stays (fields: field, cell; rows: tag, cell, place), or that of the memory -/
abbrev Gr : Type := Option ((Nat → Nat → Option (Nat × Nat)) × (Nat → Nat → Nat → Option (Nat × Nat)))
def pG (gr : Gr) (M : Mem) (f a : Nat) (k : Nat × Nat → Option β) : Option β := match gr with
  | some g => pO (g.1 f a) k
  | none => pO (M.2.2.1 f a) k
def pE (gr : Gr) (M : Mem) (t a i : Nat) (k : Nat × Nat → Option β) : Option β := match gr with
  | some g => pO (g.2 t a i) k
  | none => pO (M.2.2.2.1 t a i) k
def pN (gr : Gr) (k : Option β) : Option β := match gr with
  | some _ => none
  | none => k
/-- a test that the numbers themselves decide -/
def pB (b : Bool) (f : Option β) : Option β := match b with
  | true => f
  | false => none
def cmp1 (c : ClassFile.Cond) (x y : Int) (f g : Option β) : Option β := match c with
  | .eq => if x = y then f else g
  | .ne => if x = y then g else f
  | .lt => if x < y then f else g
  | .ge => if x < y then g else f
  | .gt => if y < x then f else g
  | .le => if y < x then g else f
def luk (x : Int) (d : Int) : List (Int × Int) → (Int → Option β) → Option β
  | [], f => f d
  | q :: l, f => if x = q.1 then f q.2 else luk x d l f
def tbk (x : Int) (d : Int) (lo : Int) : List Int → (Int → Option β) → Option β
  | [], f => f d
  | q :: l, f => if x = lo then f q else tbk x d (lo + 1) l f
def act (gr : Gr) (i : Instr) (lv : LV) (st : List mv) (M : Mem) (K : Out → Option β) : Option β := match i with
  | .iconst v => K (.inl (none, lv, vI v :: st, M))
  | .goto_w v => K (.inl (none, lv, vL v :: st, M))
  | .iload n => pO (lvGet lv n) fun v => pV v fun x => K (.inl (none, lv, vI x :: st, M))
  | .lload n => pO (lvGet lv n) fun v => pW v fun x => K (.inl (none, lv, vL x :: st, M))
  | .aload n => pO (lvGet lv n) fun v => pU v fun t a => K (.inl (none, lv, vR t a :: st, M))
  | .istore n => pI st fun x st => K (.inl (none, lvSet lv n (vI x), st, M))
  | .lstore n => pL st fun x st => K (.inl (none, lvSet lv n (vL x), st, M))
  | .astore n => pR st fun t a st => K (.inl (none, lvSet lv n (vR t a), st, M))
  | .iinc n c => pO (lvGet lv n) fun v => pV v fun x => K (.inl (none, lvSet lv n (vI (w32 (x + c))), st, M))
  | .iadd => pI st fun y st => pI st fun x st => K (.inl (none, lv, vI (w32 (x + y)) :: st, M))
  | .isub => pI st fun y st => pI st fun x st => K (.inl (none, lv, vI (w32 (x - y)) :: st, M))
  | .imul => pI st fun y st => pI st fun x st => K (.inl (none, lv, vI (w32 (x * y)) :: st, M))
  | .iand => pI st fun y st => pI st fun x st => K (.inl (none, lv, vI (xand x y) :: st, M))
  | .ior => pI st fun y st => pI st fun x st => K (.inl (none, lv, vI (xor32 x y) :: st, M))
  | .ixor => pI st fun y st => pI st fun x st => K (.inl (none, lv, vI (xxor x y) :: st, M))
  | .ishl => pI st fun y st => pI st fun x st => K (.inl (none, lv, vI (xshl x y) :: st, M))
  | .ishr => pI st fun y st => pI st fun x st => K (.inl (none, lv, vI (xshr x y) :: st, M))
  | .iushr => pI st fun y st => pI st fun x st => K (.inl (none, lv, vI (xushr x y) :: st, M))
  | .idiv => pI st fun y st => pI st fun x st => if y = 0 then none else K (.inl (none, lv, vI (xdiv x y) :: st, M))
  | .irem => pI st fun y st => pI st fun x st => if y = 0 then none else K (.inl (none, lv, vI (xrem x y) :: st, M))
  | .ladd => pL st fun y st => pL st fun x st => K (.inl (none, lv, vL (w64 (x + y)) :: st, M))
  | .lsub => pL st fun y st => pL st fun x st => K (.inl (none, lv, vL (w64 (x - y)) :: st, M))
  | .lmul => pL st fun y st => pL st fun x st => K (.inl (none, lv, vL (w64 (x * y)) :: st, M))
  | .land => pL st fun y st => pL st fun x st => K (.inl (none, lv, vL (yand x y) :: st, M))
  | .lor => pL st fun y st => pL st fun x st => K (.inl (none, lv, vL (yor x y) :: st, M))
  | .lxor => pL st fun y st => pL st fun x st => K (.inl (none, lv, vL (yxor x y) :: st, M))
  | .lshl => pI st fun y st => pL st fun x st => K (.inl (none, lv, vL (yshl x y) :: st, M))
  | .lushr => pI st fun y st => pL st fun x st => K (.inl (none, lv, vL (yushr x y) :: st, M))
  | .ldiv => pL st fun y st => pL st fun x st => if y = 0 then none else K (.inl (none, lv, vL (ydiv x y) :: st, M))
  | .lrem => pL st fun y st => pL st fun x st => if y = 0 then none else K (.inl (none, lv, vL (yrem x y) :: st, M))
  | .lneg => pL st fun x st => K (.inl (none, lv, vL (w64 (-x)) :: st, M))
  | .lcmp => pL st fun y st => pL st fun x st => K (.inl (none, lv, vI (ycmp x y) :: st, M))
  | .i2l => pI st fun x st => K (.inl (none, lv, vL x :: st, M))
  | .l2i => pL st fun x st => K (.inl (none, lv, vI (w32 x) :: st, M))
  | .i2b => pI st fun x st => K (.inl (none, lv, vI (x8 x) :: st, M))
  | .i2s => pI st fun x st => K (.inl (none, lv, vI (x16 x) :: st, M))
  | .dup => match st with
    | v :: r => pB (!isL v) (K (.inl (none, lv, v :: v :: r, M)))
    | [] => none
  | .dup2 => match st with
    | v :: w :: r => pB (!isL v && !isL w) (K (.inl (none, lv, v :: w :: v :: w :: r, M)))
    | _ => none
  | .pop => match st with
    | v :: r => pB (!isL v) (K (.inl (none, lv, r, M)))
    | [] => none
  | .goto t => K (.inl (some t.toNat, lv, st, M))
  | .ifCond c t => pI st fun x st => cmp1 c x 0 (K (.inl (some t.toNat, lv, st, M))) (K (.inl (none, lv, st, M)))
  | .if_icmp c t => pI st fun y st => pI st fun x st => cmp1 c x y (K (.inl (some t.toNat, lv, st, M))) (K (.inl (none, lv, st, M)))
  | .tableswitch d lo _ offs => pI st fun x st => tbk x d lo offs.toList fun t => K (.inl (some t.toNat, lv, st, M))
  | .lookupswitch d ps => pI st fun x st => luk x d ps.toList fun t => K (.inl (some t.toNat, lv, st, M))
  | .getfield f => pR st fun t a st => pB (Nat.beq t (f / 100)) (K (.inl (none, lv, vI (M.1 a (f % 100)) :: st, M)))
  | .instanceof f => pR st fun t a st => pB (Nat.beq t (f / 100)) (K (.inl (none, lv, vL (M.2.1 a (f % 100)) :: st, M)))
  | .checkcast f => pR st fun t a st => pB (Nat.beq t (f / 100)) (pG gr M f a fun q => K (.inl (none, lv, vR q.1 q.2 :: st, M)))
  | .putfield f => pI st fun x st => pR st fun t a st => pB (Nat.beq t (f / 100)) (K (.inl (none, lv, st, putI M a (f % 100) x)))
  | .ret f => pI st fun x st => pR st fun t a st => pB (Nat.beq t (f / 100)) (if x = 0 ∨ x = 1 then K (.inl (none, lv, st, putI M a (f % 100) x)) else none)
  | .putstatic f => pL st fun x st => pR st fun t a st => pB (Nat.beq t (f / 100)) (K (.inl (none, lv, st, putL M a (f % 100) x)))
  | .iaload => pI st fun i st => pR st fun t a st => pB (Nat.beq (akind t) 0) (if 0 ≤ i ∧ i < alen t then K (.inl (none, lv, vI (M.1 a i.toNat) :: st, M)) else none)
  | .baload => pI st fun i st => pR st fun t a st => pB (Nat.beq (akind t) 2) (if 0 ≤ i ∧ i < alen t then K (.inl (none, lv, vI (M.1 a i.toNat) :: st, M)) else none)
  | .laload => pI st fun i st => pR st fun t a st => pB (Nat.beq (akind t) 1) (if 0 ≤ i ∧ i < alen t then K (.inl (none, lv, vL (M.2.1 a i.toNat) :: st, M)) else none)
  | .aaload => pI st fun i st => pR st fun t a st => pB (Nat.beq (akind t) 3 || Nat.beq (akind t) 4) (if 0 ≤ i ∧ i < alen t then pE gr M t a i.toNat (fun q => K (.inl (none, lv, vR q.1 q.2 :: st, M))) else none)
  | .iastore => pI st fun x st => pI st fun i st => pR st fun t a st => pB (Nat.beq (akind t) 0) (if 0 ≤ i ∧ i < alen t then K (.inl (none, lv, st, putI M a i.toNat x)) else none)
  | .bastore => pI st fun x st => pI st fun i st => pR st fun t a st => pB (Nat.beq (akind t) 2) (if 0 ≤ i ∧ i < alen t then K (.inl (none, lv, st, putI M a i.toNat (x8 x))) else none)
  | .lastore => pL st fun x st => pI st fun i st => pR st fun t a st => pB (Nat.beq (akind t) 1) (if 0 ≤ i ∧ i < alen t then K (.inl (none, lv, st, putL M a i.toNat x)) else none)
  | .arraylength => pR st fun t a st => pB (Nat.ble (akind t) 4) (K (.inl (none, lv, vI (alen t) :: st, M)))
  | .faload => pI st fun i st => pR st fun t _ st => pB (Nat.beq t 90) (if 0 ≤ i ∧ i < M.2.2.2.2.2.2 then K (.inl (none, lv, vI (M.2.2.2.2.2.1 i.toNat) :: st, M)) else none)
  | .fastore => pR st fun t _ st => pB (Nat.beq t 90) (K (.inl (none, lv, vI M.2.2.2.2.2.2 :: st, M)))
  | .dastore => K (.inl (none, lv, vR 91 0 :: st, M))
  | .daload => pI st fun i st => pR st fun t _ st => pB (Nat.beq t 91) (if 0 ≤ i ∧ i < 6 then K (.inl (none, lv, vL (setsF.getD i.toNat 0) :: st, M)) else none)
  | .castore => K (.inl (none, lv, vR 92 0 :: st, M))
  | .saload => pR st fun t _ st => pB (Nat.beq t 92 && Nat.ble (wsum st) 8) (K (.inl (none, lv, vI keyT.length :: st, M)))
  | .caload => pI st fun i st => pR st fun t _ st => pB (Nat.beq t 92 && Nat.ble (wsum st) 8) (if 0 ≤ i ∧ i < keyT.length then K (.inl (none, lv, vI (keyT.getD i.toNat 0) :: st, M)) else none)
  | .dadd => pI st fun n st => pI st fun dp st => pR st fun t2 a2 st => pI st fun sp st => pR st fun t1 a1 st => pB (Nat.beq (akind t1) 0 && (Nat.beq (akind t2) 0 && Nat.ble (wsum st) 8))
      (if 0 ≤ sp ∧ 0 ≤ dp ∧ 0 ≤ n ∧ sp + n ≤ alen t1 ∧ dp + n ≤ alen t2 then K (.inl (none, lv, st, (fun b j => if b = a2 ∧ dp.toNat ≤ j ∧ j < dp.toNat + n.toNat then M.1 a1 (sp.toNat + (j - dp.toNat)) else M.1 b j, M.2))) else none)
  | .dsub => pI st fun n st => pI st fun dp st => pR st fun t2 a2 st => pI st fun sp st => pR st fun t1 a1 st => pB (Nat.beq (akind t1) 1 && (Nat.beq (akind t2) 1 && Nat.ble (wsum st) 8))
      (if 0 ≤ sp ∧ 0 ≤ dp ∧ 0 ≤ n ∧ sp + n ≤ alen t1 ∧ dp + n ≤ alen t2 then K (.inl (none, lv, st, (M.1, fun b j => if b = a2 ∧ dp.toNat ≤ j ∧ j < dp.toNat + n.toNat then M.2.1 a1 (sp.toNat + (j - dp.toNat)) else M.2.1 b j, M.2.2))) else none)
  | .invokestatic j => K (.inr (.inl (false, j, lv, st)))
  | .invokevirtual j => K (.inr (.inl (true, j, lv, st)))
  | .invokespecial _ => pR st fun _ _ st => pB (Nat.ble (wsum st) 8) (K (.inl (none, lv, st, M)))
  | .new c => pN gr (pB (Nat.ble c 12) (K (.inl (none, lv, vR c M.2.2.2.2.1.length :: st, (M.1, M.2.1, M.2.2.1, M.2.2.2.1, M.2.2.2.2.1 ++ [c], M.2.2.2.2.2)))))
  | .dload t => pN gr (pI st fun n st => pB (Nat.ble (akind t) 2) (if n = alen t then K (.inl (none, lv, vR t M.2.2.2.2.1.length :: st, (M.1, M.2.1, M.2.2.1, M.2.2.2.1, M.2.2.2.2.1 ++ [t], M.2.2.2.2.2))) else none))
  | .fload t => pN gr (pI st fun n st => pB (Nat.beq (akind t) 3) (if n = alen t then K (.inl (none, lv, vR t M.2.2.2.2.1.length :: st, (M.1, M.2.1, M.2.2.1, M.2.2.2.1, M.2.2.2.2.1 ++ [t], M.2.2.2.2.2))) else none))
  | .multianewarray t u => pN gr (pI st fun n st => pI st fun m st => pB (Nat.beq (akind t) 4 && Nat.beq (akind u) 1) (if n = alen u ∧ m = alen t then K (.inl (none, lv, vR t M.2.2.2.2.1.length :: st,
      (M.1, M.2.1, M.2.2.1, (fun t' a i => bif Nat.beq t' t && (Nat.beq a M.2.2.2.2.1.length && Nat.ble (i + 1) (alen t)) then some (u, a + 1 + i) else M.2.2.2.1 t' a i), M.2.2.2.2.1 ++ t :: List.replicate (alen t) u, M.2.2.2.2.2))) else none))
  | .invokedynamic f => pN gr (pR st fun t2 a2 st => pR st fun t a st => pB (Nat.beq t (f / 100) && Nat.ble t2 89) (K (.inl (none, lv, st, (M.1, M.2.1, (fun f' b => bif Nat.beq f' f && Nat.beq b a then some (t2, a2) else M.2.2.1 f' b), M.2.2.2)))))
  | .aastore => pN gr (pR st fun t2 a2 st => pI st fun i st => pR st fun t a st => pB (Nat.beq (akind t) 3 && Nat.beq t2 (acomp t)) (if 0 ≤ i ∧ i < alen t then K (.inl (none, lv, st, (M.1, M.2.1, M.2.2.1, (fun t' b j => bif Nat.beq t' t && (Nat.beq b a && Nat.beq j i.toNat) then some (t2, a2) else M.2.2.2.1 t' b j), M.2.2.2.2))) else none))
  | .ireturn => pI st fun x st => match st with
    | [] => K (.inr (.inr (some (vI x))))
    | _ => none
  | .freturn => pI st fun x st => match st with
    | [] => if x = 0 ∨ x = 1 then K (.inr (.inr (some (vI x)))) else none
    | _ => none
  | .lreturn => pL st fun x st => match st with
    | [] => K (.inr (.inr (some (vL x))))
    | _ => none
  | .areturn => pR st fun t a st => match st with
    | [] => K (.inr (.inr (some (vR t a))))
    | _ => none
  | .return_ => match st with
    | [] => K (.inr (.inr none))
    | _ => none
  | _ => none
end Act

section Fun
def bV (o : Option Res) (f : Mem → Option Res) : Option Res := match o with
  | some (none, M) => f M
  | _ => none
def bI (o : Option Res) (f : Int → Mem → Option Res) : Option Res := match o with
  | some (some (.inl x), M) => f x M
  | _ => none
def bL (o : Option Res) (f : Int → Mem → Option Res) : Option Res := match o with
  | some (some (.inr (.inl x)), M) => f x M
  | _ => none
def bR (k : Nat) (o : Option Res) (f : Nat → Mem → Option Res) : Option Res := match o with
  | some (some (.inr (.inr (t, a))), M) => pB (Nat.beq t k) (f a M)
  | _ => none
/-- a method: its rows, arguments, its class + 1 (0: static) and 100 times its arguments' words, what it answers (0 none, 1 int, 2 long, 3 + tag a reference) -/
abbrev Mth : Type := List Row × Nat × Nat × Nat
def tagOf (v : mv) : Nat := match v with
  | .inr (.inr (t, _)) => t
  | _ => 99
abbrev Fn : Type := Nat → List Row → List Row → LV → List mv → Mem → Option Res
variable (gr : Gr) (mt : Nat → Mth)
def dpt (rc : Bool) (d : Nat) (f : Nat → Option Res) : Option Res := match rc with
  | false => f d
  | true => match d with
    | 0 => none
    | d + 1 => f d
/-- the receiver's class, how many, their words, and what stays on the stack -/
def okC (m : Mth) (st : List mv) : Bool := Nat.ble m.2.1 st.length && (Nat.ble (wsum (st.drop m.2.1)) 8 && (Nat.beq (wsum (st.take m.2.1)) (m.2.2.1 / 100) && (Nat.beq (m.2.2.1 % 100) 0 || Nat.beq (tagOf (st.getD (m.2.1 - 1) (vI 0)) + 1) (m.2.2.1 % 100))))
def KK (self callee : Fn) (d : Nat) (all tl : List Row) (M : Mem) (o : Out) : Option Res := match o with
  | .inl (none, lv, st, M) => self d all tl lv st M
  | .inl (some ix, lv, st, M) => self d all (all.drop ix) lv st M
  | .inr (.inl (rc, j, lv, st)) => pB (okC (mt j) st) (dpt rc d fun d' => match (mt j).2.2.2 with
    | 0 => bV (callee d' (mt j).1 (mt j).1 (ent 0 (st.take (mt j).2.1).reverse) [] M) fun M => self d all tl lv (st.drop (mt j).2.1) M
    | 1 => bI (callee d' (mt j).1 (mt j).1 (ent 0 (st.take (mt j).2.1).reverse) [] M) fun x M => self d all tl lv (vI x :: st.drop (mt j).2.1) M
    | 2 => bL (callee d' (mt j).1 (mt j).1 (ent 0 (st.take (mt j).2.1).reverse) [] M) fun x M => self d all tl lv (vL x :: st.drop (mt j).2.1) M
    | k + 3 => bR k (callee d' (mt j).1 (mt j).1 (ent 0 (st.take (mt j).2.1).reverse) [] M) fun a M => self d all tl lv (vR k a :: st.drop (mt j).2.1) M)
  | .inr (.inr r) => some (r, M)
def FF (self callee : Fn) : Fn := fun d all rows lv st M => match rows with
  | [] => none
  | (_, kp, i) :: tl => act gr i (lvCut kp lv) st M (KK mt self callee d all tl M)
def run : Nat → Fn
  | 0 => fun _ _ _ _ _ _ => none
  | n + 1 => FF gr mt (run n) (run n)
end Fun
