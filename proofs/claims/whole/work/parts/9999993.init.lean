/-! the two objects are made: the small machine itself says what comes of it -/
def scE : (Nat → Int) × Nat := (fun _ => 0, 0)
def mem0 : Mem := (fun _ _ => 0, fun _ _ => 0, fun _ _ => none, fun _ _ _ => none, [], scE)
def mkX : Option Res := run none MT 20000 0 (MT 0).1 (MT 0).1 (ent 0 [vR 11 0]) [] (addT mem0 [11])
def mkM (M : Mem) : Option Res := run none MT 20000 0 (MT 211).1 (MT 211).1 (ent 0 [vR 12 179]) [] (addT M [12])
def eqO (a b : Option (Nat × Nat)) : Bool := match a, b with
  | none, none => true
  | some p, some q => Nat.beq p.1 q.1 && Nat.beq p.2 q.2
  | _, _ => false
/-- the graph is the closed one -/
def okG (M : Mem) : Bool := (List.range 191).all fun a => match (tgs M)[a]? with
  | some t => bif Nat.ble 20 t then (bif Nat.beq (akind t) 3 || Nat.beq (akind t) 4 then (List.range (alen t)).all fun i => eqO (M.2.2.2.1 t a i) (EF t a i) else true) else (List.range (nf t)).all fun k => bif Nat.beq (fkd (100 * t + k)) 2 then eqO (M.2.2.1 (100 * t + k) a) (GF (100 * t + k) a) else true
  | none => false
def okI0 (M : Mem) : Bool := decide (M.1 0 9 = -1 ∧ M.1 0 10 = -1 ∧ M.1 179 10 = -1 ∧ M.1 179 11 = -1) && ((List.range 19).all fun k => decide (k = 9 ∨ k = 10 ∨ M.1 0 k = 0)) && ((List.range 43).all fun k => decide (k = 10 ∨ k = 11 ∨ M.1 179 k = 0))
def okL0 (M : Mem) : Bool := decide (M.2.1 0 1 = 0 ∧ M.2.1 0 2 = 1 ∧ M.2.1 179 2 = 0 ∧ M.2.1 179 3 = 1) && ((List.range 28).all fun k => decide (M.2.1 4 k = keyC.getD k 0))
def okE0 (M : Mem) : Bool := decide (M.1 11 0 = 70 ∧ M.1 11 1 = 100 ∧ M.1 184 3 = 70 ∧ M.1 184 4 = 100) && ((List.range 10).all fun k => decide (k < 2 ∨ M.1 11 k = 0)) && ((List.range 345).all fun k => decide (k = 3 ∨ k = 4 ∨ M.1 184 k = 0)) && decide (M.1 15 5 = 0 ∧ M.1 15 7 = 0) && ((List.range 4).all fun t => decide (M.1 (87 + 2 * t) 1 = -1 ∧ M.1 181 t = -1))
def okR (o : Option Res) (f : Mem → Bool) : Bool := match o with
  | some (none, M) => f M
  | _ => false
theorem init_ok : okR mkX (fun M => Nat.beq (tgs M).length 179 && okR (mkM M) fun M2 => Nat.beq (tgs M2).length 191 && (Nat.ble (sN M2) 7302250 && (okG M2 && (okI0 M2 && (okL0 M2 && okE0 M2))))) = true := by decide +kernel
