/-! the words that the links need, and what is known at every method's start -/
abbrev Q4 : Type := Nat × Nat × Nat × Nat
def fldN (f : Nat) : String × String × String × Bool := (clsT (f / 100)).2.1 (f % 100)
def flW (q : Q4) : Cond := .fieldLink (ownN q.1) q.2.1 (clsT (q.2.2.1 / 100)).1 (fldN q.2.2.1).2.1 (fldN q.2.2.1).2.2.1
def mlW (q : Q4) : Cond := .methodLink (ownN q.1) q.2.1 (MI q.2.2.1).1
def mnW (q : Q4) : Cond := .methodLinkNest (ownN q.1) q.2.1 (MI q.2.2.1).1 "SeaFire"
def clW (q : Q4) : Cond := .classLink (ownN q.1) q.2.1 (clsT q.2.2.1).1
def ctW (q : Nat × Nat × Int × Nat) : Cond := .constant (ownN q.1) q.2.1 (Int32.ofInt q.2.2.1)
def c2W (q : Nat × Nat × Int × Nat) : Cond := .constantLong (ownN q.1) q.2.1 (Int64.ofInt q.2.2.1)
def obW (q : Nat × Nat × Nat) : Cond := .methodLink (ownN q.1) q.2.1 objectInit
def acW (q : Nat × Nat × Nat) : Cond := .methodLink (ownN q.1) q.2.1 arraycopyName
def inTbl (p : Nat) (w : Cond) : Bool := decide (lw_tbl[p]? = some w) && goodWord w
theorem flT_ok : flT.all (fun q => inTbl q.2.2.2 (flW q) && decide ((fldN q.2.2.1).1 = (clsT (q.2.2.1 / 100)).1 ∧ q.2.2.1 / 100 < 13 ∧ q.2.2.1 % 100 < nf (q.2.2.1 / 100))) = true := by decide +kernel
theorem mlT_ok0 : ((mlT.drop 0).take 60).all (fun q => inTbl q.2.2.2 (mlW q)) = true := by decide +kernel
theorem mlT_ok1 : ((mlT.drop 60).take 60).all (fun q => inTbl q.2.2.2 (mlW q)) = true := by decide +kernel
theorem mlT_ok2 : ((mlT.drop 120).take 60).all (fun q => inTbl q.2.2.2 (mlW q)) = true := by decide +kernel
theorem mlT_ok3 : ((mlT.drop 180).take 60).all (fun q => inTbl q.2.2.2 (mlW q)) = true := by decide +kernel
theorem mlT_ok4 : ((mlT.drop 240).take 60).all (fun q => inTbl q.2.2.2 (mlW q)) = true := by decide +kernel
theorem mlT_ok5 : (mlT.drop 300).all (fun q => inTbl q.2.2.2 (mlW q)) = true := by decide +kernel
theorem all_cut {α : Type} {p : α → Bool} {l : List α} (n k m : Nat) (hm : n + k = m) (h1 : ((l.drop n).take k).all p = true) (h2 : (l.drop m).all p = true) : (l.drop n).all p = true := by
  subst hm
  rw [← List.take_append_drop k (l.drop n), List.all_append, h1, List.drop_drop, Bool.true_and]
  exact h2
theorem mlT_ok : mlT.all (fun q => inTbl q.2.2.2 (mlW q)) = true := all_cut (l := mlT) 0 60 60 rfl mlT_ok0 (all_cut 60 60 120 rfl mlT_ok1 (all_cut 120 60 180 rfl mlT_ok2 (all_cut 180 60 240 rfl mlT_ok3 (all_cut 240 60 300 rfl mlT_ok4 mlT_ok5))))
theorem mnT_ok : mnT.all (fun q => decide (lw_tbl[q.2.2.2]? = some (mnW q))) = true := by decide +kernel
theorem clT_ok : clT.all (fun q => inTbl q.2.2.2 (clW q) && decide (q.2.2.1 < 13)) = true := by decide +kernel
theorem ctT_ok : ctT.all (fun q => inTbl q.2.2.2 (ctW q)) = true := by decide +kernel
theorem c2T_ok : c2T.all (fun q => inTbl q.2.2.2 (c2W q)) = true := by decide +kernel
theorem obT_ok : obT.all (fun q => inTbl q.2.2 (obW q)) = true := by decide +kernel
theorem acT_ok : acT.all (fun q => inTbl q.2.2 (acW q)) = true := by decide +kernel
