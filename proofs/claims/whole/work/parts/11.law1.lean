/-- the first n rows of what is left -/
def chkN (own maxL rk : Nat) (rt : Option FieldType) (nm : String) (cc : ByteArray) (all : List Row) : Nat → List Row → Bool
  | 0, _ => true
  | _ + 1, [] => true
  | n + 1, (pc, kp, i) :: tl => (match decode cc pc with
    | .ok (raw, len) => okI own maxL rk rt nm all pc len raw i && (noFall i || decide (headPc tl = some (pc + len)))
    | .error _ => false) && chkN own maxL rk rt nm cc all n tl
abbrev lawN (a n : Nat) : Bool := chkN 13 4 12 (some .boolean) "law" code r_law_law n (r_law_law.drop a)
theorem law_0 : lawN 0 40 = true := by decide +kernel
theorem law_40 : lawN 40 40 = true := by decide +kernel
