/-! the special instructions: the script, the static row, copies -/
section Sp
variable (l : Launch) (ad : Nat → Nat → Nat) (base : Nat) (D : va_G) (H0 : Heap) (gr : Gr) (sc : (Nat → Int) × Nat) (Xt : State → Prop)
def SpP (i : Instr) : Prop := ∀ (j d : Nat) (p : Program) (e : Env) (R : Room) (s : State) (m : MethodId) (args : Array Value) (below : List Frame) (meth : Method) (c : Code) (Q : State → Prop) (N0 S0 pc : Nat) (ls : Array Slot) (H : Heap) (locs : List Loc) (lv : LV) (st : List mv) (M : Mem) (res : Res) (raw : Instr) (len : Nat),
  CX D Xt j d p R s m meth c → decode (MI j).2.1 pc = .ok (raw, len) → okI (MI j).2.2.2.2.1 (MI j).2.2.1 (MI j).2.2.2.2.2.1 (MI j).2.2.2.1 (MI j).1.name (MT j).1 pc len raw i = true → FR ad base D H0 gr sc (MI j).2.2.1 s lv st M ls H locs → N0 ≤ cN M → S0 ≤ sN M →
  ∀ K : Out → Option Res, act gr i lv st M K = some res → (∀ lv' st' M', (∃ z, tgs M' = tgs M ++ z) → K (.inl (none, lv', st', M')) = some res → (cN M' - N0 ≤ R.cells ∧ sN M' - S0 ≤ R.slots) ∧ NX p l e R s m args below meth c Q ad base D H0 gr sc (MI j).2.2.1 N0 S0 lv' st' M' (pc + len)) →
  W p l e R s m args below meth c H locs (cN M - N0) (sN M - S0) Q (F0 m pc ls (st.map (enc ad)))
theorem SpO_of (h : ∀ i, specI i = true → SpP l ad base D H0 gr sc Xt i) : SpO l ad base D H0 gr sc Xt := fun i hi => h i hi
end Sp
def nestS : Cond := .fieldLinkNest "SeaFire$Empire" 231 "SeaFire" "SETS_WITH" "[J" "SeaFire"
/-- what stays as it is: the script's cell, the static row, the rows' classes -/
def XtD (base bs Ls aS : Nat) (xs : Nat → Int32) (H0 : Heap) (St : State → Prop) (s : State) : Prop :=
  va_X bs Ls xs s H0 ∧ va_Nw nestS s ∧ va_Z "SeaFire" "SETS_WITH" "[J" (.ref aS) (fun q => base ≤ q) s H0 ∧ va_T .long aS 6 (fun j => .long (Int64.ofInt (setsF.getD j 0))) (fun q => base ≤ q) s H0 ∧ (∀ t, akind t = 3 → va_AO (clsT (acomp t)).1 s) ∧ St s
theorem XtD.ok {base bs Ls aS : Nat} {xs : Nat → Int32} {H0 : Heap} {St : State → Prop} (hSt : XtOk St) : XtOk (XtD base bs Ls aS xs H0 St) := by
  intro s U hW ⟨h1, h2, h3, h4, h5, h7⟩
  exact ⟨h1.moved hW.alike, va_Nw.warmF hW h2, h3.moved hW.alike, h4.moved hW.alike, fun t ht => (h5 t ht).moved hW.alike, hSt s U hW h7⟩
section Sp2
variable {l : Launch} {ad : Nat → Nat → Nat} {base : Nat} {D : va_G} {H0 : Heap} {gr : Gr} {sc : (Nat → Int) × Nat} {Ls bs aS : Nat} {xs : Nat → Int32} {St : State → Prop}
theorem sp_faload (hbs : bs < base) (ha90 : ∀ a, ad 90 a = bs) (hsc : sc = (fun j => (xs j).toInt, Ls)) : SpP l ad base D H0 gr sc (XtD base bs Ls aS xs H0 St) .faload := by
  intro j d p e R s m args below meth c Q N0 S0 pc ls H locs lv st M res raw len hCX hd hok hF hN hS K h hk
  obtain ⟨hx, hb, hml, hown, hKn, hnm, hfr, hlo⟩ := hCX
  obtain ⟨i, s1, rfl, h⟩ := pI_some h
  obtain ⟨t, a, s2, rfl, h⟩ := pR_some h
  obtain ⟨h0, h⟩ := pB_some h
  have ht := Nat.eq_of_beq_eq_true h0
  obtain ⟨hi, h⟩ := if_some h
  obtain ⟨hr1, hl1⟩ := of_decide_eq_true hok
  rw [hr1, hl1] at hd
  have hMs : M.2.2.2.2.2 = sc := hF.2.2.2.2.1.2.2.2.2.2.2
  have ri : rI i := hF.top
  have k := (hk _ _ _ ⟨[], (List.append_nil _).symm⟩ h).2 ls H locs (hF.pop.pop.push (v := vI (M.2.2.2.2.2.1 i.toNat)) (by rw [hMs, hsc]; exact rI_toInt _))
  rw [hMs, hsc] at hi k
  obtain ⟨ca, h1, hP, h3, h4⟩ := hF.2.2.2.1
  obtain ⟨scr, g1, g2, g3, g4, g5⟩ := (hKn.2.2.2.1).kept (h4 bs hbs)
  have hlt : i.toNat < Ls := by have : i < (Ls : Int) := hi.2; omega
  rw [hl1] at k
  show W p l e R s m args below meth c H locs (cN M - N0) (sN M - S0) Q (F0 m pc ls (.int (Int32.ofInt i) :: .ref (ad t a) :: s2.map (enc ad)))
  rw [ht, ha90]
  refine W.iald (v := .int (xs i.toNat)) hx hb g1 g2 g3 (by rw [g4]; exact inI ri hi) (by rw [clampI ri]; exact g5 _ hlt) rfl rfl hd ?_
  have e1 : enc ad (vI ((xs i.toNat).toInt)) = .int (xs i.toNat) := by show Value.int (Int32.ofInt _) = _; rw [ofI]
  rw [← e1]
  exact k
theorem sp_fastore (hbs : bs < base) (hLs : Ls < 2 ^ 31) (ha90 : ∀ a, ad 90 a = bs) (hsc : sc = (fun j => (xs j).toInt, Ls)) : SpP l ad base D H0 gr sc (XtD base bs Ls aS xs H0 St) .fastore := by
  intro j d p e R s m args below meth c Q N0 S0 pc ls H locs lv st M res raw len hCX hd hok hF hN hS K h hk
  obtain ⟨hx, hb, hml, hown, hKn, hnm, hfr, hlo⟩ := hCX
  obtain ⟨t, a, s2, rfl, h⟩ := pR_some h
  obtain ⟨h0, h⟩ := pB_some h
  have ht := Nat.eq_of_beq_eq_true h0
  obtain ⟨hr1, hl1⟩ := of_decide_eq_true hok
  rw [hr1, hl1] at hd
  have hMs : M.2.2.2.2.2 = sc := hF.2.2.2.2.1.2.2.2.2.2.2
  have rL0 : rI (Ls : Int) := by unfold rI; omega
  have k := (hk _ _ _ ⟨[], (List.append_nil _).symm⟩ h).2 ls H locs (hF.pop.push (v := vI (M.2.2.2.2.2.2 : Int)) (by rw [hMs, hsc]; exact rL0))
  rw [hMs, hsc, hl1] at k
  obtain ⟨ca, h1, hP, h3, h4⟩ := hF.2.2.2.1
  obtain ⟨scr, g1, g2, g3, g4, g5⟩ := (hKn.2.2.2.1).kept (h4 bs hbs)
  show W p l e R s m args below meth c H locs (cN M - N0) (sN M - S0) Q (F0 m pc ls (.ref (ad t a) :: s2.map (enc ad)))
  rw [ht, ha90]
  refine W.alen (n := Int32.ofInt (Ls : Int)) hx hb g1 g2 ?_ rfl rfl hd k
  rw [g4]
  apply eI
  rw [toI' rL0]
  exact nI_toInt hLs
theorem sp_dastore (ha91 : ∀ a, ad 91 a = aS) (hsz : H0.size = base) : SpP l ad base D H0 gr sc (XtD base bs Ls aS xs H0 St) .dastore := by
  intro j d p e R s m args below meth c Q N0 S0 pc ls H locs lv st M res raw len hCX hd hok hF hN hS K h hk
  obtain ⟨hx, hb, hml, hown, hKn, hnm, hfr, hlo⟩ := hCX
  obtain ⟨hr1, hw1, hl1⟩ := of_decide_eq_true hok
  rw [hr1, hl1] at hd
  rw [hw1] at hown
  have k := (hk _ _ _ ⟨[], (List.append_nil _).symm⟩ h).2 ls H locs (hF.push (v := vR 91 0) (Or.inl (by omega)))
  rw [hl1] at k
  obtain ⟨ca, h1, hP, h3, h4⟩ := hF.2.2.2.1
  obtain ⟨cf, kf, fi, f, a, cell, z1, z2, z3, z4, z5, z6, z7, z8⟩ := (hKn.2.2.2.2.2.1).kept (H1 := H) (fun q hq _ => h4 q (by omega))
  have e1 : enc ad (vR 91 0) = .ref aS := by show Value.ref (ad 91 0) = _; rw [ha91]
  refine va_WgetsN hx hb hown (va_Nw.use rfl hKn.2.2.2.2.1) z1 z2 z3 z4 z5 (fun e => by rw [e] at z6; cases z6) z7 rfl hd ?_
  rw [← e1]
  exact k
theorem sp_daload (ha91 : ∀ a, ad 91 a = aS) (hsz : H0.size = base) : SpP l ad base D H0 gr sc (XtD base bs Ls aS xs H0 St) .daload := by
  intro j d p e R s m args below meth c Q N0 S0 pc ls H locs lv st M res raw len hCX hd hok hF hN hS K h hk
  obtain ⟨hx, hb, hml, hown, hKn, hnm, hfr, hlo⟩ := hCX
  obtain ⟨i, s1, rfl, h⟩ := pI_some h
  obtain ⟨t, a, s2, rfl, h⟩ := pR_some h
  obtain ⟨h0, h⟩ := pB_some h
  have ht := Nat.eq_of_beq_eq_true h0
  obtain ⟨hi, h⟩ := if_some h
  obtain ⟨hr1, hl1⟩ := of_decide_eq_true hok
  rw [hr1, hl1] at hd
  have ri : rI i := hF.top
  have hall : ∀ q ∈ setsF, rL q := by
    have h9 : setsF.all (fun q => decide (-9223372036854775808 ≤ q ∧ q < 9223372036854775808)) = true := by decide +kernel
    intro q hq
    have h8 := List.all_eq_true.mp h9 q hq
    simp only [decide_eq_true_eq] at h8
    exact h8
  have hlt : i.toNat < 6 := by omega
  have hg : rL (setsF.getD i.toNat 0) := by
    have h6 : i.toNat < setsF.length := hlt
    rw [List.getD_eq_getElem?_getD, List.getElem?_eq_getElem h6]
    exact hall _ (List.getElem_mem h6)
  have k := (hk _ _ _ ⟨[], (List.append_nil _).symm⟩ h).2 ls H locs (hF.pop.pop.push (v := vL (setsF.getD i.toNat 0)) hg)
  rw [hl1] at k
  obtain ⟨ca, h1, hP, h3, h4⟩ := hF.2.2.2.1
  obtain ⟨cell, g1, g2, g3, g4, g5, g6, g7⟩ := (hKn.2.2.2.2.2.2.1).kept (H1 := H) (fun q hq _ => h4 q (by omega))
  show W p l e R s m args below meth c H locs (cN M - N0) (sN M - S0) Q (F0 m pc ls (.int (Int32.ofInt i) :: .ref (ad t a) :: s2.map (enc ad)))
  rw [ht, ha91]
  exact W.lald (v := .long (Int64.ofInt (setsF.getD i.toNat 0))) hx hb g1 g2 g3 (by
    rw [clampI ri]
    rintro (q | q)
    · rw [show (0 : Int32) = Int32.ofInt 0 from rfl, ofI_lt ri rI_0] at q; omega
    · omega) (by rw [clampI ri]; exact g6 _ hlt) rfl rfl hd k
end Sp2
