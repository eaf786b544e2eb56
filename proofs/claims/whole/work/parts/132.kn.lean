/-- the classes' own words -/
theorem cls_ok : (List.range 13).all (fun k => decide (∀ w ∈ u_ws (clsT k).1 (clsT k).2.1 (clsT k).2.2, w ∈ lw_tbl ∧ goodWord w = true)) = true := by decide +kernel
theorem clsI_ok : (List.range 13).all (fun k => decide ((Cond.instantiable (clsT k).1 (nf k) ∈ lw_tbl ∧ goodWord (Cond.instantiable (clsT k).1 (nf k)) = true) ∧ (Cond.initialized (clsT k).1 ∈ lw_tbl ∧ goodWord (Cond.initialized (clsT k).1) = true))) = true := by decide +kernel
/-- what is known at each method's start: the tables' words, the classes' numbers, and what else stays -/
def Kn (D : va_G) (Xt : State → Prop) (U : State) : Prop := (∀ w ∈ lw_tbl, goodWord w = true → ∀ a : Array Value, w.before a U = true) ∧ (∀ q ∈ mnT, ∀ a : Array Value, (mnW q).before a U = true) ∧ va_K D vwCl [] U ∧ Xt U
def XtOk (Xt : State → Prop) : Prop := ∀ s U : State, s.WarmedH U.vm → Xt s → Xt U
theorem Kn.warm {D : va_G} {Xt : State → Prop} (hX : XtOk Xt) {s U : State} (hW : s.WarmedH U.vm) (h : Kn D Xt s) : Kn D Xt U := by
  refine ⟨fun w hw hg a => word_at hW (good_of_word hg) (h.1 w hw hg #[]), fun q hq a => ?_, va_K.moved hW.alike h.2.2.1, hX s U hW h.2.2.2⟩
  have h1 : va_Nw (mnW q) s := h.2.1 q hq #[]
  exact va_Nw.use rfl (va_Nw.warmM hW h1)
theorem Kn.tbl {D : va_G} {Xt : State → Prop} {U : State} (h : Kn D Xt U) {pos : Nat} {w : Cond} (hw : inTbl pos w = true) (a : Array Value) : w.before a U = true := by
  unfold inTbl at hw
  simp only [Bool.and_eq_true, decide_eq_true_eq] at hw
  exact h.1 w (List.mem_of_getElem? hw.1) hw.2 a
theorem Kn.fl {D : va_G} {Xt : State → Prop} {U : State} (h : Kn D Xt U) {o k f : Nat} (hq : flH o k f = true) (a : Array Value) : (Cond.fieldLink (ownN o) k (clsT (f / 100)).1 (fldN f).2.1 (fldN f).2.2.1).before a U = true ∧ (fldN f).1 = (clsT (f / 100)).1 ∧ f / 100 < 13 ∧ f % 100 < nf (f / 100) := by
  unfold flH at hq
  obtain ⟨q, hm, h1⟩ := List.any_eq_true.mp hq
  simp only [Bool.and_eq_true, beq_iff_eq] at h1
  obtain ⟨e1, e2, e3⟩ := h1
  have h2 := List.all_eq_true.mp flT_ok q hm
  simp only [Bool.and_eq_true, decide_eq_true_eq] at h2
  have h3 := h.tbl h2.1 a
  subst e1; subst e2; subst e3
  exact ⟨h3, h2.2⟩
theorem Kn.ct {D : va_G} {Xt : State → Prop} {U : State} (h : Kn D Xt U) {o k : Nat} {v : Int} (hq : ctH o k v = true) (a : Array Value) : (Cond.constant (ownN o) k (Int32.ofInt v)).before a U = true := by
  unfold ctH at hq
  obtain ⟨q, hm, h1⟩ := List.any_eq_true.mp hq
  simp only [Bool.and_eq_true, beq_iff_eq] at h1
  obtain ⟨e1, e2, e3⟩ := h1
  have h3 := h.tbl (List.all_eq_true.mp ctT_ok q hm) a
  subst e1; subst e2; subst e3
  exact h3
theorem Kn.c2 {D : va_G} {Xt : State → Prop} {U : State} (h : Kn D Xt U) {o k : Nat} {v : Int} (hq : c2H o k v = true) (a : Array Value) : (Cond.constantLong (ownN o) k (Int64.ofInt v)).before a U = true := by
  unfold c2H at hq
  obtain ⟨q, hm, h1⟩ := List.any_eq_true.mp hq
  simp only [Bool.and_eq_true, beq_iff_eq] at h1
  obtain ⟨e1, e2, e3⟩ := h1
  have h3 := h.tbl (List.all_eq_true.mp c2T_ok q hm) a
  subst e1; subst e2; subst e3
  exact h3
theorem Kn.ml {D : va_G} {Xt : State → Prop} {U : State} (h : Kn D Xt U) {o k j : Nat} (hq : mlH o k j = true) (a : Array Value) : (Cond.methodLink (ownN o) k (MI j).1).before a U = true := by
  unfold mlH at hq
  obtain ⟨q, hm, h1⟩ := List.any_eq_true.mp hq
  simp only [Bool.and_eq_true, beq_iff_eq] at h1
  obtain ⟨e1, e2, e3⟩ := h1
  have h3 := h.tbl (List.all_eq_true.mp mlT_ok q hm) a
  subst e1; subst e2; subst e3
  exact h3
theorem Kn.mn {D : va_G} {Xt : State → Prop} {U : State} (h : Kn D Xt U) {o k j : Nat} (hq : mnH o k j = true) (a : Array Value) : (Cond.methodLinkNest (ownN o) k (MI j).1 "SeaFire").before a U = true := by
  unfold mnH at hq
  obtain ⟨q, hm, h1⟩ := List.any_eq_true.mp hq
  simp only [Bool.and_eq_true, beq_iff_eq] at h1
  obtain ⟨e1, e2, e3⟩ := h1
  have h3 := h.2.1 q hm a
  subst e1; subst e2; subst e3
  exact h3
theorem Kn.ob {D : va_G} {Xt : State → Prop} {U : State} (h : Kn D Xt U) {o k : Nat} (hq : obH o k = true) (a : Array Value) : (Cond.methodLink (ownN o) k objectInit).before a U = true := by
  unfold obH at hq
  obtain ⟨q, hm, h1⟩ := List.any_eq_true.mp hq
  simp only [Bool.and_eq_true, beq_iff_eq] at h1
  obtain ⟨e1, e2⟩ := h1
  have h3 := h.tbl (List.all_eq_true.mp obT_ok q hm) a
  subst e1; subst e2
  exact h3
theorem Kn.cw {D : va_G} {Xt : State → Prop} {U : State} (h : Kn D Xt U) {t : Nat} (ht : t < 13) (a : Array Value) : ∀ w ∈ u_ws (clsT t).1 (clsT t).2.1 (clsT t).2.2, w.before a U = true := by
  intro w hw
  have h1 := List.all_eq_true.mp cls_ok t (List.mem_range.mpr ht)
  simp only [decide_eq_true_eq] at h1
  exact h.1 w (h1 w hw).1 (h1 w hw).2 a
