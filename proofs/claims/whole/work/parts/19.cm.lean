/-! the induction: what the small machine does, the machine does -/
theorem math_in : (List.range 384).all (fun j => decide ((MI j).1.cls = "java/lang/Math" → (MI j).1 ∈ [(⟨"java/lang/Math", "min", "(II)I"⟩ : MethodName), ⟨"java/lang/Math", "max", "(II)I"⟩, ⟨"java/lang/Math", "max", "(JJ)J"⟩, ⟨"java/lang/Math", "abs", "(J)J"⟩])) = true := by decide +kernel
theorem math_ok {j : Nat} (h : j < 384) (h1 : (MI j).1.cls = "java/lang/Math") : plainFor (MI j).1 = true := by
  have h2 := List.all_eq_true.mp math_in j (List.mem_range.mpr h)
  exact math_plain (of_decide_eq_true h2 h1)
def RowOk (j : Nat) : Prop := ∀ (ix pc : Nat) (kp : Option (List Nat)) (i : Instr) (tl : List Row), (MT j).1.drop ix = (pc, kp, i) :: tl → ∃ raw len, decode (MI j).2.1 pc = .ok (raw, len) ∧ okI (MI j).2.2.2.2.1 (MI j).2.2.1 (MI j).2.2.2.2.2.1 (MI j).2.2.2.1 (MI j).1.name (MT j).1 pc len raw i = true ∧ (noFall i = true ∨ headPc tl = some (pc + len))
def retK (rt : Option FieldType) (raw : Instr) (r : Option mv) : Prop := match r with
  | none => raw = .return_ ∧ rt = none
  | some (.inl x) => raw = .ireturn ∧ (rt = some .int ∨ (rt = some .boolean ∧ (x = 0 ∨ x = 1)))
  | some (.inr (.inl _)) => raw = .lreturn ∧ rt = some .long
  | some (.inr (.inr _)) => raw = .areturn ∧ ∃ n, rt = some (.object n)
def specI (i : Instr) : Bool := match i with
  | .faload | .fastore | .dastore | .daload | .castore | .saload | .caload | .dadd | .dsub | .new _ | .dload _ | .fload _ | .multianewarray _ _ | .invokedynamic _ | .aastore => true
  | _ => false
section Sim
variable (l : Launch) (ad : Nat → Nat → Nat) (base : Nat) (D : va_G) (H0 : Heap) (gr : Gr) (sc : (Nat → Int) × Nat) (Xt : State → Prop)
def CX (j d : Nat) (p : Program) (R : Room) (s : State) (m : MethodId) (meth : Method) (c : Code) : Prop := p.tables.exec = Jvm.exec ∧ c.code = (MI j).2.1 ∧ c.maxLocals = (MI j).2.2.1 ∧ s.vm.findClass (ownN (MI j).2.2.2.2.1) = some m.cls ∧ Kn D Xt s ∧ meth.name = (MI j).1.name ∧ rkO j + 64 * d ≤ R.frames ∧ 40 * (rkO j + 64 * d) ≤ R.locals
def RTK (p : Program) (e : Env) (R : Room) (s : State) (m : MethodId) (args : Array Value) (below : List Frame) (meth : Method) (c : Code) (Q : State → Prop) (N0 S0 j : Nat) (r : Option mv) (Mf : Mem) : Prop :=
  ∀ (pc : Nat) (ls : Array Slot) (H : Heap) (locs : List Loc) (raw : Instr), decode (MI j).2.1 pc = .ok (raw, 1) → retK (MI j).2.2.2.1 raw r → HR ad base D H0 gr s Mf H → MOk gr sc Mf → (∀ v, r = some v → Good Mf v) → (∀ q ∈ locs, base ≤ q.base) → W p l e R s m args below meth c H locs (cN Mf - N0) (sN Mf - S0) Q (F0 m pc ls (r.toList.map (enc ad)))
def SIM (n : Nat) : Prop := ∀ (j d : Nat) (rows : List Row) (lv : LV) (st : List mv) (M : Mem) (r : Option mv) (Mf : Mem), RowOk j → run gr MT n d (MT j).1 rows lv st M = some (r, Mf) → (∃ ix, rows = (MT j).1.drop ix) →
  ∀ (p : Program) (e : Env) (R : Room) (s : State) (m : MethodId) (args : Array Value) (below : List Frame) (meth : Method) (c : Code) (Q : State → Prop) (N0 S0 pc : Nat) (ls : Array Slot) (H : Heap) (locs : List Loc), headPc rows = some pc → CX D Xt j d p R s m meth c → RTK l ad base D H0 gr sc p e R s m args below meth c Q N0 S0 j r Mf →
    N0 ≤ cN M → S0 ≤ sN M → cN Mf - N0 ≤ R.cells → sN Mf - S0 ≤ R.slots → FR ad base D H0 gr sc (MI j).2.2.1 s lv st M ls H locs → W p l e R s m args below meth c H locs (cN M - N0) (sN M - S0) Q (F0 m pc ls (st.map (enc ad)))
/-- what is asked of the few instructions that are done apart -/
def SpO : Prop := ∀ (i : Instr), specI i = true → ∀ (j d : Nat) (p : Program) (e : Env) (R : Room) (s : State) (m : MethodId) (args : Array Value) (below : List Frame) (meth : Method) (c : Code) (Q : State → Prop) (N0 S0 pc : Nat) (ls : Array Slot) (H : Heap) (locs : List Loc) (lv : LV) (st : List mv) (M : Mem) (res : Res) (raw : Instr) (len : Nat),
  CX D Xt j d p R s m meth c → decode (MI j).2.1 pc = .ok (raw, len) → okI (MI j).2.2.2.2.1 (MI j).2.2.1 (MI j).2.2.2.2.2.1 (MI j).2.2.2.1 (MI j).1.name (MT j).1 pc len raw i = true → FR ad base D H0 gr sc (MI j).2.2.1 s lv st M ls H locs → N0 ≤ cN M → S0 ≤ sN M →
  ∀ K : Out → Option Res, act gr i lv st M K = some res → (∀ lv' st' M', (∃ z, tgs M' = tgs M ++ z) → K (.inl (none, lv', st', M')) = some res → (cN M' - N0 ≤ R.cells ∧ sN M' - S0 ≤ R.slots) ∧ NX p l e R s m args below meth c Q ad base D H0 gr sc (MI j).2.2.1 N0 S0 lv' st' M' (pc + len)) →
  W p l e R s m args below meth c H locs (cN M - N0) (sN M - S0) Q (F0 m pc ls (st.map (enc ad)))
theorem met_ofWF {y : MethodName} {ws ws' : List Cond} {rm : Room} {Pc : Array Value → State → Prop} {Qc : Array Value → State → Outcome → State → Prop} {mc ms : Nat} {free : Addr → Prop} {cc : ByteArray} {maxL : Nat} {ret : Option FieldType}
    (hy : plainFor y = true) (hw : ws = Cond.code y cc maxL ret :: ws')
    (body : ∀ p e s m args below meth c s₁, BodyLoose p l y (headSpec ws rm) cc maxL ret e s m args below meth c s₁ → c.maxLocals = maxL → Pc args s →
      W p l e (headSpec ws rm).room s m args below meth c s.heap [] 0 0 (MQ below Qc args s mc ms free) (entryFrame m args maxL)) : Met l y ws rm Pc Qc mc ms free := by
  refine MetFree.of_bodySF (code := cc) (maxLocals := maxL) (ret := ret) hy ?_ ?_
  · intro args s m h hn
    obtain ⟨meth, c, h1, h2, h3, h4, h5, h6, -, -⟩ := Cond.code_spec hn (atoms_spec (ws := ws) h _ (by rw [hw]; exact List.mem_cons_self))
    exact ⟨meth, c, h1, h2, h3, h4, h5, h6⟩
  · intro p e s m args below meth c s₁ B hml hP _
    have hh0 : s₁.heap = s.heap := by rw [B.state]; rfl
    obtain ⟨t, a1, q, b1, b2, b3⟩ := body p e s m args below meth c s₁ B hml hP s₁ hh0 (Stand.of_body B)
    exact ⟨t, q, a1, b1, b2, ⟨b3.1, b3.2⟩⟩
theorem plain_ok {j : Nat} (h : j < 384) : plainFor (MI j).1 = true := by
  have hmo := mOK_ok h
  unfold mOK at hmo
  simp only [Bool.and_eq_true] at hmo
  have w4 := hmo.2.2.2.1
  simp only [decide_eq_true_eq] at w4
  rcases w4.2.2.1 with h1 | h1
  · exact plainFor_of_name h1
  · exact math_ok h h1
theorem lg_sl_len : ∀ vs : List mv, (lg_sl (vs.map (enc ad))).length = wsum vs
  | [] => rfl
  | v :: t => by
    have h := enc_cat ad v
    show (lg_sl (enc ad v :: t.map (enc ad))).length = (bif isL v then 2 else 1) + wsum t
    rw [← lg_sl_len t]
    unfold lg_sl
    rw [List.flatMap_cons, List.length_append, h]
    cases isL v <;> rfl
set_option maxHeartbeats 4000000 in
theorem cmet_of (hX : XtOk Xt) {n : Nat} (hS : SIM l ad base D H0 gr sc Xt n) {j d : Nat} (hj : j < 384) (hro : RowOk j) {vs : List mv} {M : Mem} {r : Option mv} {Mf : Mem} (hrun : run gr MT n d (MT j).1 (MT j).1 (ent 0 vs) [] M = some (r, Mf)) (hpc : headPc (MT j).1 = some 0)
    (hw : wsum vs ≤ (MI j).2.2.1) (hg : ∀ v ∈ vs, Good M v) (hM : MOk gr sc M) : CMet ad base D H0 gr sc Xt l j (rkO j + 64 * d) vs M r Mf := by
  have hmo := mOK_ok hj
  unfold mOK at hmo
  simp only [Bool.and_eq_true] at hmo
  obtain ⟨w1, w2, w3, w4, w5⟩ := hmo
  simp only [decide_eq_true_eq] at w4
  refine met_ofWF l (cc := (MI j).2.1) (maxL := (MI j).2.2.1) (ret := (MI j).2.2.2.1) (plain_ok hj) rfl ?_
  intro p e s m args below meth c s₁ B hml hv
  obtain ⟨rfl, hKn, hH⟩ := hv
  have hlocks := B.notSynchronized
  have hr := B.returns
  have hl := lv_entry (vs.map (enc ad)) (n := (MI j).2.2.1) (by rw [lg_sl_len]; exact hw)
  rw [encP_args] at hl
  rw [lg_entry_eq]
  generalize (lg_sl (vs.map (enc ad)) ++ List.replicate ((MI j).2.2.1 - (lg_sl (vs.map (enc ad))).length) Slot.unset).toArray = ls at hl ⊢
  refine W.cs (by omega : 0 = cN M - cN M) (by omega : 0 = sN M - sN M) ?_
  have hgood : ∀ q ∈ ent 0 vs, Good M q.2 := by
    have gen : ∀ (us : List mv) (k : Nat), (∀ v ∈ us, Good M v) → ∀ q ∈ ent k us, Good M q.2 := by
      intro us
      induction us with
      | nil => intro k _ q hq; cases hq
      | cons u t ih =>
        intro k hk q hq
        rcases List.mem_cons.mp hq with rfl | hq
        · exact hk u List.mem_cons_self
        · exact ih _ (fun v hv => hk v (List.mem_cons_of_mem _ hv)) q hq
    exact gen vs 0 hg
  refine hS j d _ _ _ _ r Mf hro hrun ⟨0, rfl⟩ p e _ s m _ below meth c _ (cN M) (sN M) 0 ls s.heap [] hpc ⟨B.exec, B.bytes, hml, ?_, hKn, (name_of_methodNamed B.named B.method).1, Nat.le_refl _, Nat.le_refl _⟩ ?_ (Nat.le_refl _) (Nat.le_refl _) (Nat.le_refl _) (Nat.le_refl _) ⟨hl, hgood, (fun v hv => by cases hv), hH, hM, (fun q hq => by cases hq)⟩
  · rw [w4.2.2.2.2.2]
    exact findClass_of_methodNamed B.named
  · intro pc ls H locs raw hd hk hH' hM' hgd hlo
    have post : ∀ t : State, t.heap = H → s.WarmedH t.vm → CQc ad base D H0 gr sc r Mf (vs.map (enc ad)).toArray s (.returned (r.map (enc ad))) t := fun t ht hW => ⟨rfl, by rw [ht]; exact HR.moved hW.alike hH', hM', hgd⟩
    rcases r with _ | x | x | ⟨t, a⟩
    · obtain ⟨rfl, hrt⟩ := hk
      rw [hrt] at hr
      exact W.vret B.exec B.bytes hr post hlo hd
    · obtain ⟨rfl, hrt⟩ := hk
      rcases hrt with hrt | ⟨hrt, hx⟩
      · rw [hrt] at hr
        exact W.iret B.exec B.bytes hr post hlo hd
      · rw [hrt] at hr
        refine W.zret B.exec B.bytes hr ?_ post hlo hd
        rcases hx with rfl | rfl <;> rfl
    · obtain ⟨rfl, hrt⟩ := hk
      rw [hrt] at hr
      exact W.lret B.exec B.bytes hr post hlo hd
    · obtain ⟨rfl, nn, hrt⟩ := hk
      rw [hrt] at hr
      exact W.aret B.exec B.bytes hr (Or.inl ⟨nn, rfl⟩) (Or.inr ⟨_, rfl⟩) post hlo hd
end Sim
