/-! each instruction: a step of the small machine is a step of the machine -/
theorem pI_some {β : Type} {st : List mv} {f : Int → List mv → Option β} {b : β} (h : pI st f = some b) : ∃ x r, st = vI x :: r ∧ f x r = some b := by
  rcases st with _ | ⟨x | x | ⟨t, a⟩, r⟩
  · cases h
  · exact ⟨x, r, rfl, h⟩
  · cases h
  · cases h
theorem pL_some {β : Type} {st : List mv} {f : Int → List mv → Option β} {b : β} (h : pL st f = some b) : ∃ x r, st = vL x :: r ∧ f x r = some b := by
  rcases st with _ | ⟨x | x | ⟨t, a⟩, r⟩
  · cases h
  · cases h
  · exact ⟨x, r, rfl, h⟩
  · cases h
theorem pR_some {β : Type} {st : List mv} {f : Nat → Nat → List mv → Option β} {b : β} (h : pR st f = some b) : ∃ t a r, st = vR t a :: r ∧ f t a r = some b := by
  rcases st with _ | ⟨x | x | ⟨t, a⟩, r⟩
  · cases h
  · cases h
  · cases h
  · exact ⟨t, a, r, rfl, h⟩
theorem pO_some {β α : Type} {u : Option α} {f : α → Option β} {b : β} (h : pO u f = some b) : ∃ x, u = some x ∧ f x = some b := by
  cases u with
  | none => cases h
  | some x => exact ⟨x, rfl, h⟩
theorem pV_some {β : Type} {v : mv} {f : Int → Option β} {b : β} (h : pV v f = some b) : ∃ x, v = vI x ∧ f x = some b := by
  rcases v with x | x | ⟨t, a⟩
  · exact ⟨x, rfl, h⟩
  · cases h
  · cases h
theorem pW_some {β : Type} {v : mv} {f : Int → Option β} {b : β} (h : pW v f = some b) : ∃ x, v = vL x ∧ f x = some b := by
  rcases v with x | x | ⟨t, a⟩
  · cases h
  · exact ⟨x, rfl, h⟩
  · cases h
theorem pU_some {β : Type} {v : mv} {f : Nat → Nat → Option β} {b : β} (h : pU v f = some b) : ∃ t a, v = vR t a ∧ f t a = some b := by
  rcases v with x | x | ⟨t, a⟩
  · cases h
  · cases h
  · exact ⟨t, a, rfl, h⟩
theorem pB_some {β : Type} {t : Bool} {f : Option β} {b : β} (h : pB t f = some b) : t = true ∧ f = some b := by
  cases t
  · cases h
  · exact ⟨rfl, h⟩
theorem pN_some {β : Type} {gr : Gr} {f : Option β} {b : β} (h : pN gr f = some b) : gr = none ∧ f = some b := by
  cases gr
  · exact ⟨rfl, h⟩
  · cases h
theorem pG_some {β : Type} {gr : Gr} {M : Mem} {f a : Nat} {k : Nat × Nat → Option β} {b : β} (h : pG gr M f a k = some b) : ∃ q, gF gr M f a = some q ∧ k q = some b := by
  cases gr
  · exact pO_some h
  · exact pO_some h
theorem pE_some {β : Type} {gr : Gr} {M : Mem} {t a i : Nat} {k : Nat × Nat → Option β} {b : β} (h : pE gr M t a i k = some b) : ∃ q, gE gr M t a i = some q ∧ k q = some b := by
  cases gr
  · exact pO_some h
  · exact pO_some h
theorem if_some {β : Type} {c : Prop} {hc : Decidable c} {f : Option β} {b : β} (h : (@ite _ c hc f none) = some b) : c ∧ f = some b := by
  by_cases q : c
  · rw [if_pos q] at h; exact ⟨q, h⟩
  · rw [if_neg q] at h; cases h
theorem ifn_some {β : Type} {c : Prop} {hc : Decidable c} {f : Option β} {b : β} (h : (@ite _ c hc none f) = some b) : ¬ c ∧ f = some b := by
  by_cases q : c
  · rw [if_pos q] at h; cases h
  · rw [if_neg q] at h; exact ⟨q, h⟩
def FR (ad : Nat → Nat → Nat) (base : Nat) (D : va_G) (H0 : Heap) (gr : Gr) (sc : (Nat → Int) × Nat) (nL : Nat) (s : State) (lv : LV) (st : List mv) (M : Mem) (ls : Array Slot) (H : Heap) (locs : List Loc) : Prop :=
  lv_has ls nL (lv.map (encP ad)) ∧ (∀ q ∈ lv, Good M q.2) ∧ (∀ v ∈ st, Good M v) ∧ HR ad base D H0 gr s M H ∧ MOk gr sc M ∧ ∀ q ∈ locs, base ≤ q.base
section Ops
variable {p : Program} {l : Launch} {e : Env} {R : Room} {s : State} {m : MethodId} {args : Array Value} {below : List Frame} {meth : Method} {c : Code} {Q : State → Prop} {cc : ByteArray} {pc : Nat} {ad : Nat → Nat → Nat} {base : Nat} {D : va_G} {H0 : Heap} {gr : Gr} {sc : (Nat → Int) × Nat} {nL N0 S0 : Nat}
variable {lv : LV} {st : List mv} {M : Mem} {ls : Array Slot} {H : Heap} {locs : List Loc}
/-- from here on the machine comes to Q, whatever the frame, if it is one of this kind -/
def NX (p : Program) (l : Launch) (e : Env) (R : Room) (s : State) (m : MethodId) (args : Array Value) (below : List Frame) (meth : Method) (c : Code) (Q : State → Prop) (ad : Nat → Nat → Nat) (base : Nat) (D : va_G) (H0 : Heap) (gr : Gr) (sc : (Nat → Int) × Nat) (nL N0 S0 : Nat) (lv : LV) (st : List mv) (M : Mem) (npc : Nat) : Prop :=
  ∀ (ls : Array Slot) (H : Heap) (locs : List Loc), FR ad base D H0 gr sc nL s lv st M ls H locs → W p l e R s m args below meth c H locs (cN M - N0) (sN M - S0) Q (F0 m npc ls (st.map (enc ad)))
theorem FR.push {v : mv} (h : FR ad base D H0 gr sc nL s lv st M ls H locs) (hv : Good M v) : FR ad base D H0 gr sc nL s lv (v :: st) M ls H locs := ⟨h.1, h.2.1, List.forall_mem_cons.mpr ⟨hv, h.2.2.1⟩, h.2.2.2⟩
theorem FR.pop {v : mv} (h : FR ad base D H0 gr sc nL s lv (v :: st) M ls H locs) : FR ad base D H0 gr sc nL s lv st M ls H locs := ⟨h.1, h.2.1, (List.forall_mem_cons.mp h.2.2.1).2, h.2.2.2⟩
theorem FR.top {v : mv} (h : FR ad base D H0 gr sc nL s lv (v :: st) M ls H locs) : Good M v := (List.forall_mem_cons.mp h.2.2.1).1

theorem op_iadd (hx : p.tables.exec = Jvm.exec) (hb : c.code = cc) (hd : decode cc pc = .ok (.iadd, 1)) {x y : Int} (hF : FR ad base D H0 gr sc nL s lv (vI y :: vI x :: st) M ls H locs) (hn : NX p l e R s m args below meth c Q ad base D H0 gr sc nL N0 S0 lv (vI (w32 (x + y)) :: st) M (pc + 1)) : W p l e R s m args below meth c H locs (cN M - N0) (sN M - S0) Q (F0 m pc ls ((vI y :: vI x :: st).map (enc ad))) := by
  have k := hn ls H locs (hF.pop.pop.push (v := vI (w32 (x + y))) (rI_w32 _))
  have e1 := ofI_add x y
  refine lv_iadd hx hb hd ?_
  rw [show (F0 m (pc + 1) ls ((vI (w32 (x + y)) :: st).map (enc ad))) = F0 m (pc + 1) ls (.int (Int32.ofInt (w32 (x + y))) :: st.map (enc ad)) from rfl] at k
  first | (rw [e1] at k; exact k) | (unfold w32 at k; rw [ofI] at k; exact k)
theorem op_isub (hx : p.tables.exec = Jvm.exec) (hb : c.code = cc) (hd : decode cc pc = .ok (.isub, 1)) {x y : Int} (hF : FR ad base D H0 gr sc nL s lv (vI y :: vI x :: st) M ls H locs) (hn : NX p l e R s m args below meth c Q ad base D H0 gr sc nL N0 S0 lv (vI (w32 (x - y)) :: st) M (pc + 1)) : W p l e R s m args below meth c H locs (cN M - N0) (sN M - S0) Q (F0 m pc ls ((vI y :: vI x :: st).map (enc ad))) := by
  have k := hn ls H locs (hF.pop.pop.push (v := vI (w32 (x - y))) (rI_w32 _))
  have e1 := ofI_sub x y
  refine lv_isub hx hb hd ?_
  rw [show (F0 m (pc + 1) ls ((vI (w32 (x - y)) :: st).map (enc ad))) = F0 m (pc + 1) ls (.int (Int32.ofInt (w32 (x - y))) :: st.map (enc ad)) from rfl] at k
  first | (rw [e1] at k; exact k) | (unfold w32 at k; rw [ofI] at k; exact k)
theorem op_imul (hx : p.tables.exec = Jvm.exec) (hb : c.code = cc) (hd : decode cc pc = .ok (.imul, 1)) {x y : Int} (hF : FR ad base D H0 gr sc nL s lv (vI y :: vI x :: st) M ls H locs) (hn : NX p l e R s m args below meth c Q ad base D H0 gr sc nL N0 S0 lv (vI (w32 (x * y)) :: st) M (pc + 1)) : W p l e R s m args below meth c H locs (cN M - N0) (sN M - S0) Q (F0 m pc ls ((vI y :: vI x :: st).map (enc ad))) := by
  have k := hn ls H locs (hF.pop.pop.push (v := vI (w32 (x * y))) (rI_w32 _))
  have e1 := ofI_mul x y
  refine lv_imul hx hb hd ?_
  rw [show (F0 m (pc + 1) ls ((vI (w32 (x * y)) :: st).map (enc ad))) = F0 m (pc + 1) ls (.int (Int32.ofInt (w32 (x * y))) :: st.map (enc ad)) from rfl] at k
  first | (rw [e1] at k; exact k) | (unfold w32 at k; rw [ofI] at k; exact k)
theorem op_iand (hx : p.tables.exec = Jvm.exec) (hb : c.code = cc) (hd : decode cc pc = .ok (.iand, 1)) {x y : Int} (hF : FR ad base D H0 gr sc nL s lv (vI y :: vI x :: st) M ls H locs) (hn : NX p l e R s m args below meth c Q ad base D H0 gr sc nL N0 S0 lv (vI (xand x y) :: st) M (pc + 1)) : W p l e R s m args below meth c H locs (cN M - N0) (sN M - S0) Q (F0 m pc ls ((vI y :: vI x :: st).map (enc ad))) := by
  have k := hn ls H locs (hF.pop.pop.push (v := vI (xand x y)) (rI_toInt _))
  have e1 := (0 : Nat)
  refine lv_iand hx hb hd ?_
  rw [show (F0 m (pc + 1) ls ((vI (xand x y) :: st).map (enc ad))) = F0 m (pc + 1) ls (.int (Int32.ofInt (xand x y)) :: st.map (enc ad)) from rfl] at k
  first | (rw [e1] at k; exact k) | (unfold xand at k; rw [ofI] at k; exact k)
theorem op_ior (hx : p.tables.exec = Jvm.exec) (hb : c.code = cc) (hd : decode cc pc = .ok (.ior, 1)) {x y : Int} (hF : FR ad base D H0 gr sc nL s lv (vI y :: vI x :: st) M ls H locs) (hn : NX p l e R s m args below meth c Q ad base D H0 gr sc nL N0 S0 lv (vI (xor32 x y) :: st) M (pc + 1)) : W p l e R s m args below meth c H locs (cN M - N0) (sN M - S0) Q (F0 m pc ls ((vI y :: vI x :: st).map (enc ad))) := by
  have k := hn ls H locs (hF.pop.pop.push (v := vI (xor32 x y)) (rI_toInt _))
  have e1 := (0 : Nat)
  refine lv_ior hx hb hd ?_
  rw [show (F0 m (pc + 1) ls ((vI (xor32 x y) :: st).map (enc ad))) = F0 m (pc + 1) ls (.int (Int32.ofInt (xor32 x y)) :: st.map (enc ad)) from rfl] at k
  first | (rw [e1] at k; exact k) | (unfold xor32 at k; rw [ofI] at k; exact k)
theorem op_ixor (hx : p.tables.exec = Jvm.exec) (hb : c.code = cc) (hd : decode cc pc = .ok (.ixor, 1)) {x y : Int} (hF : FR ad base D H0 gr sc nL s lv (vI y :: vI x :: st) M ls H locs) (hn : NX p l e R s m args below meth c Q ad base D H0 gr sc nL N0 S0 lv (vI (xxor x y) :: st) M (pc + 1)) : W p l e R s m args below meth c H locs (cN M - N0) (sN M - S0) Q (F0 m pc ls ((vI y :: vI x :: st).map (enc ad))) := by
  have k := hn ls H locs (hF.pop.pop.push (v := vI (xxor x y)) (rI_toInt _))
  have e1 := (0 : Nat)
  refine lv_ixor hx hb hd ?_
  rw [show (F0 m (pc + 1) ls ((vI (xxor x y) :: st).map (enc ad))) = F0 m (pc + 1) ls (.int (Int32.ofInt (xxor x y)) :: st.map (enc ad)) from rfl] at k
  first | (rw [e1] at k; exact k) | (unfold xxor at k; rw [ofI] at k; exact k)
theorem op_ishl (hx : p.tables.exec = Jvm.exec) (hb : c.code = cc) (hd : decode cc pc = .ok (.ishl, 1)) {x y : Int} (hF : FR ad base D H0 gr sc nL s lv (vI y :: vI x :: st) M ls H locs) (hn : NX p l e R s m args below meth c Q ad base D H0 gr sc nL N0 S0 lv (vI (xshl x y) :: st) M (pc + 1)) : W p l e R s m args below meth c H locs (cN M - N0) (sN M - S0) Q (F0 m pc ls ((vI y :: vI x :: st).map (enc ad))) := by
  have k := hn ls H locs (hF.pop.pop.push (v := vI (xshl x y)) (rI_toInt _))
  have e1 := (0 : Nat)
  refine lv_ishl hx hb hd ?_
  rw [show (F0 m (pc + 1) ls ((vI (xshl x y) :: st).map (enc ad))) = F0 m (pc + 1) ls (.int (Int32.ofInt (xshl x y)) :: st.map (enc ad)) from rfl] at k
  first | (rw [e1] at k; exact k) | (unfold xshl at k; rw [ofI] at k; exact k)
theorem op_ishr (hx : p.tables.exec = Jvm.exec) (hb : c.code = cc) (hd : decode cc pc = .ok (.ishr, 1)) {x y : Int} (hF : FR ad base D H0 gr sc nL s lv (vI y :: vI x :: st) M ls H locs) (hn : NX p l e R s m args below meth c Q ad base D H0 gr sc nL N0 S0 lv (vI (xshr x y) :: st) M (pc + 1)) : W p l e R s m args below meth c H locs (cN M - N0) (sN M - S0) Q (F0 m pc ls ((vI y :: vI x :: st).map (enc ad))) := by
  have k := hn ls H locs (hF.pop.pop.push (v := vI (xshr x y)) (rI_toInt _))
  have e1 := (0 : Nat)
  refine lv_ishr hx hb hd ?_
  rw [show (F0 m (pc + 1) ls ((vI (xshr x y) :: st).map (enc ad))) = F0 m (pc + 1) ls (.int (Int32.ofInt (xshr x y)) :: st.map (enc ad)) from rfl] at k
  first | (rw [e1] at k; exact k) | (unfold xshr at k; rw [ofI] at k; exact k)
theorem op_iushr (hx : p.tables.exec = Jvm.exec) (hb : c.code = cc) (hd : decode cc pc = .ok (.iushr, 1)) {x y : Int} (hF : FR ad base D H0 gr sc nL s lv (vI y :: vI x :: st) M ls H locs) (hn : NX p l e R s m args below meth c Q ad base D H0 gr sc nL N0 S0 lv (vI (xushr x y) :: st) M (pc + 1)) : W p l e R s m args below meth c H locs (cN M - N0) (sN M - S0) Q (F0 m pc ls ((vI y :: vI x :: st).map (enc ad))) := by
  have k := hn ls H locs (hF.pop.pop.push (v := vI (xushr x y)) (rI_toInt _))
  refine lv_iushr hx hb hd rfl ?_
  rw [show (F0 m (pc + 1) ls ((vI (xushr x y) :: st).map (enc ad))) = F0 m (pc + 1) ls (.int (Int32.ofInt (xushr x y)) :: st.map (enc ad)) from rfl] at k
  unfold xushr at k
  rw [ofI] at k
  exact k
theorem op_idiv (hx : p.tables.exec = Jvm.exec) (hb : c.code = cc) (hd : decode cc pc = .ok (.idiv, 1)) {x y : Int} (h0 : ¬ y = 0) (hF : FR ad base D H0 gr sc nL s lv (vI y :: vI x :: st) M ls H locs) (hn : NX p l e R s m args below meth c Q ad base D H0 gr sc nL N0 S0 lv (vI (xdiv x y) :: st) M (pc + 1)) : W p l e R s m args below meth c H locs (cN M - N0) (sN M - S0) Q (F0 m pc ls ((vI y :: vI x :: st).map (enc ad))) := by
  have k := hn ls H locs (hF.pop.pop.push (v := vI (xdiv x y)) (rI_toInt _))
  refine lv_idiv hx hb hd (fun q => h0 ((ofI_inj hF.top rI_0).mp q)) ?_
  rw [show (F0 m (pc + 1) ls ((vI (xdiv x y) :: st).map (enc ad))) = F0 m (pc + 1) ls (.int (Int32.ofInt (xdiv x y)) :: st.map (enc ad)) from rfl] at k
  unfold xdiv at k
  rw [ofI] at k
  exact k
theorem op_irem (hx : p.tables.exec = Jvm.exec) (hb : c.code = cc) (hd : decode cc pc = .ok (.irem, 1)) {x y : Int} (h0 : ¬ y = 0) (hF : FR ad base D H0 gr sc nL s lv (vI y :: vI x :: st) M ls H locs) (hn : NX p l e R s m args below meth c Q ad base D H0 gr sc nL N0 S0 lv (vI (xrem x y) :: st) M (pc + 1)) : W p l e R s m args below meth c H locs (cN M - N0) (sN M - S0) Q (F0 m pc ls ((vI y :: vI x :: st).map (enc ad))) := by
  have k := hn ls H locs (hF.pop.pop.push (v := vI (xrem x y)) (rI_toInt _))
  refine lv_irem hx hb hd (fun q => h0 ((ofI_inj hF.top rI_0).mp q)) ?_
  rw [show (F0 m (pc + 1) ls ((vI (xrem x y) :: st).map (enc ad))) = F0 m (pc + 1) ls (.int (Int32.ofInt (xrem x y)) :: st.map (enc ad)) from rfl] at k
  unfold xrem at k
  rw [ofI] at k
  exact k
theorem op_ldiv (hx : p.tables.exec = Jvm.exec) (hb : c.code = cc) (hd : decode cc pc = .ok (.ldiv, 1)) {x y : Int} (h0 : ¬ y = 0) (hF : FR ad base D H0 gr sc nL s lv (vL y :: vL x :: st) M ls H locs) (hn : NX p l e R s m args below meth c Q ad base D H0 gr sc nL N0 S0 lv (vL (ydiv x y) :: st) M (pc + 1)) : W p l e R s m args below meth c H locs (cN M - N0) (sN M - S0) Q (F0 m pc ls ((vL y :: vL x :: st).map (enc ad))) := by
  have k := hn ls H locs (hF.pop.pop.push (v := vL (ydiv x y)) (rL_toInt _))
  refine lv_ldiv hx hb hd (fun q => h0 ((ofL_inj hF.top rL_0).mp q)) ?_
  rw [show (F0 m (pc + 1) ls ((vL (ydiv x y) :: st).map (enc ad))) = F0 m (pc + 1) ls (.long (Int64.ofInt (ydiv x y)) :: st.map (enc ad)) from rfl] at k
  unfold ydiv at k
  rw [ofL] at k
  exact k
theorem op_lrem (hx : p.tables.exec = Jvm.exec) (hb : c.code = cc) (hd : decode cc pc = .ok (.lrem, 1)) {x y : Int} (h0 : ¬ y = 0) (hF : FR ad base D H0 gr sc nL s lv (vL y :: vL x :: st) M ls H locs) (hn : NX p l e R s m args below meth c Q ad base D H0 gr sc nL N0 S0 lv (vL (yrem x y) :: st) M (pc + 1)) : W p l e R s m args below meth c H locs (cN M - N0) (sN M - S0) Q (F0 m pc ls ((vL y :: vL x :: st).map (enc ad))) := by
  have k := hn ls H locs (hF.pop.pop.push (v := vL (yrem x y)) (rL_toInt _))
  refine lv_lrem hx hb hd (fun q => h0 ((ofL_inj hF.top rL_0).mp q)) ?_
  rw [show (F0 m (pc + 1) ls ((vL (yrem x y) :: st).map (enc ad))) = F0 m (pc + 1) ls (.long (Int64.ofInt (yrem x y)) :: st.map (enc ad)) from rfl] at k
  unfold yrem at k
  rw [ofL] at k
  exact k
theorem op_ladd (hx : p.tables.exec = Jvm.exec) (hb : c.code = cc) (hd : decode cc pc = .ok (.ladd, 1)) {x y : Int} (hF : FR ad base D H0 gr sc nL s lv (vL y :: vL x :: st) M ls H locs) (hn : NX p l e R s m args below meth c Q ad base D H0 gr sc nL N0 S0 lv (vL (w64 (x + y)) :: st) M (pc + 1)) : W p l e R s m args below meth c H locs (cN M - N0) (sN M - S0) Q (F0 m pc ls ((vL y :: vL x :: st).map (enc ad))) := by
  have k := hn ls H locs (hF.pop.pop.push (v := vL (w64 (x + y))) (rL_w64 _))
  refine lv_ladd hx hb hd ?_
  rw [show (F0 m (pc + 1) ls ((vL (w64 (x + y)) :: st).map (enc ad))) = F0 m (pc + 1) ls (.long (Int64.ofInt (w64 (x + y))) :: st.map (enc ad)) from rfl] at k
  rw [ofL_add x y] at k
  exact k
theorem op_lsub (hx : p.tables.exec = Jvm.exec) (hb : c.code = cc) (hd : decode cc pc = .ok (.lsub, 1)) {x y : Int} (hF : FR ad base D H0 gr sc nL s lv (vL y :: vL x :: st) M ls H locs) (hn : NX p l e R s m args below meth c Q ad base D H0 gr sc nL N0 S0 lv (vL (w64 (x - y)) :: st) M (pc + 1)) : W p l e R s m args below meth c H locs (cN M - N0) (sN M - S0) Q (F0 m pc ls ((vL y :: vL x :: st).map (enc ad))) := by
  have k := hn ls H locs (hF.pop.pop.push (v := vL (w64 (x - y))) (rL_w64 _))
  refine lv_lsub hx hb hd ?_
  rw [show (F0 m (pc + 1) ls ((vL (w64 (x - y)) :: st).map (enc ad))) = F0 m (pc + 1) ls (.long (Int64.ofInt (w64 (x - y))) :: st.map (enc ad)) from rfl] at k
  rw [ofL_sub x y] at k
  exact k
theorem op_lmul (hx : p.tables.exec = Jvm.exec) (hb : c.code = cc) (hd : decode cc pc = .ok (.lmul, 1)) {x y : Int} (hF : FR ad base D H0 gr sc nL s lv (vL y :: vL x :: st) M ls H locs) (hn : NX p l e R s m args below meth c Q ad base D H0 gr sc nL N0 S0 lv (vL (w64 (x * y)) :: st) M (pc + 1)) : W p l e R s m args below meth c H locs (cN M - N0) (sN M - S0) Q (F0 m pc ls ((vL y :: vL x :: st).map (enc ad))) := by
  have k := hn ls H locs (hF.pop.pop.push (v := vL (w64 (x * y))) (rL_w64 _))
  refine lv_lmul hx hb hd ?_
  rw [show (F0 m (pc + 1) ls ((vL (w64 (x * y)) :: st).map (enc ad))) = F0 m (pc + 1) ls (.long (Int64.ofInt (w64 (x * y))) :: st.map (enc ad)) from rfl] at k
  rw [ofL_mul x y] at k
  exact k
theorem op_land (hx : p.tables.exec = Jvm.exec) (hb : c.code = cc) (hd : decode cc pc = .ok (.land, 1)) {x y : Int} (hF : FR ad base D H0 gr sc nL s lv (vL y :: vL x :: st) M ls H locs) (hn : NX p l e R s m args below meth c Q ad base D H0 gr sc nL N0 S0 lv (vL (yand x y) :: st) M (pc + 1)) : W p l e R s m args below meth c H locs (cN M - N0) (sN M - S0) Q (F0 m pc ls ((vL y :: vL x :: st).map (enc ad))) := by
  have k := hn ls H locs (hF.pop.pop.push (v := vL (yand x y)) (rL_toInt _))
  refine lv_land hx hb hd ?_
  rw [show (F0 m (pc + 1) ls ((vL (yand x y) :: st).map (enc ad))) = F0 m (pc + 1) ls (.long (Int64.ofInt (yand x y)) :: st.map (enc ad)) from rfl] at k
  unfold yand at k
  rw [ofL] at k
  exact k
theorem op_lor (hx : p.tables.exec = Jvm.exec) (hb : c.code = cc) (hd : decode cc pc = .ok (.lor, 1)) {x y : Int} (hF : FR ad base D H0 gr sc nL s lv (vL y :: vL x :: st) M ls H locs) (hn : NX p l e R s m args below meth c Q ad base D H0 gr sc nL N0 S0 lv (vL (yor x y) :: st) M (pc + 1)) : W p l e R s m args below meth c H locs (cN M - N0) (sN M - S0) Q (F0 m pc ls ((vL y :: vL x :: st).map (enc ad))) := by
  have k := hn ls H locs (hF.pop.pop.push (v := vL (yor x y)) (rL_toInt _))
  refine lv_lor hx hb hd ?_
  rw [show (F0 m (pc + 1) ls ((vL (yor x y) :: st).map (enc ad))) = F0 m (pc + 1) ls (.long (Int64.ofInt (yor x y)) :: st.map (enc ad)) from rfl] at k
  unfold yor at k
  rw [ofL] at k
  exact k
theorem op_lxor (hx : p.tables.exec = Jvm.exec) (hb : c.code = cc) (hd : decode cc pc = .ok (.lxor, 1)) {x y : Int} (hF : FR ad base D H0 gr sc nL s lv (vL y :: vL x :: st) M ls H locs) (hn : NX p l e R s m args below meth c Q ad base D H0 gr sc nL N0 S0 lv (vL (yxor x y) :: st) M (pc + 1)) : W p l e R s m args below meth c H locs (cN M - N0) (sN M - S0) Q (F0 m pc ls ((vL y :: vL x :: st).map (enc ad))) := by
  have k := hn ls H locs (hF.pop.pop.push (v := vL (yxor x y)) (rL_toInt _))
  refine lv_lxor hx hb hd ?_
  rw [show (F0 m (pc + 1) ls ((vL (yxor x y) :: st).map (enc ad))) = F0 m (pc + 1) ls (.long (Int64.ofInt (yxor x y)) :: st.map (enc ad)) from rfl] at k
  unfold yxor at k
  rw [ofL] at k
  exact k
theorem op_lshl (hx : p.tables.exec = Jvm.exec) (hb : c.code = cc) (hd : decode cc pc = .ok (.lshl, 1)) {x y : Int} (hF : FR ad base D H0 gr sc nL s lv (vI y :: vL x :: st) M ls H locs) (hn : NX p l e R s m args below meth c Q ad base D H0 gr sc nL N0 S0 lv (vL (yshl x y) :: st) M (pc + 1)) : W p l e R s m args below meth c H locs (cN M - N0) (sN M - S0) Q (F0 m pc ls ((vI y :: vL x :: st).map (enc ad))) := by
  have k := hn ls H locs (hF.pop.pop.push (v := vL (yshl x y)) (rL_toInt _))
  refine lv_lshl hx hb hd rfl ?_
  rw [show (F0 m (pc + 1) ls ((vL (yshl x y) :: st).map (enc ad))) = F0 m (pc + 1) ls (.long (Int64.ofInt (yshl x y)) :: st.map (enc ad)) from rfl] at k
  unfold yshl at k
  rw [ofL] at k
  exact k
theorem op_lushr (hx : p.tables.exec = Jvm.exec) (hb : c.code = cc) (hd : decode cc pc = .ok (.lushr, 1)) {x y : Int} (hF : FR ad base D H0 gr sc nL s lv (vI y :: vL x :: st) M ls H locs) (hn : NX p l e R s m args below meth c Q ad base D H0 gr sc nL N0 S0 lv (vL (yushr x y) :: st) M (pc + 1)) : W p l e R s m args below meth c H locs (cN M - N0) (sN M - S0) Q (F0 m pc ls ((vI y :: vL x :: st).map (enc ad))) := by
  have k := hn ls H locs (hF.pop.pop.push (v := vL (yushr x y)) (rL_toInt _))
  refine lv_lushr hx hb hd rfl ?_
  rw [show (F0 m (pc + 1) ls ((vL (yushr x y) :: st).map (enc ad))) = F0 m (pc + 1) ls (.long (Int64.ofInt (yushr x y)) :: st.map (enc ad)) from rfl] at k
  unfold yushr at k
  rw [ofL] at k
  exact k
theorem op_lneg (hx : p.tables.exec = Jvm.exec) (hb : c.code = cc) (hd : decode cc pc = .ok (.lneg, 1)) {x : Int} (hF : FR ad base D H0 gr sc nL s lv (vL x :: st) M ls H locs) (hn : NX p l e R s m args below meth c Q ad base D H0 gr sc nL N0 S0 lv (vL (w64 (-x)) :: st) M (pc + 1)) : W p l e R s m args below meth c H locs (cN M - N0) (sN M - S0) Q (F0 m pc ls ((vL x :: st).map (enc ad))) := by
  have k := hn ls H locs (hF.pop.push (v := vL (w64 (-x))) (rL_w64 _))
  refine lv_lneg hx hb hd ?_
  rw [show (F0 m (pc + 1) ls ((vL (w64 (-x)) :: st).map (enc ad))) = F0 m (pc + 1) ls (.long (Int64.ofInt (w64 (-x))) :: st.map (enc ad)) from rfl] at k
  rw [ofL_neg] at k
  exact k
theorem op_lcmp (hx : p.tables.exec = Jvm.exec) (hb : c.code = cc) (hd : decode cc pc = .ok (.lcmp, 1)) {x y : Int} (hF : FR ad base D H0 gr sc nL s lv (vL y :: vL x :: st) M ls H locs) (hn : NX p l e R s m args below meth c Q ad base D H0 gr sc nL N0 S0 lv (vI (ycmp x y) :: st) M (pc + 1)) : W p l e R s m args below meth c H locs (cN M - N0) (sN M - S0) Q (F0 m pc ls ((vL y :: vL x :: st).map (enc ad))) := by
  have k := hn ls H locs (hF.pop.pop.push (v := vI (ycmp x y)) (rI_cmp x y))
  refine W.lcmp hx hb hd ?_
  rw [lcmp_of hF.pop.top hF.top]
  exact k
theorem op_i2l (hx : p.tables.exec = Jvm.exec) (hb : c.code = cc) (hd : decode cc pc = .ok (.i2l, 1)) {x : Int} (hF : FR ad base D H0 gr sc nL s lv (vI x :: st) M ls H locs) (hn : NX p l e R s m args below meth c Q ad base D H0 gr sc nL N0 S0 lv (vL x :: st) M (pc + 1)) : W p l e R s m args below meth c H locs (cN M - N0) (sN M - S0) Q (F0 m pc ls ((vI x :: st).map (enc ad))) := by
  have k := hn ls H locs (hF.pop.push (v := vL x) (rL_of_rI hF.top))
  exact lv_i2l hx hb hd (i2l_of hF.top) k
theorem op_l2i (hx : p.tables.exec = Jvm.exec) (hb : c.code = cc) (hd : decode cc pc = .ok (.l2i, 1)) {x : Int} (hF : FR ad base D H0 gr sc nL s lv (vL x :: st) M ls H locs) (hn : NX p l e R s m args below meth c Q ad base D H0 gr sc nL N0 S0 lv (vI (w32 x) :: st) M (pc + 1)) : W p l e R s m args below meth c H locs (cN M - N0) (sN M - S0) Q (F0 m pc ls ((vL x :: st).map (enc ad))) := by
  have k := hn ls H locs (hF.pop.push (v := vI (w32 x)) (rI_w32 _))
  exact lv_l2i hx hb hd (l2i_of hF.top) k
theorem op_i2b (hx : p.tables.exec = Jvm.exec) (hb : c.code = cc) (hd : decode cc pc = .ok (.i2b, 1)) {x : Int} (hF : FR ad base D H0 gr sc nL s lv (vI x :: st) M ls H locs) (hn : NX p l e R s m args below meth c Q ad base D H0 gr sc nL N0 S0 lv (vI (x8 x) :: st) M (pc + 1)) : W p l e R s m args below meth c H locs (cN M - N0) (sN M - S0) Q (F0 m pc ls ((vI x :: st).map (enc ad))) := by
  have k := hn ls H locs (hF.pop.push (v := vI (x8 x)) ((by show rI (x8 x); unfold rI x8; omega)))
  exact lv_i2b hx hb hd (i2b_of hF.top) k
theorem op_i2s (hx : p.tables.exec = Jvm.exec) (hb : c.code = cc) (hd : decode cc pc = .ok (.i2s, 1)) {x : Int} (hF : FR ad base D H0 gr sc nL s lv (vI x :: st) M ls H locs) (hn : NX p l e R s m args below meth c Q ad base D H0 gr sc nL N0 S0 lv (vI (x16 x) :: st) M (pc + 1)) : W p l e R s m args below meth c H locs (cN M - N0) (sN M - S0) Q (F0 m pc ls ((vI x :: st).map (enc ad))) := by
  have k := hn ls H locs (hF.pop.push (v := vI (x16 x)) ((by show rI (x16 x); unfold rI x16; omega)))
  exact lv_i2s hx hb hd (i2s_of hF.top) k
theorem op_dup (hx : p.tables.exec = Jvm.exec) (hb : c.code = cc) (hd : decode cc pc = .ok (.dup, 1)) {v : mv} (h : isL v = false) (hF : FR ad base D H0 gr sc nL s lv (v :: st) M ls H locs) (hn : NX p l e R s m args below meth c Q ad base D H0 gr sc nL N0 S0 lv (v :: v :: st) M (pc + 1)) : W p l e R s m args below meth c H locs (cN M - N0) (sN M - S0) Q (F0 m pc ls ((v :: st).map (enc ad))) :=
  lv_dup hx hb hd (by rw [enc_cat, h]; rfl) (hn ls H locs (hF.push hF.top))
theorem op_dup2 (hx : p.tables.exec = Jvm.exec) (hb : c.code = cc) (hd : decode cc pc = .ok (.dup2, 1)) {v w : mv} (h : isL v = false) (h2 : isL w = false) (hF : FR ad base D H0 gr sc nL s lv (v :: w :: st) M ls H locs) (hn : NX p l e R s m args below meth c Q ad base D H0 gr sc nL N0 S0 lv (v :: w :: v :: w :: st) M (pc + 1)) : W p l e R s m args below meth c H locs (cN M - N0) (sN M - S0) Q (F0 m pc ls ((v :: w :: st).map (enc ad))) :=
  lv_dup2_11 hx hb hd (by rw [enc_cat, h]; rfl) (by rw [enc_cat, h2]; rfl) (hn ls H locs ((hF.push hF.pop.top).push hF.top))
theorem op_pop (hx : p.tables.exec = Jvm.exec) (hb : c.code = cc) (hd : decode cc pc = .ok (.pop, 1)) {v : mv} (h : isL v = false) (hF : FR ad base D H0 gr sc nL s lv (v :: st) M ls H locs) (hn : NX p l e R s m args below meth c Q ad base D H0 gr sc nL N0 S0 lv (st) M (pc + 1)) : W p l e R s m args below meth c H locs (cN M - N0) (sN M - S0) Q (F0 m pc ls ((v :: st).map (enc ad))) :=
  lv_pop hx hb hd (by rw [enc_cat, h]; rfl) (hn ls H locs hF.pop)
theorem op_iload (hx : p.tables.exec = Jvm.exec) (hb : c.code = cc) {n : Nat} {x : Int} (hl : lvGet lv n = some (vI x)) (hF : FR ad base D H0 gr sc nL s lv (st) M ls H locs) {raw : Instr} {len : Nat} (hd : decode cc pc = .ok (raw, len)) (hr : (raw = .iload n ∧ len = 2) ∨ (raw = .iload_n (Fin.ofNat 4 n) ∧ (Fin.ofNat 4 n).val = n ∧ len = 1)) (hn : NX p l e R s m args below meth c Q ad base D H0 gr sc nL N0 S0 lv (vI x :: st) M (pc + len)) : W p l e R s m args below meth c H locs (cN M - N0) (sN M - S0) Q (F0 m pc ls ((st).map (enc ad))) := by
  have hm := lvGet_mem hl
  have k := hn ls H locs (hF.push (hF.2.1 _ hm))
  have h1 : ls[n]? = some (.val (enc ad (vI x))) := hF.1.2.2 _ (List.mem_map.mpr ⟨_, hm, rfl⟩)
  rcases hr with ⟨rfl, rfl⟩ | ⟨rfl, h4, rfl⟩
  · exact lv_iload hx hb hd h1 k
  · exact lv_iload_n hx hb hd h4 h1 k
theorem op_lload (hx : p.tables.exec = Jvm.exec) (hb : c.code = cc) {n : Nat} {x : Int} (hl : lvGet lv n = some (vL x)) (hF : FR ad base D H0 gr sc nL s lv (st) M ls H locs) {raw : Instr} {len : Nat} (hd : decode cc pc = .ok (raw, len)) (hr : (raw = .lload n ∧ len = 2) ∨ (raw = .lload_n (Fin.ofNat 4 n) ∧ (Fin.ofNat 4 n).val = n ∧ len = 1)) (hn : NX p l e R s m args below meth c Q ad base D H0 gr sc nL N0 S0 lv (vL x :: st) M (pc + len)) : W p l e R s m args below meth c H locs (cN M - N0) (sN M - S0) Q (F0 m pc ls ((st).map (enc ad))) := by
  have hm := lvGet_mem hl
  have k := hn ls H locs (hF.push (hF.2.1 _ hm))
  have h1 : ls[n]? = some (.val (enc ad (vL x))) := hF.1.2.2 _ (List.mem_map.mpr ⟨_, hm, rfl⟩)
  rcases hr with ⟨rfl, rfl⟩ | ⟨rfl, h4, rfl⟩
  · exact lv_lload hx hb hd h1 k
  · exact lv_lload_n hx hb hd h4 h1 k
theorem op_aload (hx : p.tables.exec = Jvm.exec) (hb : c.code = cc) {n t a : Nat} (hl : lvGet lv n = some (vR t a)) (hF : FR ad base D H0 gr sc nL s lv (st) M ls H locs) {raw : Instr} {len : Nat} (hd : decode cc pc = .ok (raw, len)) (hr : (raw = .aload n ∧ len = 2) ∨ (raw = .aload_n (Fin.ofNat 4 n) ∧ (Fin.ofNat 4 n).val = n ∧ len = 1)) (hn : NX p l e R s m args below meth c Q ad base D H0 gr sc nL N0 S0 lv (vR t a :: st) M (pc + len)) : W p l e R s m args below meth c H locs (cN M - N0) (sN M - S0) Q (F0 m pc ls ((st).map (enc ad))) := by
  have hm := lvGet_mem hl
  have k := hn ls H locs (hF.push (hF.2.1 _ hm))
  have h1 : ls[n]? = some (.val (enc ad (vR t a))) := hF.1.2.2 _ (List.mem_map.mpr ⟨_, hm, rfl⟩)
  rcases hr with ⟨rfl, rfl⟩ | ⟨rfl, h4, rfl⟩
  · exact lv_aload hx hb hd h1 k
  · exact lv_aload_n hx hb hd h4 h1 k
theorem op_istore (hx : p.tables.exec = Jvm.exec) (hb : c.code = cc) {n : Nat} {x : Int} (hF : FR ad base D H0 gr sc nL s lv (vI x :: st) M ls H locs) {raw : Instr} {len : Nat} (hd : decode cc pc = .ok (raw, len)) (hlt : n < nL) (hr : (raw = .istore n ∧ len = 2) ∨ (raw = .istore_n (Fin.ofNat 4 n) ∧ (Fin.ofNat 4 n).val = n ∧ len = 1)) (hn : NX p l e R s m args below meth c Q ad base D H0 gr sc nL N0 S0 (lvSet lv n (vI x)) (st) M (pc + len)) : W p l e R s m args below meth c H locs (cN M - N0) (sN M - S0) Q (F0 m pc ls ((vI x :: st).map (enc ad))) := by
  have k : ∀ ls' : Array Slot, lv_has ls' nL _ → W p l e R s m args below meth c H locs (cN M - N0) (sN M - S0) Q (F0 m (pc + len) ls' (st.map (enc ad))) := fun ls' h' => hn ls' H locs ⟨lv_has_sub h' (set1_mem rfl), set_good hF.2.1 hF.top, hF.pop.2.2⟩
  rcases hr with ⟨rfl, rfl⟩ | ⟨rfl, h4, rfl⟩
  · exact lv_istore hx hb hd hF.1 hlt rfl k
  · exact lv_istore_n hx hb hd h4 hF.1 hlt rfl k
theorem op_astore (hx : p.tables.exec = Jvm.exec) (hb : c.code = cc) {n : Nat} {t a : Nat} (hF : FR ad base D H0 gr sc nL s lv (vR t a :: st) M ls H locs) {raw : Instr} {len : Nat} (hd : decode cc pc = .ok (raw, len)) (hlt : n < nL) (hr : (raw = .astore n ∧ len = 2) ∨ (raw = .astore_n (Fin.ofNat 4 n) ∧ (Fin.ofNat 4 n).val = n ∧ len = 1)) (hn : NX p l e R s m args below meth c Q ad base D H0 gr sc nL N0 S0 (lvSet lv n (vR t a)) (st) M (pc + len)) : W p l e R s m args below meth c H locs (cN M - N0) (sN M - S0) Q (F0 m pc ls ((vR t a :: st).map (enc ad))) := by
  have k : ∀ ls' : Array Slot, lv_has ls' nL _ → W p l e R s m args below meth c H locs (cN M - N0) (sN M - S0) Q (F0 m (pc + len) ls' (st.map (enc ad))) := fun ls' h' => hn ls' H locs ⟨lv_has_sub h' (set1_mem rfl), set_good hF.2.1 hF.top, hF.pop.2.2⟩
  rcases hr with ⟨rfl, rfl⟩ | ⟨rfl, h4, rfl⟩
  · exact lv_astore hx hb hd hF.1 hlt rfl k
  · exact lv_astore_n hx hb hd h4 hF.1 hlt rfl k
theorem op_lstore (hx : p.tables.exec = Jvm.exec) (hb : c.code = cc) {n : Nat} {x : Int} (hF : FR ad base D H0 gr sc nL s lv (vL x :: st) M ls H locs) {raw : Instr} {len : Nat} (hd : decode cc pc = .ok (raw, len)) (hlt : n + 1 < nL) (hr : (raw = .lstore n ∧ len = 2) ∨ (raw = .lstore_n (Fin.ofNat 4 n) ∧ (Fin.ofNat 4 n).val = n ∧ len = 1)) (hn : NX p l e R s m args below meth c Q ad base D H0 gr sc nL N0 S0 (lvSet lv n (vL x)) (st) M (pc + len)) : W p l e R s m args below meth c H locs (cN M - N0) (sN M - S0) Q (F0 m pc ls ((vL x :: st).map (enc ad))) := by
  have k : ∀ ls' : Array Slot, lv_has ls' nL _ → W p l e R s m args below meth c H locs (cN M - N0) (sN M - S0) Q (F0 m (pc + len) ls' (st.map (enc ad))) := fun ls' h' => hn ls' H locs ⟨lv_has_sub h' (set2_mem rfl), set_good hF.2.1 hF.top, hF.pop.2.2⟩
  rcases hr with ⟨rfl, rfl⟩ | ⟨rfl, h4, rfl⟩
  · exact lv_lstore hx hb hd hF.1 hlt rfl k
  · exact lv_lstore_n hx hb hd h4 hF.1 hlt rfl k
theorem op_iinc (hx : p.tables.exec = Jvm.exec) (hb : c.code = cc) {n : Nat} {k : Int} {x : Int} (hl : lvGet lv n = some (vI x)) (hF : FR ad base D H0 gr sc nL s lv (st) M ls H locs) (hd : decode cc pc = .ok (.iinc n k, 3)) (hlt : n < nL) (hn : NX p l e R s m args below meth c Q ad base D H0 gr sc nL N0 S0 (lvSet lv n (vI (w32 (x + k)))) (st) M (pc + 3)) : W p l e R s m args below meth c H locs (cN M - N0) (sN M - S0) Q (F0 m pc ls ((st).map (enc ad))) := by
  have hm := lvGet_mem hl
  obtain ⟨i, hi⟩ := List.getElem?_of_mem (List.mem_map.mpr ⟨_, hm, rfl⟩ : encP ad (n, vI x) ∈ lv.map (encP ad))
  refine lv_iinc (v := Int32.ofInt (w32 (x + k))) hx hb hd hF.1 hi (by rw [ofI_add]) hlt rfl (fun ls' h' => ?_)
  exact hn ls' H locs ⟨lv_has_sub h' (set1_mem (v := vI (w32 (x + k))) rfl), set_good hF.2.1 (rI_w32 _), hF.2.2⟩
theorem op_iconst (hx : p.tables.exec = Jvm.exec) (hb : c.code = cc) {v : Int} (hv : rI v) (hF : FR ad base D H0 gr sc nL s lv (st) M ls H locs) {raw : Instr} {len : Nat} (hd : decode cc pc = .ok (raw, len)) {own : String} (hown : s.vm.findClass own = some m.cls) {k1 : Nat}
    (hr : (raw = .iconst v ∧ len = 1) ∨ (raw = .bipush v ∧ len = 2 ∧ (Int8.ofInt v).toInt32 = Int32.ofInt v) ∨ (raw = .sipush v ∧ len = 3 ∧ (Int16.ofInt v).toInt32 = Int32.ofInt v) ∨ (raw = .ldc k1 ∧ len = 2 ∧ (Cond.constant own k1 (Int32.ofInt v)).before args s = true) ∨ (raw = .ldc_w k1 ∧ len = 3 ∧ (Cond.constant own k1 (Int32.ofInt v)).before args s = true)) (hn : NX p l e R s m args below meth c Q ad base D H0 gr sc nL N0 S0 lv (vI v :: st) M (pc + len)) : W p l e R s m args below meth c H locs (cN M - N0) (sN M - S0) Q (F0 m pc ls ((st).map (enc ad))) := by
  have k := hn ls H locs (hF.push (v := vI v) hv)
  rcases hr with ⟨rfl, rfl⟩ | ⟨rfl, rfl, h⟩ | ⟨rfl, rfl, h⟩ | ⟨rfl, rfl, h⟩ | ⟨rfl, rfl, h⟩
  · exact lv_iconst hx hb hd rfl k
  · exact lv_bipush hx hb hd h k
  · exact lv_sipush hx hb hd h k
  · exact lv_ldc hx hb hown h hd k
  · exact lv_ldcw hx hb hown h hd k
theorem op_lconst (hx : p.tables.exec = Jvm.exec) (hb : c.code = cc) {v : Int} (hv : rL v) (hF : FR ad base D H0 gr sc nL s lv (st) M ls H locs) {raw : Instr} {len : Nat} (hd : decode cc pc = .ok (raw, len)) {own : String} (hown : s.vm.findClass own = some m.cls) {k1 : Nat}
    (hr : (raw = .lconst 0 ∧ v = 0 ∧ len = 1) ∨ (raw = .lconst 1 ∧ v = 1 ∧ len = 1) ∨ (raw = .ldc2_w k1 ∧ len = 3 ∧ (Cond.constantLong own k1 (Int64.ofInt v)).before args s = true)) (hn : NX p l e R s m args below meth c Q ad base D H0 gr sc nL N0 S0 lv (vL v :: st) M (pc + len)) : W p l e R s m args below meth c H locs (cN M - N0) (sN M - S0) Q (F0 m pc ls ((st).map (enc ad))) := by
  have k := hn ls H locs (hF.push (v := vL v) hv)
  rcases hr with ⟨rfl, rfl, rfl⟩ | ⟨rfl, rfl, rfl⟩ | ⟨rfl, rfl, h⟩
  · exact lv_lconst hx hb hd rfl k
  · exact lv_lconst hx hb hd rfl k
  · exact lv_ldc2 hx hb hown h hd k
theorem op_goto (hx : p.tables.exec = Jvm.exec) (hb : c.code = cc) {off : Int} {tgt : Nat} (hd : decode cc pc = .ok (.goto off, 3)) (ht : (pc : Int) + off = (tgt : Int)) (hF : FR ad base D H0 gr sc nL s lv (st) M ls H locs) (hn : NX p l e R s m args below meth c Q ad base D H0 gr sc nL N0 S0 lv (st) M (tgt)) : W p l e R s m args below meth c H locs (cN M - N0) (sN M - S0) Q (F0 m pc ls ((st).map (enc ad))) := lv_goto hx hb hd ht (hn ls H locs hF)
theorem op_ifCond (hx : p.tables.exec = Jvm.exec) (hb : c.code = cc) {k : ClassFile.Cond} {off : Int} {tgt : Nat} (hd : decode cc pc = .ok (.ifCond k off, 3)) (ht : (pc : Int) + off = (tgt : Int)) {x : Int} (hF : FR ad base D H0 gr sc nL s lv (vI x :: st) M ls H locs) {K1 K2 : Option Res} {r : Res} (h : cmp1 k x 0 K1 K2 = some r) (h1 : K1 = some r → NX p l e R s m args below meth c Q ad base D H0 gr sc nL N0 S0 lv (st) M (tgt)) (h2 : K2 = some r → NX p l e R s m args below meth c Q ad base D H0 gr sc nL N0 S0 lv (st) M (pc + 3)) : W p l e R s m args below meth c H locs (cN M - N0) (sN M - S0) Q (F0 m pc ls ((vI x :: st).map (enc ad))) := by
  have rx : rI x := hF.top
  have ry : rI 0 := rI_0
  have t : K1 = some r → W p l e R s m args below meth c H locs (cN M - N0) (sN M - S0) Q (F0 m tgt ls (st.map (enc ad))) := fun q => h1 q ls H locs hF.pop
  have f : K2 = some r → W p l e R s m args below meth c H locs (cN M - N0) (sN M - S0) Q (F0 m (pc + 3) ls (st.map (enc ad))) := fun q => h2 q ls H locs hF.pop
  cases k with
  | eq =>
    by_cases q : x = 0
    · exact lv_if_eq hx hb hd ht (fun _ => t (by rw [← h]; exact (if_pos q).symm)) (fun z => absurd ((ofI_inj rx ry).mpr q) z)
    · exact lv_if_eq hx hb hd ht (fun z => absurd ((ofI_inj rx ry).mp z) q) (fun _ => f (by rw [← h]; exact (if_neg q).symm))
  | ne =>
    by_cases q : x = 0
    · exact lv_if_ne hx hb hd ht (fun z => absurd ((ofI_inj rx ry).mpr q) z) (fun _ => f (by rw [← h]; exact (if_pos q).symm))
    · exact lv_if_ne hx hb hd ht (fun _ => t (by rw [← h]; exact (if_neg q).symm)) (fun z => absurd ((ofI_inj rx ry).mp z) q)
  | lt =>
    by_cases q : x < 0
    · exact lv_if_lt hx hb hd ht (fun _ => t (by rw [← h]; exact (if_pos q).symm)) (fun z => absurd ((ofI_lt rx ry).mpr q) z)
    · exact lv_if_lt hx hb hd ht (fun z => absurd ((ofI_lt rx ry).mp z) q) (fun _ => f (by rw [← h]; exact (if_neg q).symm))
  | ge =>
    by_cases q : x < 0
    · exact lv_if_ge hx hb hd ht (fun z => absurd ((ofI_le ry rx).mp z) (by omega)) (fun _ => f (by rw [← h]; exact (if_pos q).symm))
    · exact lv_if_ge hx hb hd ht (fun _ => t (by rw [← h]; exact (if_neg q).symm)) (fun z => absurd ((ofI_le ry rx).mpr (by omega)) z)
  | gt =>
    by_cases q : 0 < x
    · exact lv_if_gt hx hb hd ht (fun _ => t (by rw [← h]; exact (if_pos q).symm)) (fun z => absurd ((ofI_lt ry rx).mpr q) z)
    · exact lv_if_gt hx hb hd ht (fun z => absurd ((ofI_lt ry rx).mp z) q) (fun _ => f (by rw [← h]; exact (if_neg q).symm))
  | le =>
    by_cases q : 0 < x
    · exact lv_if_le hx hb hd ht (fun z => absurd ((ofI_le rx ry).mp z) (by omega)) (fun _ => f (by rw [← h]; exact (if_pos q).symm))
    · exact lv_if_le hx hb hd ht (fun _ => t (by rw [← h]; exact (if_neg q).symm)) (fun z => absurd ((ofI_le rx ry).mpr (by omega)) z)
theorem op_if_icmp (hx : p.tables.exec = Jvm.exec) (hb : c.code = cc) {k : ClassFile.Cond} {off : Int} {tgt : Nat} (hd : decode cc pc = .ok (.if_icmp k off, 3)) (ht : (pc : Int) + off = (tgt : Int)) {x y : Int} (hF : FR ad base D H0 gr sc nL s lv (vI y :: vI x :: st) M ls H locs) {K1 K2 : Option Res} {r : Res} (h : cmp1 k x y K1 K2 = some r) (h1 : K1 = some r → NX p l e R s m args below meth c Q ad base D H0 gr sc nL N0 S0 lv (st) M (tgt)) (h2 : K2 = some r → NX p l e R s m args below meth c Q ad base D H0 gr sc nL N0 S0 lv (st) M (pc + 3)) : W p l e R s m args below meth c H locs (cN M - N0) (sN M - S0) Q (F0 m pc ls ((vI y :: vI x :: st).map (enc ad))) := by
  have rx : rI x := hF.pop.top
  have ry : rI y := hF.top
  have t : K1 = some r → W p l e R s m args below meth c H locs (cN M - N0) (sN M - S0) Q (F0 m tgt ls (st.map (enc ad))) := fun q => h1 q ls H locs hF.pop.pop
  have f : K2 = some r → W p l e R s m args below meth c H locs (cN M - N0) (sN M - S0) Q (F0 m (pc + 3) ls (st.map (enc ad))) := fun q => h2 q ls H locs hF.pop.pop
  cases k with
  | eq =>
    by_cases q : x = y
    · exact lv_icmp_eq hx hb hd ht (fun _ => t (by rw [← h]; exact (if_pos q).symm)) (fun z => absurd ((ofI_inj rx ry).mpr q) z)
    · exact lv_icmp_eq hx hb hd ht (fun z => absurd ((ofI_inj rx ry).mp z) q) (fun _ => f (by rw [← h]; exact (if_neg q).symm))
  | ne =>
    by_cases q : x = y
    · exact lv_icmp_ne hx hb hd ht (fun z => absurd ((ofI_inj rx ry).mpr q) z) (fun _ => f (by rw [← h]; exact (if_pos q).symm))
    · exact lv_icmp_ne hx hb hd ht (fun _ => t (by rw [← h]; exact (if_neg q).symm)) (fun z => absurd ((ofI_inj rx ry).mp z) q)
  | lt =>
    by_cases q : x < y
    · exact lv_icmp_lt hx hb hd ht (fun _ => t (by rw [← h]; exact (if_pos q).symm)) (fun z => absurd ((ofI_lt rx ry).mpr q) z)
    · exact lv_icmp_lt hx hb hd ht (fun z => absurd ((ofI_lt rx ry).mp z) q) (fun _ => f (by rw [← h]; exact (if_neg q).symm))
  | ge =>
    by_cases q : x < y
    · exact lv_icmp_ge hx hb hd ht (fun z => absurd ((ofI_le ry rx).mp z) (by omega)) (fun _ => f (by rw [← h]; exact (if_pos q).symm))
    · exact lv_icmp_ge hx hb hd ht (fun _ => t (by rw [← h]; exact (if_neg q).symm)) (fun z => absurd ((ofI_le ry rx).mpr (by omega)) z)
  | gt =>
    by_cases q : y < x
    · exact lv_icmp_gt hx hb hd ht (fun _ => t (by rw [← h]; exact (if_pos q).symm)) (fun z => absurd ((ofI_lt ry rx).mpr q) z)
    · exact lv_icmp_gt hx hb hd ht (fun z => absurd ((ofI_lt ry rx).mp z) q) (fun _ => f (by rw [← h]; exact (if_neg q).symm))
  | le =>
    by_cases q : y < x
    · exact lv_icmp_le hx hb hd ht (fun z => absurd ((ofI_le rx ry).mp z) (by omega)) (fun _ => f (by rw [← h]; exact (if_pos q).symm))
    · exact lv_icmp_le hx hb hd ht (fun _ => t (by rw [← h]; exact (if_neg q).symm)) (fun z => absurd ((ofI_le rx ry).mpr (by omega)) z)
end Ops
