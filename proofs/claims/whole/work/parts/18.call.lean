/-! a call -/
def rkO (j : Nat) : Nat := (MI j).2.2.2.2.2.1
def rmF (k mc ms : Nat) : Room := { frames := k, cells := mc, slots := ms, locals := 40 * k }
abbrev cdW (j : Nat) : Cond := .code (MI j).1 (MI j).2.1 (MI j).2.2.1 (MI j).2.2.2.1
section Call
variable (ad : Nat → Nat → Nat) (base : Nat) (D : va_G) (H0 : Heap) (gr : Gr) (sc : (Nat → Int) × Nat) (Xt : State → Prop)
def CPc (vs : List mv) (M : Mem) : Array Value → State → Prop := fun a U => a = (vs.map (enc ad)).toArray ∧ Kn D Xt U ∧ HR ad base D H0 gr U M U.heap
def CQc (r : Option mv) (Mf : Mem) : Array Value → State → Outcome → State → Prop := fun _ _ o t => o = .returned (r.map (enc ad)) ∧ HR ad base D H0 gr t Mf t.heap ∧ MOk gr sc Mf ∧ ∀ v, r = some v → Good Mf v
def CMet (l : Launch) (j k : Nat) (vs : List mv) (M : Mem) (r : Option mv) (Mf : Mem) : Prop := Met l (MI j).1 [cdW j] (rmF k (cN Mf - cN M) (sN Mf - sN M)) (CPc ad base D H0 gr Xt vs M) (CQc ad base D H0 gr sc r Mf) (cN Mf - cN M) (sN Mf - sN M) (fun q => base ≤ q)
end Call
section Call2
variable {p : Program} {l : Launch} {e : Env} {R : Room} {s : State} {m : MethodId} {args : Array Value} {below : List Frame} {meth : Method} {c : Code} {Q : State → Prop} {cc : ByteArray} {pc : Nat} {ad : Nat → Nat → Nat} {base : Nat} {D : va_G} {H0 : Heap} {gr : Gr} {sc : (Nat → Int) × Nat} {nL N0 S0 : Nat} {Xt : State → Prop}
variable {lv : LV} {st : List mv} {M : Mem} {ls : Array Slot} {H : Heap} {locs : List Loc} {cells slots : Nat}
theorem cblind (hX : XtOk Xt) (vs : List mv) (M : Mem) : FrameBlind (CPc ad base D H0 gr Xt vs M) := by
  intro a U g mk ⟨h1, h2, h3⟩
  exact ⟨h1, Kn.warm (U := U.calling g mk a) hX (State.WarmedH.refl U) h2, HR.moved (U := U.calling g mk a) (Vm.Alike.refl U.vm) h3⟩
theorem mm_cont {mc ms : Nat} {st0 rest : List Value} {Qa : State → Outcome → State → Prop} {free : Addr → Prop} (hr : va_Run p l e R s m args below meth c H locs cells slots mc ms (F0 m pc ls st0) rest Qa free)
    (kk : ∀ (v : Option Value) (st₀ t : State) (L : List Loc), st₀.heap = H → s.vm.Alike t.vm → (∀ q ∈ L, free q.base) → Qa st₀ (.returned v) t → W p l e R s m args below meth c t.heap (locs ++ L) (cells + mc) (slots + ms) Q (F0 m (pc + 3) ls (v.toList ++ rest))) :
    W p l e R s m args below meth c H locs cells slots Q (F0 m pc ls st0) := by
  intro T hT X
  obtain ⟨v, st₀, t, T', L, h0, X', hL, e1, e2, hq, go⟩ := hr T hT X
  obtain ⟨t2, a1, b1⟩ := kk v st₀ t L h0 (by rw [← e2]; exact X'.warmed.alike) hL hq T' e1 X'
  exact ⟨t2, go t2 a1, b1⟩
theorem wsum_cat (ad : Nat → Nat → Nat) : ∀ st : List mv, ((st.map (enc ad)).map fun v => v.category).sum = wsum st
  | [] => rfl
  | v :: l => by
    show (enc ad v).category + ((l.map (enc ad)).map fun v => v.category).sum = (bif isL v then 2 else 1) + wsum l
    rw [enc_cat, wsum_cat ad l]
theorem op_call (hX : XtOk Xt) (had : ∀ t a, t < 90 → ad t a = base + a) (hx : p.tables.exec = Jvm.exec) (hb : c.code = cc) (hml : c.maxLocals = nL) {own : Nat} (hown : s.vm.findClass (ownN own) = some m.cls) (hKn : Kn D Xt s) {j k d n : Nat} (hj : j < 384) (hd : decode cc pc = .ok (callOp j k, 3))
    (hl : mlH own k j = true ∨ mnH own k j = true) (hk : okC (MT j) st = true) {rr : Option mv} {Mr : Mem} (hM : CMet ad base D H0 gr sc Xt l j d (st.take (MT j).2.1).reverse M rr Mr) (hg : ∃ z, tgs Mr = tgs M ++ z)
    (hfr : d + 1 ≤ R.frames) (hlo : 40 * (d + 1) ≤ R.locals) (hc : cN Mr - N0 ≤ R.cells) (hs : sN Mr - S0 ≤ R.slots) (hN : N0 ≤ cN M) (hS : S0 ≤ sN M) (hF : FR ad base D H0 gr sc nL s lv st M ls H locs)
    (hn : NX p l e R s m args below meth c Q ad base D H0 gr sc nL N0 S0 lv (rr.toList ++ st.drop (MT j).2.1) Mr (pc + 3)) : W p l e R s m args below meth c H locs (cN M - N0) (sN M - S0) Q (F0 m pc ls (st.map (enc ad))) := by
  have hmo := mOK_ok hj
  unfold mOK at hmo
  simp only [Bool.and_eq_true] at hmo
  obtain ⟨w1, w2, w3, w4, w5⟩ := hmo
  simp only [decide_eq_true_eq] at w4
  obtain ⟨n1, n2, n3, n4, n5, n6⟩ := w4
  unfold okC at hk
  simp only [Bool.and_eq_true, Bool.or_eq_true] at hk
  obtain ⟨k1, k2, k3, k4⟩ := hk
  have k1 := Nat.le_of_ble_eq_true k1
  have k2 := Nat.le_of_ble_eq_true k2
  have hgc := grow_c hg
  have hroom : 2 * (F0 m pc ls (st.map (enc ad))).monitorRoom + (((st.drop (MT j).2.1).map (enc ad)).map fun v => v.category).sum ≤ 8 := lv_room (by rw [wsum_cat]; exact k2)
  have hwarm : ∀ w ∈ [cdW j], ∀ (a' : Array Value) (U : State), s.WarmedH U.vm → w.before a' U = true := fun w hw a' U hW => by
    rw [List.mem_singleton.mp hw]
    exact (Kn.warm hX hW hKn).tbl w1 a'
  have hlen : (st.map (enc ad)) = (((st.take (MT j).2.1).reverse).map (enc ad)).reverse ++ (st.drop (MT j).2.1).map (enc ad) := by
    rw [← List.map_reverse, List.reverse_reverse, ← List.map_append, List.take_append_drop]
  have hsz : ls.size = nL := hF.1.1
  have hPs : PreS s H (CPc ad base D H0 gr Xt (st.take (MT j).2.1).reverse M) (((st.take (MT j).2.1).reverse).map (enc ad)) :=
    ⟨cblind hX _ _, fun U hU hW => ⟨rfl, Kn.warm hX hW hKn, by rw [hU]; exact HR.moved hW.alike hF.2.2.2.1⟩⟩
  have hfit : (cN M - N0) + (cN Mr - cN M) ≤ R.cells ∧ (sN M - S0) + (sN Mr - sN M) ≤ R.slots := by omega
  have hlo2 : 8 + ((MI j).2.2.1 + 11) + 40 * d ≤ R.locals := by omega
  have fin : ∀ (v : Option Value) (st₀ t : State) (L : List Loc), st₀.heap = H → s.vm.Alike t.vm → (∀ q ∈ L, base ≤ q.base) → CQc ad base D H0 gr sc rr Mr (((st.take (MT j).2.1).reverse).map (enc ad)).toArray st₀ (.returned v) t →
      W p l e R s m args below meth c t.heap (locs ++ L) (cN M - N0 + (cN Mr - cN M)) (sN M - S0 + (sN Mr - sN M)) Q (F0 m (pc + 3) ls (v.toList ++ (st.drop (MT j).2.1).map (enc ad))) := by
    intro v st₀ t L h0 hal hL ⟨q1, q2, q3, q4⟩
    have e1 : v = rr.map (enc ad) := by
      have := q1
      simp only [Outcome.returned.injEq] at this
      exact this
    subst e1
    have hmap : (rr.map (enc ad)).toList ++ (st.drop (MT j).2.1).map (enc ad) = (rr.toList ++ st.drop (MT j).2.1).map (enc ad) := by
      cases rr <;> rfl
    rw [hmap]
    refine W.cs (by omega : _ = cN Mr - N0) (by omega : _ = sN Mr - S0) ?_
    refine hn ls t.heap (locs ++ L) ⟨hF.1, fun q hq => (hF.2.1 q hq).mono hg, fun w hw => ?_, HR.moved hal.symm q2, q3, fun q hq => ?_⟩
    · rcases List.mem_append.mp hw with h | h
      · cases rr with
        | none => cases h
        | some y => rw [List.mem_singleton.mp h]; exact q4 y rfl
      · exact (hF.2.2.1 w (List.mem_of_mem_drop h)).mono hg
    · rcases List.mem_append.mp hq with h | h
      · exact hF.2.2.2.2.2 q h
      · exact hL q h
  have hfix : CallFix p m c cc nL s args [] (ownN own) := ⟨hx, hb, hml, hown, fun w h => by cases h⟩
  cases hmj : mj j with
  | true =>
    have hop : callOp j k = .invokestatic k := by unfold callOp; rw [hmj]; rfl
    rw [hop] at hd
    rw [hmj] at w3
    simp only [cond_true, Bool.and_eq_true, decide_eq_true_eq] at w3
    have hlenA : (((st.take (MT j).2.1).reverse).map (enc ad)).length = (MT j).2.1 := by simp [k1]
    have hpar : ∀ sig, parseMethodDescriptor (MI j).1.desc = some sig → (MT j).2.1 = sig.parameters.length := fun sig h => by
      have h2 := w3.2
      rw [h] at h2
      exact (Option.some.inj h2).symm
    rw [hlen]
    rcases hl with hl | hl
    · exact mm_cont (va_runS hfix hM ⟨⟨rfl, rfl, hfr, hlo2, hwarm, List.mem_singleton.mpr rfl, hKn.tbl w1 args, hKn.tbl w2 args, ⟨n1, n2⟩, hpar, hKn.ml hl args⟩, hKn.tbl w3.1 args⟩ hPs rfl hlenA hsz rfl hroom hd hfit) fin
    · exact mm_cont (va_runSN (host := "SeaFire") hfix hM ⟨⟨⟨rfl, rfl, hfr, hlo2, hwarm, List.mem_singleton.mpr rfl⟩, hKn.tbl w1 args, hKn.tbl w2 args, ⟨n1, n2⟩, hpar, hKn.mn hl args⟩, hKn.tbl w3.1 args, trivial⟩ hPs rfl hlenA hsz rfl hroom hd hfit) fin
  | false =>
    rw [hmj] at w3
    simp only [cond_false, Bool.and_eq_true, decide_eq_true_eq] at w3
    obtain ⟨v1, ⟨v2, v3, v4⟩, v5⟩ := w3
    -- the receiver
    have hpos : 0 < (MT j).2.1 := by
      cases hq : parseMethodDescriptor (MI j).1.desc with
      | none => rw [hq] at v4; cases v4
      | some sig => rw [hq] at v4; have h9 : sig.parameters.length + 1 = (MT j).2.1 := Option.some.inj v4; omega
    have hcl : 0 < (MT j).2.2.1 % 100 := by
      unfold mj at hmj
      rcases Nat.eq_zero_or_pos ((MT j).2.2.1 % 100) with h | h
      · rw [h] at hmj; cases hmj
      · exact h
    have hrec : tagOf (st.getD ((MT j).2.1 - 1) (vI 0)) + 1 = (MT j).2.2.1 % 100 := by
      rcases k4 with h | h
      · have := Nat.eq_of_beq_eq_true h; omega
      · exact Nat.eq_of_beq_eq_true h
    have hlt : (MT j).2.1 - 1 < st.length := by omega
    obtain ⟨t, a, hta⟩ : ∃ t a, st[(MT j).2.1 - 1]? = some (vR t a) ∧ t + 1 = (MT j).2.2.1 % 100 := by
      rw [List.getD_eq_getElem?_getD, List.getElem?_eq_getElem hlt] at hrec
      simp only [Option.getD_some] at hrec
      rw [List.getElem?_eq_getElem hlt]
      rcases hq : st[(MT j).2.1 - 1] with x | x | ⟨t, a⟩
      · rw [hq] at hrec; have : 99 + 1 = (MT j).2.2.1 % 100 := hrec; omega
      · rw [hq] at hrec; have : 99 + 1 = (MT j).2.2.1 % 100 := hrec; omega
      · rw [hq] at hrec; exact ⟨t, a, rfl, hrec⟩
    obtain ⟨hta, ht1⟩ := hta
    have ht13 : t < 13 := by omega
    have hT : (tgs M)[a]? = some t := by
      rcases hF.2.2.1 _ (List.mem_of_getElem? hta) with h | h
      · omega
      · exact h
    have hvs : (st.take (MT j).2.1).reverse = vR t a :: (st.take ((MT j).2.1 - 1)).reverse := by
      have h1 : st.take (MT j).2.1 = st.take ((MT j).2.1 - 1) ++ [vR t a] := by
        have h2 : (MT j).2.1 = ((MT j).2.1 - 1) + 1 := by omega
        rw [h2, List.take_succ, ← h2, hta]
        rfl
      rw [h1, List.reverse_append]
      rfl
    have hcls : (MI j).1.cls = (clsT t).1 := by rw [v2]; congr 2; omega
    have hstk : st.map (enc ad) = (((st.take ((MT j).2.1 - 1)).reverse).map (enc ad)).reverse ++ .ref (base + a) :: (st.drop (MT j).2.1).map (enc ad) := by
      rw [hlen, hvs]
      simp [enc, had t a (by omega)]
    have hvsE : ((st.take (MT j).2.1).reverse).map (enc ad) = .ref (base + a) :: ((st.take ((MT j).2.1 - 1)).reverse).map (enc ad) := by
      rw [hvs]
      simp [enc, had t a (by omega)]
    have hlenA : (((st.take ((MT j).2.1 - 1)).reverse).map (enc ad)).length = (MT j).2.1 - 1 := by simp; omega
    have hpar : ∀ sig, parseMethodDescriptor (MI j).1.desc = some sig → (MT j).2.1 - 1 = sig.parameters.length := fun sig h => by
      rw [h] at v4
      have h9 : sig.parameters.length + 1 = (MT j).2.1 := Option.some.inj v4
      omega
    rw [hvsE] at hPs fin
    rw [hstk]
    rw [hstk] at hroom
    by_cases hin : (MI j).1.name = "<init>"
    · have hop : callOp j k = .invokespecial k := by unfold callOp; rw [hmj]; simp [hin]
      rw [hop] at hd
      have hrt : (MI j).2.2.2.1 = none := by
        rw [decide_eq_true hin] at v5
        exact of_decide_eq_true v5
      rcases hl with hl | hl
      · exact mm_cont (va_runI hfix hM ⟨⟨rfl, rfl, hfr, hlo2, hwarm, by rw [← hrt]; exact List.mem_singleton.mpr rfl, by rw [← hrt]; exact hKn.tbl w1 args, hKn.tbl w2 args, ⟨n1, n2⟩, hpar, hKn.ml hl args⟩, hin, hKn.tbl v1 args⟩ hPs rfl hlenA hsz rfl hroom hd hfit) fin
      · exact mm_cont (va_runIN (host := "SeaFire") hfix hM ⟨⟨⟨rfl, rfl, hfr, hlo2, hwarm, by rw [← hrt]; exact List.mem_singleton.mpr rfl⟩, by rw [← hrt]; exact hKn.tbl w1 args, hKn.tbl w2 args, ⟨n1, n2⟩, hpar, hKn.mn hl args⟩, hin, hKn.tbl v1 args⟩ hPs rfl hlenA hsz rfl hroom hd hfit) fin
    · have hop : callOp j k = .invokevirtual k := by unfold callOp; rw [hmj]; simp [hin]
      rw [hop] at hd
      have hsel : inTbl (MI j).2.2.2.2.2.2.2.2.1 (.selects (MI j).1.cls (MI j).1 (MI j).1) = true := by
        rw [decide_eq_false hin] at v5
        exact v5
      have hrcv : ∃ cellB : Cell, H[base + a]? = some cellB ∧ cellB.vm.isStatics = false ∧ s.vm.findClass (MI j).1.cls = some cellB.cls := by
        obtain ⟨ca, h1, hP, h3, h4⟩ := hF.2.2.2.1
        rw [hcls]
        exact va_recv hKn.2.2.1 hP (ci := t) (q0 := a) (cl_at ht13) (by rw [ws_at ad hT, eOf_obj ht13])
      rcases hl with hl | hl
      · exact mm_cont (va_runV (C := (MI j).1.cls) hfix hM ⟨⟨rfl, rfl, hfr, hlo2, hwarm, List.mem_singleton.mpr rfl, hKn.tbl w1 args, hKn.tbl w2 args, ⟨n1, n2⟩, hpar, hKn.ml hl args⟩, hKn.tbl v1 args, hKn.tbl hsel args⟩ ⟨hPs.1, hrcv, hPs.2⟩ rfl hlenA hsz rfl hroom hd hfit) fin
      · exact mm_cont (va_runVN (C := (MI j).1.cls) (host := "SeaFire") hfix hM ⟨⟨⟨rfl, rfl, hfr, hlo2, hwarm, List.mem_singleton.mpr rfl⟩, hKn.tbl w1 args, hKn.tbl w2 args, ⟨n1, n2⟩, hpar, hKn.mn hl args⟩, hKn.tbl v1 args, hKn.tbl hsel args⟩ ⟨hPs.1, hrcv, hPs.2⟩ rfl hlenA hsz rfl hroom hd hfit) fin
end Call2
