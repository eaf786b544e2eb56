/-! the law's first ten rows: the two objects are made -/
theorem okR_ex {o : Option Res} {f : Mem → Bool} (h : okR o f = true) : ∃ M, o = some (none, M) ∧ f M = true := by
  rcases o with _ | ⟨_ | v, M⟩
  · cases h
  · exact ⟨M, rfl, h⟩
  · cases h
theorem init_ex : ∃ M1 M2, mkX = some (none, M1) ∧ mkM M1 = some (none, M2) ∧ (tgs M1).length = 179 ∧ (tgs M2).length = 191 ∧ sN M2 ≤ 7302250 ∧ okG M2 = true ∧ okI0 M2 = true ∧ okL0 M2 = true ∧ okE0 M2 = true := by
  obtain ⟨M1, h1, h2⟩ := okR_ex init_ok
  obtain ⟨h3, h4⟩ := Bool.and_eq_true_iff.mp h2
  obtain ⟨M2, h5, h6⟩ := okR_ex h4
  obtain ⟨h7, h8⟩ := Bool.and_eq_true_iff.mp h6
  obtain ⟨h9, h10⟩ := Bool.and_eq_true_iff.mp h8
  obtain ⟨h11, h12⟩ := Bool.and_eq_true_iff.mp h10
  obtain ⟨h13, h14⟩ := Bool.and_eq_true_iff.mp h12
  obtain ⟨h15, h16⟩ := Bool.and_eq_true_iff.mp h14
  exact ⟨M1, M2, h1, h5, Nat.eq_of_beq_eq_true h3, Nat.eq_of_beq_eq_true h7, Nat.le_of_ble_eq_true h9, h11, h13, h15, h16⟩
theorem run_at {j : Nat} (hj : j < 384) {args : List mv} {M M' : Mem} {sc : (Nat → Int) × Nat} (h : run none MT 20000 0 (MT j).1 (MT j).1 (ent 0 args) [] M = some (none, M')) : run none MT 20000 0 (MT j).1 (MT j).1 (ent 0 args) [] (setS M sc) = some (none, setS M' sc) := by
  rw [run_S (gr := none) (mt := MT) sc (fun j hj => MT_S hj) 20000 0 (MT j).1 (MT j).1 (ent 0 args) [] M (MT_S hj) (MT_S hj), h]
  rfl
section Begin
variable {p : Program} {l : Launch} {e : Env} {R : Room} {s : State} {m : MethodId} {args : Array Value} {below : List Frame} {meth : Method} {c : Code} {Q : State → Prop} {ad : Nat → Nat → Nat} {base : Nat} {D : va_G} {H0 : Heap} {sc : (Nat → Int) × Nat} {Xt : State → Prop}
theorem op_new (had : ∀ t a, t < 90 → ad t a = base + a) {j d pc k0 N0 S0 len : Nat} {raw : Instr} {ls : Array Slot} {H : Heap} {locs : List Loc} {lv : LV} {st : List mv} {M : Mem} (hCX : CX D Xt j d p R s m meth c) (hd : decode (MI j).2.1 pc = .ok (raw, len)) (hok : okI (MI j).2.2.2.2.1 (MI j).2.2.1 (MI j).2.2.2.2.2.1 (MI j).2.2.2.1 (MI j).1.name (MT j).1 pc len raw (.new k0) = true) (hF : FR ad base D H0 none sc (MI j).2.2.1 s lv st M ls H locs) (hN : N0 ≤ cN M) (hS : S0 ≤ sN M) (hk0 : Nat.ble k0 12 = true)
    (hc : cN (addT M [k0]) - N0 ≤ R.cells ∧ sN (addT M [k0]) - S0 ≤ R.slots) (hn : NX p l e R s m args below meth c Q ad base D H0 none sc (MI j).2.2.1 N0 S0 lv (vR k0 (tgs M).length :: st) (addT M [k0]) (pc + len)) : W p l e R s m args below meth c H locs (cN M - N0) (sN M - S0) Q (F0 m pc ls (st.map (enc ad))) := by
  refine sp_new had k0 j d p e R s m args below meth c Q N0 S0 pc ls H locs lv st M (none, M) raw len hCX hd hok hF hN hS (fun o => @ite _ (o = .inl (none, lv, vR k0 (tgs M).length :: st, addT M [k0])) (Classical.propDecidable _) (some (none, M)) none) ?_ ?_
  · show pN none (pB (Nat.ble k0 12) _) = _
    rw [hk0]
    exact if_pos rfl
  · intro lv' st' M' _ hq
    have e1 : (Sum.inl (none, lv', st', M') : Out) = .inl (none, lv, vR k0 (tgs M).length :: st, addT M [k0]) := by
      by_cases q : (Sum.inl (none, lv', st', M') : Out) = .inl (none, lv, vR k0 (tgs M).length :: st, addT M [k0])
      · exact q
      · have hq' := hq
        rw [if_neg q] at hq'
        cases hq'
    have e2 := Sum.inl.inj e1
    have e3 : lv' = lv := congrArg (fun q => q.2.1) e2
    have e4 : st' = vR k0 (tgs M).length :: st := congrArg (fun q => q.2.2.1) e2
    have e5 : M' = addT M [k0] := congrArg (fun q => q.2.2.2) e2
    subst e3 e4 e5
    exact ⟨hc, hn⟩
set_option maxRecDepth 8000 in
theorem law_dec : decode code 0 = .ok (.new 7, 3) ∧ decode code 3 = .ok (.dup, 1) ∧ decode code 4 = .ok (callOp 0 9, 3) ∧ decode code 7 = .ok (.astore_n 1, 1) ∧ decode code 8 = .ok (.new 10, 3) ∧ decode code 11 = .ok (.dup, 1) ∧ decode code 12 = .ok (callOp 211 12, 3) ∧ decode code 15 = .ok (.astore_n 2, 1) ∧ decode code 16 = .ok (.iconst 0, 1) ∧ decode code 17 = .ok (.istore_n 3, 1) := by decide +kernel
theorem law_oks : okI (MI 384).2.2.2.2.1 (MI 384).2.2.1 (MI 384).2.2.2.2.2.1 (MI 384).2.2.2.1 (MI 384).1.name (MT 384).1 0 3 (.new 7) (.new 11) = true ∧ okI (MI 384).2.2.2.2.1 (MI 384).2.2.1 (MI 384).2.2.2.2.2.1 (MI 384).2.2.2.1 (MI 384).1.name (MT 384).1 8 3 (.new 10) (.new 12) = true := by decide +kernel
theorem law_ml : (mlH 13 9 0 = true ∨ mnH 13 9 0 = true) ∧ (mlH 13 12 211 = true ∨ mnH 13 12 211 = true) ∧ okC (MT 0) [vR 11 0, vR 11 0] = true ∧ okC (MT 211) [vR 12 179, vR 12 179] = true ∧ (MT 0).2.1 = 1 ∧ (MT 211).2.1 = 1 ∧ rkO 0 ≤ 60 ∧ rkO 211 ≤ 60 ∧ 1 ≤ (MI 0).2.2.1 ∧ 1 ≤ (MI 211).2.2.1 := by decide +kernel
theorem law_begin (hX : XtOk Xt) (had : ∀ t a, t < 90 → ad t a = base + a) (hSim : SIM l ad base D H0 none sc Xt 20000) {M1 M2 : Mem} (e1 : mkX = some (none, M1)) (e2 : mkM M1 = some (none, M2)) (t1 : (tgs M1).length = 179) (t2 : (tgs M2).length = 191) (hsl : sN M2 ≤ R.slots) (hcl : 191 ≤ R.cells) (hfr : 64 ≤ R.frames) (hlo : 2560 ≤ R.locals) {d : Nat} (hCX : CX D Xt 384 d p R s m meth c) {ls : Array Slot} {H : Heap} {locs : List Loc}
    (hF : FR ad base D H0 none sc 4 s [(0, vR 90 0)] [] (setS mem0 sc) ls H locs) (hn : NX p l e R s m args below meth c Q ad base D H0 none sc 4 0 0 [(0, vR 90 0), (1, vR 11 0), (2, vR 12 179), (3, vI 0)] [] (setS M2 sc) 18) : W p l e R s m args below meth c H locs 0 0 Q (F0 m 0 ls []) := by
  obtain ⟨d0, d3, d4, d7, d8, d11, d12, d15, d16, d17⟩ := law_dec
  obtain ⟨k0, k8⟩ := law_oks
  obtain ⟨l0, l1, o0, o1, a0, a1, r0, r1, w0, w1⟩ := law_ml
  obtain ⟨m1, m2, m3, m4, m5, m6⟩ := MI_384
  obtain ⟨hx, hb, hml, hown, hKn, hnm, hfr2, hlo2⟩ := id hCX
  have hb' : c.code = code := hb.trans m1
  have hml' : c.maxLocals = 4 := hml.trans m2
  have hown' : s.vm.findClass (ownN 13) = some m.cls := by rw [← m4]; exact hown
  have x1 : run none MT 20000 0 (MT 0).1 (MT 0).1 (ent 0 [vR 11 0]) [] (addT (setS mem0 sc) [11]) = some (none, setS M1 sc) := run_at (by decide) (M := addT mem0 [11]) e1
  have x2 : run none MT 20000 0 (MT 211).1 (MT 211).1 (ent 0 [vR 12 179]) [] (addT (setS M1 sc) [12]) = some (none, setS M2 sc) := run_at (by decide) (M := addT M1 [12]) e2
  have g1 := run_grow none MT 20000 0 _ _ _ _ _ _ _ x1
  have g2 := run_grow none MT 20000 0 _ _ _ _ _ _ _ x2
  have gA : ∃ z, tgs (addT (setS M1 sc) [12]) = tgs (setS M1 sc) ++ z := ⟨[12], rfl⟩
  have c1 := grow_c g1
  have c2 := grow_c g2
  have cA := grow_c gA
  have n2 : cN (setS M2 sc) = 191 := t2
  have s2 : sN (setS M2 sc) = sN M2 := rfl
  have z0 : cN (setS mem0 sc) = 0 := rfl
  have z1 : sN (setS mem0 sc) = 0 := rfl
  refine W.cs (show 0 = cN (setS mem0 sc) - 0 from rfl) (show 0 = sN (setS mem0 sc) - 0 from rfl) ?_
  rw [← m2] at hF hn
  refine op_new had hCX (by rw [m1]; exact d0) k0 hF (Nat.zero_le _) (Nat.zero_le _) rfl ⟨by omega, by omega⟩ fun ls H locs hF => ?_
  refine op_dup hx hb' d3 rfl hF fun ls H locs hF => ?_
  have hM1 : CMet ad base D H0 none sc Xt l 0 (rkO 0 + 64 * 0) [vR 11 0] (addT (setS mem0 sc) [11]) none (setS M1 sc) := cmet_of l ad base D H0 none sc Xt hX hSim (by decide) (row_ok (by decide)).1 x1 (row_ok (by decide)).2 w0 (fun v hv => hF.2.2.1 v (List.mem_cons_of_mem _ hv)) hF.2.2.2.2.1
  refine op_call (n := 0) hX had hx hb' (hml'.trans m2.symm) hown' hKn (j := 0) (d := rkO 0 + 64 * 0) (by decide) d4 l0 o0 (by rw [a0]; exact hM1) g1 (by omega) (by omega) (by omega) (by omega) (Nat.zero_le _) (Nat.zero_le _) hF fun ls H locs hF => ?_
  rw [a0] at hF ⊢
  refine op_astore (n := 1) hx hb' hF d7 (by rw [m2]; decide) (Or.inr ⟨rfl, rfl, rfl⟩) fun ls H locs hF => ?_
  refine op_new had hCX (by rw [m1]; exact d8) k8 hF (Nat.zero_le _) (Nat.zero_le _) rfl ⟨by omega, by omega⟩ fun ls H locs hF => ?_
  have t1' : (tgs (setS M1 sc)).length = 179 := t1
  rw [t1'] at hF ⊢
  refine op_dup hx hb' d11 rfl hF fun ls H locs hF => ?_
  have hM2 : CMet ad base D H0 none sc Xt l 211 (rkO 211 + 64 * 0) [vR 12 179] (addT (setS M1 sc) [12]) none (setS M2 sc) := cmet_of l ad base D H0 none sc Xt hX hSim (by decide) (row_ok (by decide)).1 x2 (row_ok (by decide)).2 w1 (fun v hv => hF.2.2.1 v (List.mem_cons_of_mem _ hv)) hF.2.2.2.2.1
  refine op_call (n := 0) hX had hx hb' (hml'.trans m2.symm) hown' hKn (j := 211) (d := rkO 211 + 64 * 0) (by decide) d12 l1 o1 (by rw [a1]; exact hM2) g2 (by omega) (by omega) (by omega) (by omega) (Nat.zero_le _) (Nat.zero_le _) hF fun ls H locs hF => ?_
  rw [a1] at hF ⊢
  refine op_astore (n := 2) hx hb' hF d15 (by rw [m2]; decide) (Or.inr ⟨rfl, rfl, rfl⟩) fun ls H locs hF => ?_
  refine op_iconst (v := 0) (k1 := 0) hx hb' (by unfold rI; decide) hF d16 hown' (Or.inl ⟨rfl, rfl⟩) fun ls H locs hF => ?_
  exact op_istore (n := 3) hx hb' hF d17 (by rw [m2]; decide) (Or.inr ⟨rfl, rfl, rfl⟩) hn
end Begin
