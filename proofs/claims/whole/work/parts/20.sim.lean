theorem good_tag {M : Mem} {t a : Nat} (h : Good M (vR t a)) (ht : t < 90) : (tgs M)[a]? = some t := by
  rcases h with h | h
  · omega
  · exact h
theorem tag_lt {t n : Nat} (h : akind t = n) (hn : n ≤ 4) : t < 90 := by
  rcases Nat.lt_or_ge t 90 with q | q
  · exact q
  · exfalso
    have e : atab.getD (t - 20) (9, 0, 0) = (9, 0, 0) := by
      rw [List.getD_eq_getElem?_getD, List.getElem?_eq_none (by show 21 ≤ t - 20; omega)]
      rfl
    have e2 : akind t = 9 := by
      show (bif Nat.ble 20 t then (atab.getD (t - 20) (9, 0, 0)).1 else 9) = 9
      rw [e]
      cases Nat.ble 20 t <;> rfl
    omega
theorem fld_int {ad : Nat → Nat → Nat} {gr : Gr} {M : Mem} {a f : Nat} (h : fkd f = 0 ∨ fkd f = 3) : fldV ad gr M (f / 100) a (f % 100) = .int (Int32.ofInt (M.1 a (f % 100))) := by
  unfold fkd at h
  unfold fldV
  rcases h with h | h
  · rw [h]; rfl
  · rw [h]; rfl
theorem fld_long {ad : Nat → Nat → Nat} {gr : Gr} {M : Mem} {a f : Nat} (h : fkd f = 1) : fldV ad gr M (f / 100) a (f % 100) = .long (Int64.ofInt (M.2.1 a (f % 100))) := by
  unfold fkd at h
  unfold fldV
  rw [h]; rfl
theorem fld_ref {ad : Nat → Nat → Nat} {gr : Gr} {M : Mem} {a f : Nat} {q : Nat × Nat} (h : fkd f = 2) (hq : gF gr M f a = some q) : fldV ad gr M (f / 100) a (f % 100) = .ref (ad q.1 q.2) := by
  unfold fkd at h
  unfold fldV
  rw [h]
  show va_rf ((gF gr M (100 * (f / 100) + f % 100) a).map fun q => ad q.1 q.2) = _
  rw [Nat.div_add_mod, hq]
  rfl
theorem fld_putI {ad : Nat → Nat → Nat} {gr : Gr} {M : Mem} {a f j : Nat} {x : Int} (h : fkd f = 0 ∨ fkd f = 3) (hj : j < nf (f / 100)) : fldV ad gr (putI M a (f % 100) x) (f / 100) a j = if j = f % 100 then .int (Int32.ofInt x) else fldV ad gr M (f / 100) a j := by
  by_cases hjk : j = f % 100
  · subst hjk
    rw [if_pos rfl, fld_int h]
    simp [up2]
  · rw [if_neg hjk]
    have e : (putI M a (f % 100) x).1 a j = M.1 a j := by simp [up2, hjk]
    unfold fldV
    split
    · rfl
    · cases gr <;> rfl
    · rw [e]
theorem fld_putL {ad : Nat → Nat → Nat} {gr : Gr} {M : Mem} {a f j : Nat} {x : Int} (h : fkd f = 1) (hj : j < nf (f / 100)) : fldV ad gr (putL M a (f % 100) x) (f / 100) a j = if j = f % 100 then .long (Int64.ofInt x) else fldV ad gr M (f / 100) a j := by
  by_cases hjk : j = f % 100
  · subst hjk
    rw [if_pos rfl, fld_long h]
    simp [up2]
  · rw [if_neg hjk]
    have e : (putL M a (f % 100) x).2.1 a j = M.2.1 a j := by simp [up2, hjk]
    unfold fldV
    split
    · rw [e]
    · cases gr <;> rfl
    · rfl
def tyL : List (Nat → FieldType) := [tyX0, tyX1, tyX2, tyX3, tyX4, tyX5, tyX6, tyX7, tyX8, tyX9, tyX10, tyX11, tyX12]
def tyC (t k : Nat) : FieldType := (tyL.getD t tyX0) k
def isRT (ty : FieldType) : Bool := match ty with
  | .object _ => true
  | .array _ => true
  | _ => false
def tyKd (ty : FieldType) (kd : Nat) : Bool := match kd with
  | 0 => decide (ty = .int)
  | 1 => decide (ty = .long)
  | 2 => isRT ty
  | 3 => decide (ty = .boolean)
  | _ => false
theorem ty_dec : (List.range 13).all (fun t => (List.range (nf t)).all fun k => decide (parseFieldDescriptor ((clsT t).2.1 k).2.2.1 = some (tyC t k)) && tyKd (tyC t k) ((ftab.getD t []).getD k 9)) = true := by decide +kernel
theorem nm_dec : (List.range 13).all (fun t => (List.range (nf t)).all fun a => (List.range (nf t)).all fun b => decide (a = b) || decide (((clsT t).2.1 a).2.1 ≠ ((clsT t).2.1 b).2.1)) = true := by decide +kernel
theorem ty_all {t : Nat} (h : t < 13) : (∀ k, k < nf t → parseFieldDescriptor ((clsT t).2.1 k).2.2.1 = some (tyC t k) ∧ tyKd (tyC t k) ((ftab.getD t []).getD k 9) = true) ∧ ∀ a, a < nf t → ∀ b, b < nf t → a ≠ b → ((clsT t).2.1 a).2.1 ≠ ((clsT t).2.1 b).2.1 := by
  refine ⟨fun k hk => ?_, fun a ha b hb hab => ?_⟩
  · have h1 := List.all_eq_true.mp (List.all_eq_true.mp ty_dec t (List.mem_range.mpr h)) k (List.mem_range.mpr hk)
    simp only [Bool.and_eq_true, decide_eq_true_eq] at h1
    exact h1
  · have h1 := List.all_eq_true.mp (List.all_eq_true.mp (List.all_eq_true.mp nm_dec t (List.mem_range.mpr h)) a (List.mem_range.mpr ha)) b (List.mem_range.mpr hb)
    simp only [Bool.or_eq_true, decide_eq_true_eq] at h1
    rcases h1 with h1 | h1
    · exact absurd h1 hab
    · exact h1
theorem ty_int {f : Nat} (h : tyKd (tyC (f / 100) (f % 100)) ((ftab.getD (f / 100) []).getD (f % 100) 9) = true) (hk : fkd f = 0) : tyC (f / 100) (f % 100) = .int := by
  unfold fkd at hk; rw [hk] at h; exact of_decide_eq_true h
theorem ty_long {f : Nat} (h : tyKd (tyC (f / 100) (f % 100)) ((ftab.getD (f / 100) []).getD (f % 100) 9) = true) (hk : fkd f = 1) : tyC (f / 100) (f % 100) = .long := by
  unfold fkd at hk; rw [hk] at h; exact of_decide_eq_true h
theorem ty_bool {f : Nat} (h : tyKd (tyC (f / 100) (f % 100)) ((ftab.getD (f / 100) []).getD (f % 100) 9) = true) (hk : fkd f = 3) : tyC (f / 100) (f % 100) = .boolean := by
  unfold fkd at hk; rw [hk] at h; exact of_decide_eq_true h
theorem simp_ok {raw i : Instr} {len : Nat} (h : (true && decide (raw = i ∧ len = 1)) = true) : raw = i ∧ len = 1 := by simpa using h
theorem jOk_spec {all : List Row} {t : Int} {pc : Nat} {off : Int} (h : jOk all t pc off = true) : ∃ tgt : Nat, (pc : Int) + off = (tgt : Int) ∧ ∃ row, all[t.toNat]? = some row ∧ row.1 = tgt := by
  unfold jOk at h
  cases hq : all[t.toNat]? with
  | none => rw [hq] at h; cases h
  | some row => rw [hq] at h; exact ⟨row.1, of_decide_eq_true h, row, rfl, rfl⟩
theorem obj_in : (Cond.instanceMethod objectInit ∈ lw_tbl ∧ goodWord (Cond.instanceMethod objectInit) = true) ∧ (Cond.code objectInit ⟨#[0xb1]⟩ 1 none ∈ lw_tbl ∧ goodWord (Cond.code objectInit ⟨#[0xb1]⟩ 1 none) = true) := by decide +kernel
theorem tbk_out {β : Type} {x d : Int} {f : Int → Option β} : ∀ (l : List Int) (lo : Int), (x < lo ∨ lo + l.length ≤ x) → tbk x d lo l f = f d
  | [], _, _ => rfl
  | q :: l, lo, h => by
    have h1 : ¬ x = lo := by simp only [List.length_cons] at h; omega
    show (if x = lo then f q else tbk x d (lo + 1) l f) = f d
    rw [if_neg h1]
    exact tbk_out l (lo + 1) (by simp only [List.length_cons] at h; omega)
theorem tbk_in {β : Type} {x d : Int} {f : Int → Option β} : ∀ (l : List Int) (lo : Int) (k : Nat) (q : Int), x = lo + k → l[k]? = some q → tbk x d lo l f = f q
  | [], _, _, _, _, h => by simp at h
  | q0 :: l, lo, 0, q, h, hq => by
    have h1 : x = lo := by omega
    show (if x = lo then f q0 else tbk x d (lo + 1) l f) = f q
    rw [if_pos h1]
    have : q0 = q := by simpa using hq
    rw [this]
  | q0 :: l, lo, k + 1, q, h, hq => by
    have h1 : ¬ x = lo := by omega
    show (if x = lo then f q0 else tbk x d (lo + 1) l f) = f q
    rw [if_neg h1]
    exact tbk_in l (lo + 1) k q (by omega) (by simpa using hq)
theorem luk_off {β : Type} {x d d0 : Int} {f : Int → Option β} {all : List Row} {pc : Nat} (hd : jOk all d pc d0 = true) : ∀ (l l0 : List (Int × Int)), l.map (·.1) = l0.map (·.1) → (l.zip l0).all (fun q => jOk all q.1.2 pc q.2.2) = true → ∃ t, luk x d l f = f t ∧ jOk all t pc (Op.lookupswitch.offset l0 d0 x) = true
  | [], [], _, _ => ⟨d, rfl, hd⟩
  | [], _ :: _, h, _ => by cases h
  | _ :: _, [], h, _ => by cases h
  | q :: l, q0 :: l0, h, ha => by
    have h1 : q.1 = q0.1 := by have := congrArg List.head? h; simpa using this
    have h2 : l.map (·.1) = l0.map (·.1) := by have := congrArg List.tail h; simpa using this
    simp only [List.zip_cons_cons, List.all_cons, Bool.and_eq_true] at ha
    obtain ⟨t, e1, e2⟩ := luk_off hd l l0 h2 ha.2
    by_cases hx : x = q.1
    · refine ⟨q.2, ?_, ?_⟩
      · show (if x = q.1 then f q.2 else luk x d l f) = f q.2
        rw [if_pos hx]
      · have e : Op.lookupswitch.offset (q0 :: l0) d0 x = q0.2 := by
          rw [h1] at hx
          obtain ⟨a, b⟩ := q0
          simp [Op.lookupswitch.offset, hx]
        rw [e]
        exact ha.1
    · refine ⟨t, ?_, ?_⟩
      · show (if x = q.1 then f q.2 else luk x d l f) = f t
        rw [if_neg hx, e1]
      · have e : Op.lookupswitch.offset (q0 :: l0) d0 x = Op.lookupswitch.offset l0 d0 x := by
          rw [h1] at hx
          obtain ⟨a, b⟩ := q0
          simp only at hx
          simp [Op.lookupswitch.offset, hx, Ne.symm hx]
        rw [e]
        exact e2
section Sw
variable {p : Program} {l : Launch} {e : Env} {R : Room} {s : State} {m : MethodId} {args : Array Value} {below : List Frame} {meth : Method} {c : Code} {Q : State → Prop} {cc : ByteArray} {pc len : Nat} {ad : Nat → Nat → Nat} {base : Nat} {D : va_G} {H0 : Heap} {gr : Gr} {sc : (Nat → Int) × Nat} {nL N0 S0 : Nat}
variable {lv : LV} {st : List mv} {M : Mem} {ls : Array Slot} {H : Heap} {locs : List Loc} {own maxL rk : Nat} {rt : Option FieldType} {nm : String} {all : List Row} {raw : Instr} {dd lo hi x : Int} {res : Res} {K : Int → Option Res}
theorem op_table {offs : Array Int} (hx : p.tables.exec = Jvm.exec) (hb : c.code = cc) (hd : decode cc pc = .ok (raw, len)) (hok : okI own maxL rk rt nm all pc len raw (.tableswitch dd lo hi offs) = true) (hF : FR ad base D H0 gr sc nL s lv (vI x :: st) M ls H locs) (h : tbk x dd lo offs.toList K = some res)
    (hn : ∀ t, K t = some res → ∀ row, all[t.toNat]? = some row → NX p l e R s m args below meth c Q ad base D H0 gr sc nL N0 S0 lv st M row.1) : W p l e R s m args below meth c H locs (cN M - N0) (sN M - S0) Q (F0 m pc ls ((vI x :: st).map (enc ad))) := by
  have rx : rI x := hF.top
  cases raw with
  | tableswitch d0 lo0 hi0 offs0 =>
    simp only [okI, Bool.and_eq_true] at hok
    obtain ⟨h1, h2, h3⟩ := hok
    obtain ⟨rfl, rfl, hsz, hlen⟩ := of_decide_eq_true h1
    by_cases hin : x < lo ∨ hi < x
    · obtain ⟨tgt, ht1, row, hr, rfl⟩ := jOk_spec h2
      have hk : K dd = some res := by
        rw [tbk_out offs.toList lo (by simp; omega)] at h
        exact h
      exact lv_tableOut hx hb hd (by rw [toI' rx]; exact hin) ht1 (hn dd hk row hr ls H locs hF.pop)
    · have hlt : (x - lo).toNat < offs.size := by omega
      have hlt0 : (x - lo).toNat < offs0.size := by omega
      have hk : K offs[(x - lo).toNat] = some res := by
        rw [tbk_in offs.toList lo (x - lo).toNat offs[(x - lo).toNat] (by omega) (by simp [hlt])] at h
        exact h
      have hz : (offs[(x - lo).toNat], offs0[(x - lo).toNat]) ∈ offs.toList.zip offs0.toList := by
        apply List.mem_of_getElem? (i := (x - lo).toNat)
        rw [List.getElem?_zip_eq_some]
        simp [hlt, hlt0]
      obtain ⟨tgt, ht1, row, hr, rfl⟩ := jOk_spec (List.all_eq_true.mp h3 _ hz)
      exact lv_tableIn hx hb hd (by rw [toI' rx]; omega) (by rw [toI' rx]; omega) (by rw [toI' rx]; exact Array.getElem?_eq_getElem hlt0) ht1 (hn _ hk row hr ls H locs hF.pop)
  | _ => cases hok
theorem op_lookup {ps : Array (Int × Int)} (hx : p.tables.exec = Jvm.exec) (hb : c.code = cc) (hd : decode cc pc = .ok (raw, len)) (hok : okI own maxL rk rt nm all pc len raw (.lookupswitch dd ps) = true) (hF : FR ad base D H0 gr sc nL s lv (vI x :: st) M ls H locs) (h : luk x dd ps.toList K = some res)
    (hn : ∀ t, K t = some res → ∀ row, all[t.toNat]? = some row → NX p l e R s m args below meth c Q ad base D H0 gr sc nL N0 S0 lv st M row.1) : W p l e R s m args below meth c H locs (cN M - N0) (sN M - S0) Q (F0 m pc ls ((vI x :: st).map (enc ad))) := by
  have rx : rI x := hF.top
  cases raw with
  | lookupswitch d0 ps0 =>
    simp only [okI, Bool.and_eq_true] at hok
    obtain ⟨h1, h2, h3, h4⟩ := hok
    obtain ⟨t, e1, e2⟩ := luk_off (x := x) (f := K) h3 ps.toList ps0.toList (of_decide_eq_true h1) h4
    rw [e1] at h
    obtain ⟨tgt, ht1, row, hr, rfl⟩ := jOk_spec e2
    exact lv_lookup hx hb hd h2 (by rw [toI' rx]) ht1 (hn t h row hr ls H locs hF.pop)
  | _ => cases hok
end Sw
section SimM
variable (l : Launch) (ad : Nat → Nat → Nat) (base : Nat) (D : va_G) (H0 : Heap) (gr : Gr) (sc : (Nat → Int) × Nat) (Xt : State → Prop)
set_option maxHeartbeats 8000000 in
theorem sim_step (hX : XtOk Xt) (had : ∀ t a, t < 90 → ad t a = base + a) (hrow : ∀ j, j < 384 → RowOk j ∧ headPc (MT j).1 = some 0) (hrk : ∀ j, (MT j).1 ≠ [] → 1 ≤ rkO j) (hsp : SpO l ad base D H0 gr sc Xt) {n : Nat} (ih : SIM l ad base D H0 gr sc Xt n) : SIM l ad base D H0 gr sc Xt (n + 1) := by
  intro j d rows lv0 st M r Mf hro hrun hix p e R s m args below meth c Q N0 S0 pc ls H locs hpc hCX hRT hN hS hcR hsR hF0
  obtain ⟨hx, hb, hml, hown, hKn, hnm, hfr, hlo⟩ := id hCX
  obtain ⟨ix, hrows⟩ := hix
  rcases rows with _ | ⟨⟨pc', kp, i⟩, tl⟩
  · cases hpc
  obtain rfl : pc = pc' := (Option.some.inj hpc).symm
  obtain ⟨raw, len, hd, hok, hfall⟩ := hro ix pc kp i tl hrows.symm
  have rk_pos := hrk j (fun h0 => by rw [h0] at hrows; simp at hrows)
  have htl : tl = (MT j).1.drop (ix + 1) := by
    have := congrArg List.tail hrows
    simpa [List.tail_drop] using this
  have hF : FR ad base D H0 gr sc (MI j).2.2.1 s (lvCut kp lv0) st M ls H locs := ⟨lv_has_sub hF0.1 (fun q hq => by
    obtain ⟨q', h1, rfl⟩ := List.mem_map.mp hq
    exact List.mem_map.mpr ⟨q', lvCut_mem h1, rfl⟩), fun q hq => hF0.2.1 q (lvCut_mem hq), hF0.2.2⟩
  have h : act gr i (lvCut kp lv0) st M (KK MT (run gr MT n) (run gr MT n) d (MT j).1 tl M) = some (r, Mf) := hrun
  clear hrun hF0
  generalize lvCut kp lv0 = lv at hF h
  have nxg : ∀ {lv' : LV} {st' : List mv} {M' : Mem}, (∃ z, tgs M' = tgs M ++ z) → noFall i = false → run gr MT n d (MT j).1 tl lv' st' M' = some (r, Mf) → NX p l e R s m args below meth c Q ad base D H0 gr sc (MI j).2.2.1 N0 S0 lv' st' M' (pc + len) := by
    intro lv' st' M' hg hnf hr ls' H' locs' hF'
    have hgc := grow_c hg
    refine ih j d tl lv' st' M' r Mf hro hr ⟨ix + 1, htl⟩ p e R s m args below meth c Q N0 S0 _ ls' H' locs' ?_ hCX hRT (by omega) (by omega) hcR hsR hF'
    rcases hfall with q | q
    · rw [hnf] at q; cases q
    · exact q
  have njg : ∀ {lv' : LV} {st' : List mv} {M' : Mem} {k tgt : Nat}, tgs M' = tgs M → run gr MT n d (MT j).1 ((MT j).1.drop k) lv' st' M' = some (r, Mf) → (∃ row, (MT j).1[k]? = some row ∧ row.1 = tgt) → NX p l e R s m args below meth c Q ad base D H0 gr sc (MI j).2.2.1 N0 S0 lv' st' M' tgt := by
    intro lv' st' M' k tgt hg hr hrw ls' H' locs' hF'
    obtain ⟨row, hr1, rfl⟩ := hrw
    have e1 : cN M' = cN M := by unfold cN; rw [hg]
    have e2 : sN M' = sN M := by unfold sN; rw [hg]
    refine ih j d _ lv' st' M' r Mf hro hr ⟨k, rfl⟩ p e R s m args below meth c Q N0 S0 _ ls' H' locs' ?_ hCX hRT (by omega) (by omega) hcR hsR hF'
    have hlt := (List.getElem?_eq_some_iff.mp hr1)
    rw [List.drop_eq_getElem_cons hlt.1, hlt.2]
    rfl
  have nj : ∀ {lv' : LV} {st' : List mv} {M' : Mem} {t : Int} {tgt : Nat}, tgs M' = tgs M → KK MT (run gr MT n) (run gr MT n) d (MT j).1 tl M (.inl (some t.toNat, lv', st', M')) = some (r, Mf) → (∃ row, (MT j).1[t.toNat]? = some row ∧ row.1 = tgt) → NX p l e R s m args below meth c Q ad base D H0 gr sc (MI j).2.2.1 N0 S0 lv' st' M' tgt := fun hg hr hw => njg hg hr hw
  have call : ∀ {j' k d' : Nat}, j' < 384 → decode (MI j).2.1 pc = .ok (callOp j' k, 3) → (mlH (MI j).2.2.2.2.1 k j' = true ∨ mnH (MI j).2.2.2.2.1 k j' = true) → rkO j' + 64 * d' + 1 ≤ R.frames → 40 * (rkO j' + 64 * d' + 1) ≤ R.locals →
      (okC (MT j') st = true → (match (MT j').2.2.2 with
        | 0 => bV (run gr MT n d' (MT j').1 (MT j').1 (ent 0 (st.take (MT j').2.1).reverse) [] M) fun M => run gr MT n d (MT j).1 tl lv (st.drop (MT j').2.1) M
        | 1 => bI (run gr MT n d' (MT j').1 (MT j').1 (ent 0 (st.take (MT j').2.1).reverse) [] M) fun x M => run gr MT n d (MT j).1 tl lv (vI x :: st.drop (MT j').2.1) M
        | 2 => bL (run gr MT n d' (MT j').1 (MT j').1 (ent 0 (st.take (MT j').2.1).reverse) [] M) fun x M => run gr MT n d (MT j).1 tl lv (vL x :: st.drop (MT j').2.1) M
        | k + 3 => bR k (run gr MT n d' (MT j').1 (MT j').1 (ent 0 (st.take (MT j').2.1).reverse) [] M) fun a M => run gr MT n d (MT j).1 tl lv (vR k a :: st.drop (MT j').2.1) M) = some (r, Mf)) → okC (MT j') st = true → len = 3 → noFall i = false →
      W p l e R s m args below meth c H locs (cN M - N0) (sN M - S0) Q (F0 m pc ls (st.map (enc ad))) := by
    intro j' k d' hj' hdd hlk hf1 hl1 hm hok' hlen hnf
    subst hlen
    have hm := hm hok'
    have key : ∀ (rr : Option mv) (Mr : Mem), run gr MT n d' (MT j').1 (MT j').1 (ent 0 (st.take (MT j').2.1).reverse) [] M = some (rr, Mr) → run gr MT n d (MT j).1 tl lv (rr.toList ++ st.drop (MT j').2.1) Mr = some (r, Mf) → W p l e R s m args below meth c H locs (cN M - N0) (sN M - S0) Q (F0 m pc ls (st.map (enc ad))) := by
      intro rr Mr hr1 hr2
      have hg := run_grow gr MT n _ _ _ _ _ _ _ _ hr1
      have hg2 := grow_c (run_grow gr MT n _ _ _ _ _ _ _ _ hr2)
      have hmo := mOK_ok hj'
      unfold mOK at hmo
      simp only [Bool.and_eq_true] at hmo
      have w4 := hmo.2.2.2.1
      simp only [decide_eq_true_eq] at w4
      have hws : wsum (st.take (MT j').2.1).reverse ≤ (MI j').2.2.1 := by
        unfold okC at hok'
        simp only [Bool.and_eq_true] at hok'
        have h3 := Nat.eq_of_beq_eq_true hok'.2.2.1
        have h4 : ∀ (us : List mv), wsum us.reverse = wsum us := by
          have app : ∀ (a b : List mv), wsum (a ++ b) = wsum a + wsum b := by
            intro a b
            induction a with
            | nil => simp [wsum]
            | cons v t ih => show (bif isL v then 2 else 1) + wsum (t ++ b) = (bif isL v then 2 else 1) + wsum t + wsum b; rw [ih]; omega
          intro us
          induction us with
          | nil => rfl
          | cons v t ih => rw [List.reverse_cons, app, ih]; show wsum t + ((bif isL v then 2 else 1) + 0) = (bif isL v then 2 else 1) + wsum t; omega
        rw [h4, h3]
        exact w4.2.2.2.1
      have hM := cmet_of l ad base D H0 gr sc Xt hX ih hj' (hrow j' hj').1 hr1 (hrow j' hj').2 hws (fun v hv => hF.2.2.1 v (List.mem_of_mem_take (List.mem_reverse.mp hv))) hF.2.2.2.2.1
      exact op_call (n := 0) hX had hx hb hml hown hKn hj' hdd hlk hok' hM hg hf1 hl1 (by omega) (by omega) hN hS hF (nxg hg hnf hr2)
    revert hm
    split
    · intro hm
      obtain ⟨M1, e1, e2⟩ := bV_fin hm
      exact key none M1 e1 e2
    · intro hm
      obtain ⟨x1, M1, e1, e2⟩ := bI_fin hm
      exact key (some (vI x1)) M1 e1 e2
    · intro hm
      obtain ⟨x1, M1, e1, e2⟩ := bL_fin hm
      exact key (some (vL x1)) M1 e1 e2
    · intro hm
      obtain ⟨x1, M1, e1, e2⟩ := bR_fin hm
      exact key (some (vR _ x1)) M1 e1 e2
  have okc_of : ∀ {rc : Bool} {j' : Nat}, KK MT (run gr MT n) (run gr MT n) d (MT j).1 tl M (.inr (.inl (rc, j', lv, st))) = some (r, Mf) → okC (MT j') st = true := by
    intro rc j' hh
    dsimp only [KK] at hh
    exact (pB_some hh).1
  have sp : specI i = true → noFall i = false → W p l e R s m args below meth c H locs (cN M - N0) (sN M - S0) Q (F0 m pc ls (st.map (enc ad))) := by
    intro hs hnf
    refine hsp i hs j d p e R s m args below meth c Q N0 S0 pc ls H locs lv st M (r, Mf) raw len hCX hd hok hF hN hS _ h (fun lv' st' M' hg hr => ⟨?_, nxg hg hnf hr⟩)
    have h1 := grow_c (run_grow gr MT n _ _ _ _ _ _ _ _ (show run gr MT n d (MT j).1 tl lv' st' M' = some (r, Mf) from hr))
    omega
  have nx : ∀ {lv' : LV} {st' : List mv} {M' : Mem}, tgs M' = tgs M → noFall i = false → KK MT (run gr MT n) (run gr MT n) d (MT j).1 tl M (.inl (none, lv', st', M')) = some (r, Mf) → NX p l e R s m args below meth c Q ad base D H0 gr sc (MI j).2.2.1 N0 S0 lv' st' M' (pc + len) := fun hg hnf hr => nxg ⟨[], by rw [hg, List.append_nil]⟩ hnf hr
  cases i with
  | iadd =>
    obtain ⟨y, s1, rfl, h⟩ := pI_some h
    obtain ⟨x, s2, rfl, h⟩ := pI_some h
    obtain ⟨rfl, rfl⟩ := simp_ok hok
    exact op_iadd hx hb hd hF (nx rfl rfl h)
  | isub =>
    obtain ⟨y, s1, rfl, h⟩ := pI_some h
    obtain ⟨x, s2, rfl, h⟩ := pI_some h
    obtain ⟨rfl, rfl⟩ := simp_ok hok
    exact op_isub hx hb hd hF (nx rfl rfl h)
  | imul =>
    obtain ⟨y, s1, rfl, h⟩ := pI_some h
    obtain ⟨x, s2, rfl, h⟩ := pI_some h
    obtain ⟨rfl, rfl⟩ := simp_ok hok
    exact op_imul hx hb hd hF (nx rfl rfl h)
  | iand =>
    obtain ⟨y, s1, rfl, h⟩ := pI_some h
    obtain ⟨x, s2, rfl, h⟩ := pI_some h
    obtain ⟨rfl, rfl⟩ := simp_ok hok
    exact op_iand hx hb hd hF (nx rfl rfl h)
  | ior =>
    obtain ⟨y, s1, rfl, h⟩ := pI_some h
    obtain ⟨x, s2, rfl, h⟩ := pI_some h
    obtain ⟨rfl, rfl⟩ := simp_ok hok
    exact op_ior hx hb hd hF (nx rfl rfl h)
  | ixor =>
    obtain ⟨y, s1, rfl, h⟩ := pI_some h
    obtain ⟨x, s2, rfl, h⟩ := pI_some h
    obtain ⟨rfl, rfl⟩ := simp_ok hok
    exact op_ixor hx hb hd hF (nx rfl rfl h)
  | ishl =>
    obtain ⟨y, s1, rfl, h⟩ := pI_some h
    obtain ⟨x, s2, rfl, h⟩ := pI_some h
    obtain ⟨rfl, rfl⟩ := simp_ok hok
    exact op_ishl hx hb hd hF (nx rfl rfl h)
  | ishr =>
    obtain ⟨y, s1, rfl, h⟩ := pI_some h
    obtain ⟨x, s2, rfl, h⟩ := pI_some h
    obtain ⟨rfl, rfl⟩ := simp_ok hok
    exact op_ishr hx hb hd hF (nx rfl rfl h)
  | iushr =>
    obtain ⟨y, s1, rfl, h⟩ := pI_some h
    obtain ⟨x, s2, rfl, h⟩ := pI_some h
    obtain ⟨rfl, rfl⟩ := simp_ok hok
    exact op_iushr hx hb hd hF (nx rfl rfl h)
  | idiv =>
    obtain ⟨y, s1, rfl, h⟩ := pI_some h
    obtain ⟨x, s2, rfl, h⟩ := pI_some h
    obtain ⟨h0, h⟩ := ifn_some h
    obtain ⟨rfl, rfl⟩ := simp_ok hok
    exact op_idiv hx hb hd h0 hF (nx rfl rfl h)
  | irem =>
    obtain ⟨y, s1, rfl, h⟩ := pI_some h
    obtain ⟨x, s2, rfl, h⟩ := pI_some h
    obtain ⟨h0, h⟩ := ifn_some h
    obtain ⟨rfl, rfl⟩ := simp_ok hok
    exact op_irem hx hb hd h0 hF (nx rfl rfl h)
  | ladd =>
    obtain ⟨y, s1, rfl, h⟩ := pL_some h
    obtain ⟨x, s2, rfl, h⟩ := pL_some h
    obtain ⟨rfl, rfl⟩ := simp_ok hok
    exact op_ladd hx hb hd hF (nx rfl rfl h)
  | lsub =>
    obtain ⟨y, s1, rfl, h⟩ := pL_some h
    obtain ⟨x, s2, rfl, h⟩ := pL_some h
    obtain ⟨rfl, rfl⟩ := simp_ok hok
    exact op_lsub hx hb hd hF (nx rfl rfl h)
  | lmul =>
    obtain ⟨y, s1, rfl, h⟩ := pL_some h
    obtain ⟨x, s2, rfl, h⟩ := pL_some h
    obtain ⟨rfl, rfl⟩ := simp_ok hok
    exact op_lmul hx hb hd hF (nx rfl rfl h)
  | land =>
    obtain ⟨y, s1, rfl, h⟩ := pL_some h
    obtain ⟨x, s2, rfl, h⟩ := pL_some h
    obtain ⟨rfl, rfl⟩ := simp_ok hok
    exact op_land hx hb hd hF (nx rfl rfl h)
  | lor =>
    obtain ⟨y, s1, rfl, h⟩ := pL_some h
    obtain ⟨x, s2, rfl, h⟩ := pL_some h
    obtain ⟨rfl, rfl⟩ := simp_ok hok
    exact op_lor hx hb hd hF (nx rfl rfl h)
  | lxor =>
    obtain ⟨y, s1, rfl, h⟩ := pL_some h
    obtain ⟨x, s2, rfl, h⟩ := pL_some h
    obtain ⟨rfl, rfl⟩ := simp_ok hok
    exact op_lxor hx hb hd hF (nx rfl rfl h)
  | ldiv =>
    obtain ⟨y, s1, rfl, h⟩ := pL_some h
    obtain ⟨x, s2, rfl, h⟩ := pL_some h
    obtain ⟨h0, h⟩ := ifn_some h
    obtain ⟨rfl, rfl⟩ := simp_ok hok
    exact op_ldiv hx hb hd h0 hF (nx rfl rfl h)
  | lrem =>
    obtain ⟨y, s1, rfl, h⟩ := pL_some h
    obtain ⟨x, s2, rfl, h⟩ := pL_some h
    obtain ⟨h0, h⟩ := ifn_some h
    obtain ⟨rfl, rfl⟩ := simp_ok hok
    exact op_lrem hx hb hd h0 hF (nx rfl rfl h)
  | lshl =>
    obtain ⟨y, s1, rfl, h⟩ := pI_some h
    obtain ⟨x, s2, rfl, h⟩ := pL_some h
    obtain ⟨rfl, rfl⟩ := simp_ok hok
    exact op_lshl hx hb hd hF (nx rfl rfl h)
  | lushr =>
    obtain ⟨y, s1, rfl, h⟩ := pI_some h
    obtain ⟨x, s2, rfl, h⟩ := pL_some h
    obtain ⟨rfl, rfl⟩ := simp_ok hok
    exact op_lushr hx hb hd hF (nx rfl rfl h)
  | lcmp =>
    obtain ⟨y, s1, rfl, h⟩ := pL_some h
    obtain ⟨x, s2, rfl, h⟩ := pL_some h
    obtain ⟨rfl, rfl⟩ := simp_ok hok
    exact op_lcmp hx hb hd hF (nx rfl rfl h)
  | lneg =>
    obtain ⟨x, s1, rfl, h⟩ := pL_some h
    obtain ⟨rfl, rfl⟩ := simp_ok hok
    exact op_lneg hx hb hd hF (nx rfl rfl h)
  | i2l =>
    obtain ⟨x, s1, rfl, h⟩ := pI_some h
    obtain ⟨rfl, rfl⟩ := simp_ok hok
    exact op_i2l hx hb hd hF (nx rfl rfl h)
  | l2i =>
    obtain ⟨x, s1, rfl, h⟩ := pL_some h
    obtain ⟨rfl, rfl⟩ := simp_ok hok
    exact op_l2i hx hb hd hF (nx rfl rfl h)
  | i2b =>
    obtain ⟨x, s1, rfl, h⟩ := pI_some h
    obtain ⟨rfl, rfl⟩ := simp_ok hok
    exact op_i2b hx hb hd hF (nx rfl rfl h)
  | i2s =>
    obtain ⟨x, s1, rfl, h⟩ := pI_some h
    obtain ⟨rfl, rfl⟩ := simp_ok hok
    exact op_i2s hx hb hd hF (nx rfl rfl h)
  | dup =>
    rcases st with _ | ⟨v, s1⟩
    · cases h
    · obtain ⟨h0, h⟩ := pB_some h
      obtain ⟨rfl, rfl⟩ := simp_ok hok
      exact op_dup hx hb hd (by simpa using h0) hF (nx rfl rfl h)
  | dup2 =>
    rcases st with _ | ⟨v, _ | ⟨w, s1⟩⟩
    · cases h
    · cases h
    · obtain ⟨h0, h⟩ := pB_some h
      obtain ⟨rfl, rfl⟩ := simp_ok hok
      simp only [Bool.and_eq_true, Bool.not_eq_true'] at h0
      exact op_dup2 hx hb hd h0.1 h0.2 hF (nx rfl rfl h)
  | pop =>
    rcases st with _ | ⟨v, s1⟩
    · cases h
    · obtain ⟨h0, h⟩ := pB_some h
      obtain ⟨rfl, rfl⟩ := simp_ok hok
      exact op_pop hx hb hd (by simpa using h0) hF (nx rfl rfl h)
  | iconst v =>
    have hok := of_decide_eq_true hok
    exact op_iconst hx hb (v := v) ⟨hok.1.1, hok.1.2⟩ hF hd hown (k1 := ixO raw) (by
      rcases hok.2 with q | q | q | q | q
      · exact Or.inl q
      · exact Or.inr (Or.inl q)
      · exact Or.inr (Or.inr (Or.inl q))
      · exact Or.inr (Or.inr (Or.inr (Or.inl ⟨q.1, q.2.1, hKn.ct q.2.2 args⟩)))
      · exact Or.inr (Or.inr (Or.inr (Or.inr ⟨q.1, q.2.1, hKn.ct q.2.2 args⟩)))) (nx rfl rfl h)
  | goto_w v =>
    have hok := of_decide_eq_true hok
    exact op_lconst hx hb (v := v) ⟨hok.1.1, hok.1.2⟩ hF hd hown (k1 := ixO raw) (by
      rcases hok.2 with q | q | q
      · exact Or.inl q
      · exact Or.inr (Or.inl q)
      · exact Or.inr (Or.inr ⟨q.1, q.2.1, hKn.c2 q.2.2 args⟩)) (nx rfl rfl h)
  | iload k =>
    obtain ⟨v, hv, h⟩ := pO_some h
    obtain ⟨x, rfl, h⟩ := pV_some h
    exact op_iload hx hb hv hF hd (of_decide_eq_true hok) (nx rfl rfl h)
  | lload k =>
    obtain ⟨v, hv, h⟩ := pO_some h
    obtain ⟨x, rfl, h⟩ := pW_some h
    exact op_lload hx hb hv hF hd (of_decide_eq_true hok) (nx rfl rfl h)
  | aload k =>
    obtain ⟨v, hv, h⟩ := pO_some h
    obtain ⟨t, a, rfl, h⟩ := pU_some h
    exact op_aload hx hb hv hF hd (of_decide_eq_true hok) (nx rfl rfl h)
  | istore k =>
    obtain ⟨x, s1, rfl, h⟩ := pI_some h
    have hok := of_decide_eq_true hok
    exact op_istore hx hb hF hd hok.1 hok.2 (nx rfl rfl h)
  | lstore k =>
    obtain ⟨x, s1, rfl, h⟩ := pL_some h
    have hok := of_decide_eq_true hok
    exact op_lstore hx hb hF hd hok.1 hok.2 (nx rfl rfl h)
  | astore k =>
    obtain ⟨t, a, s1, rfl, h⟩ := pR_some h
    have hok := of_decide_eq_true hok
    exact op_astore hx hb hF hd hok.1 hok.2 (nx rfl rfl h)
  | iinc k z =>
    obtain ⟨v, hv, h⟩ := pO_some h
    obtain ⟨x, rfl, h⟩ := pV_some h
    obtain ⟨rfl, h1, rfl⟩ := of_decide_eq_true hok
    exact op_iinc hx hb hv hF hd h1 (nx rfl rfl h)
  | goto t =>
    obtain ⟨ok1, ok2⟩ := Bool.and_eq_true_iff.mp hok
    obtain ⟨hr1, rfl⟩ := of_decide_eq_true ok1
    obtain ⟨tgt, ht1, ht2⟩ := jOk_spec ok2
    rw [hr1] at hd
    exact op_goto hx hb hd ht1 hF (nj rfl h ht2)
  | ifCond k t =>
    obtain ⟨x, s1, rfl, h⟩ := pI_some h
    obtain ⟨ok1, ok2⟩ := Bool.and_eq_true_iff.mp hok
    obtain ⟨hr1, rfl⟩ := of_decide_eq_true ok1
    obtain ⟨tgt, ht1, ht2⟩ := jOk_spec ok2
    rw [hr1] at hd
    exact op_ifCond hx hb hd ht1 hF h (fun q => nj rfl q ht2) (fun q => nx rfl rfl q)
  | if_icmp k t =>
    obtain ⟨y, s1, rfl, h⟩ := pI_some h
    obtain ⟨x, s2, rfl, h⟩ := pI_some h
    obtain ⟨ok1, ok2⟩ := Bool.and_eq_true_iff.mp hok
    obtain ⟨hr1, rfl⟩ := of_decide_eq_true ok1
    obtain ⟨tgt, ht1, ht2⟩ := jOk_spec ok2
    rw [hr1] at hd
    exact op_if_icmp hx hb hd ht1 hF h (fun q => nj rfl q ht2) (fun q => nx rfl rfl q)
  | getfield f =>
    obtain ⟨t, a, s1, rfl, h⟩ := pR_some h
    obtain ⟨h0, h⟩ := pB_some h
    have ht := Nat.eq_of_beq_eq_true h0
    obtain ⟨hr1, hl3, hfl, hfk⟩ := of_decide_eq_true hok
    obtain ⟨hlk, hdc, h13, hnf⟩ := hKn.fl hfl args
    rw [hr1, hl3] at hd
    have hT : (tgs M)[a]? = some (f / 100) := by rw [← ht]; exact good_tag hF.top (by omega)
    have k := nx rfl rfl h ls H locs (hF.pop.push (v := vI _) (hF.2.2.2.2.1.1 a _))
    show W p l e R s m args below meth c H locs (cN M - N0) (sN M - S0) Q (F0 m pc ls (.ref (ad t a) :: s1.map (enc ad)))
    rw [had t a (by omega)]
    refine hr_get hx hb hown hKn.2.2.1 (hKn.cw h13 args) h13 hT hnf hlk hdc hd hF.2.2.2.1 ?_
    rw [fld_int hfk]
    rw [hl3] at k
    exact k
  | instanceof f =>
    obtain ⟨t, a, s1, rfl, h⟩ := pR_some h
    obtain ⟨h0, h⟩ := pB_some h
    have ht := Nat.eq_of_beq_eq_true h0
    obtain ⟨hr1, hl3, hfl, hfk⟩ := of_decide_eq_true hok
    obtain ⟨hlk, hdc, h13, hnf⟩ := hKn.fl hfl args
    rw [hr1, hl3] at hd
    have hT : (tgs M)[a]? = some (f / 100) := by rw [← ht]; exact good_tag hF.top (by omega)
    have k := nx rfl rfl h ls H locs (hF.pop.push (v := vL _) (hF.2.2.2.2.1.2.1 a _))
    show W p l e R s m args below meth c H locs (cN M - N0) (sN M - S0) Q (F0 m pc ls (.ref (ad t a) :: s1.map (enc ad)))
    rw [had t a (by omega)]
    refine hr_get hx hb hown hKn.2.2.1 (hKn.cw h13 args) h13 hT hnf hlk hdc hd hF.2.2.2.1 ?_
    rw [fld_long hfk]
    rw [hl3] at k
    exact k
  | checkcast f =>
    obtain ⟨t, a, s1, rfl, h⟩ := pR_some h
    obtain ⟨h0, h⟩ := pB_some h
    have ht := Nat.eq_of_beq_eq_true h0
    obtain ⟨hr1, hl3, hfl, hfk⟩ := of_decide_eq_true hok
    obtain ⟨hlk, hdc, h13, hnf⟩ := hKn.fl hfl args
    rw [hr1, hl3] at hd
    have hT : (tgs M)[a]? = some (f / 100) := by rw [← ht]; exact good_tag hF.top (by omega)
    obtain ⟨q, hq, h⟩ := pG_some h
    have hcl := hF.2.2.2.2.1.2.2.2.1 a (f / 100) (f % 100) q hT (Nat.mod_lt _ (by omega)) (by rw [Nat.div_add_mod]; exact hq)
    have k := nx rfl rfl h ls H locs (hF.pop.push (v := vR q.1 q.2) (Or.inr hcl))
    show W p l e R s m args below meth c H locs (cN M - N0) (sN M - S0) Q (F0 m pc ls (.ref (ad t a) :: s1.map (enc ad)))
    rw [had t a (by omega)]
    refine hr_get hx hb hown hKn.2.2.1 (hKn.cw h13 args) h13 hT hnf hlk hdc hd hF.2.2.2.1 ?_
    rw [fld_ref hfk hq]
    rw [hl3] at k
    exact k
  | putfield f =>
    obtain ⟨x, s1, rfl, h⟩ := pI_some h
    obtain ⟨t, a, s2, rfl, h⟩ := pR_some h
    obtain ⟨h0, h⟩ := pB_some h
    have ht := Nat.eq_of_beq_eq_true h0
    obtain ⟨hr1, hl3, hfl, hfk, hfin⟩ := of_decide_eq_true hok
    obtain ⟨hlk, hdc, h13, hnf⟩ := hKn.fl hfl args
    rw [hr1, hl3] at hd
    have hT : (tgs M)[a]? = some (f / 100) := by rw [← ht]; exact good_tag hF.pop.top (by omega)
    obtain ⟨hty, hnm⟩ := ty_all h13
    show W p l e R s m args below meth c H locs (cN M - N0) (sN M - S0) Q (F0 m pc ls (.int (Int32.ofInt x) :: .ref (ad t a) :: s2.map (enc ad)))
    rw [had t a (by omega)]
    refine hr_put hx hb hown hKn.2.2.1 (hKn.cw h13 args) h13 hT hnf hlk hdc hd (tyC (f / 100)) (fun k hk => (hty k hk).1) hnm (Or.inl hfin) ?_ ?_ (M' := putI M a (f % 100) x) rfl (fun j hj => fld_putI (Or.inl hfk) hj) (fun ca i t' _ hi => eOf_putI ca i t' hi) hF.2.2.2.1 (fun H1 sl hH1 => ?_)
    · rw [ty_int (hty _ hnf).2 hfk]; rfl
    · rw [ty_int (hty _ hnf).2 hfk]; rfl
    · have k := nx (M' := putI M a (f % 100) x) rfl rfl h ls H1 (locs ++ [⟨base + a, sl⟩]) ⟨hF.1, hF.2.1, hF.pop.pop.2.2.1, hH1, hF.2.2.2.2.1.putI hT hF.top, fun q hq => by
        rcases List.mem_append.mp hq with hq | hq
        · exact hF.2.2.2.2.2 q hq
        · rw [List.mem_singleton.mp hq]; exact Nat.le_add_right _ _⟩
      rw [hl3] at k
      exact k
  | ret f =>
    obtain ⟨x, s1, rfl, h⟩ := pI_some h
    obtain ⟨t, a, s2, rfl, h⟩ := pR_some h
    obtain ⟨h0, h⟩ := pB_some h
    obtain ⟨hb01, h⟩ := if_some h
    have ht := Nat.eq_of_beq_eq_true h0
    obtain ⟨hr1, hl3, hfl, hfk, hfin⟩ := of_decide_eq_true hok
    obtain ⟨hlk, hdc, h13, hnf⟩ := hKn.fl hfl args
    rw [hr1, hl3] at hd
    have hT : (tgs M)[a]? = some (f / 100) := by rw [← ht]; exact good_tag hF.pop.top (by omega)
    obtain ⟨hty, hnm⟩ := ty_all h13
    show W p l e R s m args below meth c H locs (cN M - N0) (sN M - S0) Q (F0 m pc ls (.int (Int32.ofInt x) :: .ref (ad t a) :: s2.map (enc ad)))
    rw [had t a (by omega)]
    refine hr_put hx hb hown hKn.2.2.1 (hKn.cw h13 args) h13 hT hnf hlk hdc hd (tyC (f / 100)) (fun k hk => (hty k hk).1) hnm (Or.inl hfin) ?_ ?_ (M' := putI M a (f % 100) x) rfl (fun j hj => fld_putI (Or.inr hfk) hj) (fun ca i t' _ hi => eOf_putI ca i t' hi) hF.2.2.2.1 (fun H1 sl hH1 => ?_)
    · rw [ty_bool (hty _ hnf).2 hfk]
      rcases hb01 with rfl | rfl <;> rfl
    · rw [ty_bool (hty _ hnf).2 hfk]
      rcases hb01 with rfl | rfl <;> rfl
    · have k := nx (M' := putI M a (f % 100) x) rfl rfl h ls H1 (locs ++ [⟨base + a, sl⟩]) ⟨hF.1, hF.2.1, hF.pop.pop.2.2.1, hH1, hF.2.2.2.2.1.putI hT hF.top, fun q hq => by
        rcases List.mem_append.mp hq with hq | hq
        · exact hF.2.2.2.2.2 q hq
        · rw [List.mem_singleton.mp hq]; exact Nat.le_add_right _ _⟩
      rw [hl3] at k
      exact k
  | putstatic f =>
    obtain ⟨x, s1, rfl, h⟩ := pL_some h
    obtain ⟨t, a, s2, rfl, h⟩ := pR_some h
    obtain ⟨h0, h⟩ := pB_some h
    have ht := Nat.eq_of_beq_eq_true h0
    obtain ⟨hr1, hl3, hfl, hfk, hfin⟩ := of_decide_eq_true hok
    obtain ⟨hlk, hdc, h13, hnf⟩ := hKn.fl hfl args
    rw [hr1, hl3] at hd
    have hT : (tgs M)[a]? = some (f / 100) := by rw [← ht]; exact good_tag hF.pop.top (by omega)
    obtain ⟨hty, hnm⟩ := ty_all h13
    show W p l e R s m args below meth c H locs (cN M - N0) (sN M - S0) Q (F0 m pc ls (.long (Int64.ofInt x) :: .ref (ad t a) :: s2.map (enc ad)))
    rw [had t a (by omega)]
    refine hr_put hx hb hown hKn.2.2.1 (hKn.cw h13 args) h13 hT hnf hlk hdc hd (tyC (f / 100)) (fun k hk => (hty k hk).1) hnm (Or.inl hfin) ?_ ?_ (M' := putL M a (f % 100) x) rfl (fun j hj => fld_putL hfk hj) (fun ca i t' _ hi => eOf_putL ca i t' hi) hF.2.2.2.1 (fun H1 sl hH1 => ?_)
    · rw [ty_long (hty _ hnf).2 hfk]; rfl
    · rw [ty_long (hty _ hnf).2 hfk]; rfl
    · have k := nx (M' := putL M a (f % 100) x) rfl rfl h ls H1 (locs ++ [⟨base + a, sl⟩]) ⟨hF.1, hF.2.1, hF.pop.pop.2.2.1, hH1, hF.2.2.2.2.1.putL hT hF.top, fun q hq => by
        rcases List.mem_append.mp hq with hq | hq
        · exact hF.2.2.2.2.2 q hq
        · rw [List.mem_singleton.mp hq]; exact Nat.le_add_right _ _⟩
      rw [hl3] at k
      exact k
  | iaload =>
    obtain ⟨i, s1, rfl, h⟩ := pI_some h
    obtain ⟨t, a, s2, rfl, h⟩ := pR_some h
    obtain ⟨h0, h⟩ := pB_some h
    have hk := Nat.eq_of_beq_eq_true h0
    obtain ⟨hi, h⟩ := if_some h
    obtain ⟨rfl, rfl⟩ := simp_ok hok
    have hT := good_tag hF.pop.top (tag_lt hk (by omega))
    have k := nx rfl rfl h ls H locs (hF.pop.pop.push (v := vI _) (hF.2.2.2.2.1.1 a _))
    show W p l e R s m args below meth c H locs (cN M - N0) (sN M - S0) Q (F0 m pc ls (.int (Int32.ofInt i) :: .ref (ad t a) :: s2.map (enc ad)))
    rw [had _ _ (tag_lt hk (by omega))]
    exact hr_iald hx hb hKn.2.2.1 hT hk hF.2.2.2.1 hF.top hi hd k
  | baload =>
    obtain ⟨i, s1, rfl, h⟩ := pI_some h
    obtain ⟨t, a, s2, rfl, h⟩ := pR_some h
    obtain ⟨h0, h⟩ := pB_some h
    have hk := Nat.eq_of_beq_eq_true h0
    obtain ⟨hi, h⟩ := if_some h
    obtain ⟨rfl, rfl⟩ := simp_ok hok
    have hT := good_tag hF.pop.top (tag_lt hk (by omega))
    have k := nx rfl rfl h ls H locs (hF.pop.pop.push (v := vI _) (hF.2.2.2.2.1.1 a _))
    show W p l e R s m args below meth c H locs (cN M - N0) (sN M - S0) Q (F0 m pc ls (.int (Int32.ofInt i) :: .ref (ad t a) :: s2.map (enc ad)))
    rw [had _ _ (tag_lt hk (by omega))]
    exact hr_bald hx hb hKn.2.2.1 hT hk hF.2.2.2.1 hF.top hi hd k
  | laload =>
    obtain ⟨i, s1, rfl, h⟩ := pI_some h
    obtain ⟨t, a, s2, rfl, h⟩ := pR_some h
    obtain ⟨h0, h⟩ := pB_some h
    have hk := Nat.eq_of_beq_eq_true h0
    obtain ⟨hi, h⟩ := if_some h
    obtain ⟨rfl, rfl⟩ := simp_ok hok
    have hT := good_tag hF.pop.top (tag_lt hk (by omega))
    have k := nx rfl rfl h ls H locs (hF.pop.pop.push (v := vL _) (hF.2.2.2.2.1.2.1 a _))
    show W p l e R s m args below meth c H locs (cN M - N0) (sN M - S0) Q (F0 m pc ls (.int (Int32.ofInt i) :: .ref (ad t a) :: s2.map (enc ad)))
    rw [had _ _ (tag_lt hk (by omega))]
    exact hr_lald hx hb hKn.2.2.1 hT hk hF.2.2.2.1 hF.top hi hd k
  | aaload =>
    obtain ⟨i, s1, rfl, h⟩ := pI_some h
    obtain ⟨t, a, s2, rfl, h⟩ := pR_some h
    obtain ⟨h0, h⟩ := pB_some h
    have hk : akind t = 3 ∨ akind t = 4 := by
      rcases Bool.or_eq_true_iff.mp h0 with q | q
      · exact Or.inl (Nat.eq_of_beq_eq_true q)
      · exact Or.inr (Nat.eq_of_beq_eq_true q)
    have h90 : t < 90 := by rcases hk with q | q <;> exact tag_lt q (by omega)
    obtain ⟨hi, h⟩ := if_some h
    obtain ⟨q, hq, h⟩ := pE_some h
    obtain ⟨rfl, rfl⟩ := simp_ok hok
    have hT := good_tag hF.pop.top h90
    have h20 : 20 ≤ t := Nat.le_of_ble_eq_true (by rcases hk with q | q <;> exact ak_ge q (by omega))
    have hcl := hF.2.2.2.2.1.2.2.2.2.1 a t i.toNat q hT h20 (by omega) hq
    have k := nx rfl rfl h ls H locs (hF.pop.pop.push (v := vR q.1 q.2) (Or.inr hcl))
    show W p l e R s m args below meth c H locs (cN M - N0) (sN M - S0) Q (F0 m pc ls (.int (Int32.ofInt i) :: .ref (ad t a) :: s2.map (enc ad)))
    rw [had _ _ h90]
    refine hr_aald hx hb hKn.2.2.1 hT hk hF.2.2.2.1 hF.top hi hd ?_
    rw [hq]
    exact k
  | arraylength =>
    obtain ⟨t, a, s1, rfl, h⟩ := pR_some h
    obtain ⟨h0, h⟩ := pB_some h
    have hk := Nat.le_of_ble_eq_true h0
    obtain ⟨rfl, rfl⟩ := simp_ok hok
    have hT := good_tag hF.top (tag_lt rfl hk)
    have k := nx rfl rfl h ls H locs (hF.pop.push (v := vI _) (by have := al_lt t; show rI _; unfold rI; omega))
    show W p l e R s m args below meth c H locs (cN M - N0) (sN M - S0) Q (F0 m pc ls (.ref (ad t a) :: s1.map (enc ad)))
    rw [had _ _ (tag_lt rfl hk)]
    exact hr_alen hx hb hKn.2.2.1 hT hk hF.2.2.2.1 hd k
  | iastore =>
    obtain ⟨x, s0, rfl, h⟩ := pI_some h
    obtain ⟨i, s1, rfl, h⟩ := pI_some h
    obtain ⟨t, a, s2, rfl, h⟩ := pR_some h
    obtain ⟨h0, h⟩ := pB_some h
    have hk := Nat.eq_of_beq_eq_true h0
    obtain ⟨hi, h⟩ := if_some h
    obtain ⟨rfl, rfl⟩ := simp_ok hok
    have hT := good_tag hF.pop.pop.top (tag_lt hk (by omega))
    show W p l e R s m args below meth c H locs (cN M - N0) (sN M - S0) Q (F0 m pc ls (.int (Int32.ofInt x) :: .int (Int32.ofInt i) :: .ref (ad t a) :: s2.map (enc ad)))
    rw [had _ _ (tag_lt hk (by omega))]
    refine hr_iast hx hb hKn.2.2.1 hT hk hF.2.2.2.1 hF.pop.top hi hd (fun H1 sl hH1 => ?_)
    exact nx (M' := putI M a i.toNat x) rfl rfl h ls H1 (locs ++ [⟨base + a, sl⟩]) ⟨hF.1, hF.2.1, hF.pop.pop.pop.2.2.1, hH1, hF.2.2.2.2.1.putI hT hF.top, fun q hq => by
        rcases List.mem_append.mp hq with hq | hq
        · exact hF.2.2.2.2.2 q hq
        · rw [List.mem_singleton.mp hq]; exact Nat.le_add_right _ _⟩
  | bastore =>
    obtain ⟨x, s0, rfl, h⟩ := pI_some h
    obtain ⟨i, s1, rfl, h⟩ := pI_some h
    obtain ⟨t, a, s2, rfl, h⟩ := pR_some h
    obtain ⟨h0, h⟩ := pB_some h
    have hk := Nat.eq_of_beq_eq_true h0
    obtain ⟨hi, h⟩ := if_some h
    obtain ⟨rfl, rfl⟩ := simp_ok hok
    have hT := good_tag hF.pop.pop.top (tag_lt hk (by omega))
    show W p l e R s m args below meth c H locs (cN M - N0) (sN M - S0) Q (F0 m pc ls (.int (Int32.ofInt x) :: .int (Int32.ofInt i) :: .ref (ad t a) :: s2.map (enc ad)))
    rw [had _ _ (tag_lt hk (by omega))]
    refine hr_bast hx hb hKn.2.2.1 hT hk hF.2.2.2.1 hF.pop.top hF.top hi hd (fun H1 sl hH1 => ?_)
    exact nx (M' := putI M a i.toNat (x8 x)) rfl rfl h ls H1 (locs ++ [⟨base + a, sl⟩]) ⟨hF.1, hF.2.1, hF.pop.pop.pop.2.2.1, hH1, hF.2.2.2.2.1.putI hT (by show rI (x8 x); unfold rI x8; omega), fun q hq => by
        rcases List.mem_append.mp hq with hq | hq
        · exact hF.2.2.2.2.2 q hq
        · rw [List.mem_singleton.mp hq]; exact Nat.le_add_right _ _⟩
  | lastore =>
    obtain ⟨x, s0, rfl, h⟩ := pL_some h
    obtain ⟨i, s1, rfl, h⟩ := pI_some h
    obtain ⟨t, a, s2, rfl, h⟩ := pR_some h
    obtain ⟨h0, h⟩ := pB_some h
    have hk := Nat.eq_of_beq_eq_true h0
    obtain ⟨hi, h⟩ := if_some h
    obtain ⟨rfl, rfl⟩ := simp_ok hok
    have hT := good_tag hF.pop.pop.top (tag_lt hk (by omega))
    show W p l e R s m args below meth c H locs (cN M - N0) (sN M - S0) Q (F0 m pc ls (.long (Int64.ofInt x) :: .int (Int32.ofInt i) :: .ref (ad t a) :: s2.map (enc ad)))
    rw [had _ _ (tag_lt hk (by omega))]
    refine hr_last hx hb hKn.2.2.1 hT hk hF.2.2.2.1 hF.pop.top hi hd (fun H1 sl hH1 => ?_)
    exact nx (M' := putL M a i.toNat x) rfl rfl h ls H1 (locs ++ [⟨base + a, sl⟩]) ⟨hF.1, hF.2.1, hF.pop.pop.pop.2.2.1, hH1, hF.2.2.2.2.1.putL hT hF.top, fun q hq => by
        rcases List.mem_append.mp hq with hq | hq
        · exact hF.2.2.2.2.2 q hq
        · rw [List.mem_singleton.mp hq]; exact Nat.le_add_right _ _⟩
  | tableswitch dd lo hi offs =>
    obtain ⟨x, s1, rfl, h⟩ := pI_some h
    exact op_table hx hb hd hok hF h (fun t q row hr => nj rfl q ⟨row, hr, rfl⟩)
  | lookupswitch dd ps =>
    obtain ⟨x, s1, rfl, h⟩ := pI_some h
    exact op_lookup hx hb hd hok hF h (fun t q row hr => nj rfl q ⟨row, hr, rfl⟩)
  | invokespecial k =>
    obtain ⟨t, a, s1, rfl, h⟩ := pR_some h
    obtain ⟨h0, h⟩ := pB_some h
    obtain ⟨hr1, hob, rfl⟩ := of_decide_eq_true hok
    rw [hr1] at hd
    have h8 := Nat.le_of_ble_eq_true h0
    have k := nx rfl rfl h ls H locs hF.pop
    refine W.objInit hx hb hown (hKn.ob hob args) (hKn.1 _ obj_in.1.1 obj_in.1.2 args) (hKn.1 _ obj_in.2.1 obj_in.2.2 args) rfl (by rw [hml]; exact hF.1.1) rfl hd (by have := rk_pos; omega) (by rw [wsum_cat]; show 2 * 0 + _ + 12 ≤ _; have := rk_pos; omega) ?_
    exact k
  | ireturn =>
    obtain ⟨x, s1, rfl, h⟩ := pI_some h
    rcases s1 with _ | ⟨v, s1⟩
    · obtain ⟨rfl, rfl⟩ : r = some (vI x) ∧ Mf = M := by cases h; exact ⟨rfl, rfl⟩
      obtain ⟨rfl, rfl, hrt⟩ := of_decide_eq_true hok
      exact hRT pc ls H locs _ hd ⟨rfl, Or.inl hrt⟩ hF.2.2.2.1 hF.2.2.2.2.1 (fun v hv => by cases hv; exact hF.top) hF.2.2.2.2.2
    · cases h
  | freturn =>
    obtain ⟨x, s1, rfl, h⟩ := pI_some h
    rcases s1 with _ | ⟨v, s1⟩
    · obtain ⟨hb01, h⟩ := if_some h
      obtain ⟨rfl, rfl⟩ : r = some (vI x) ∧ Mf = M := by cases h; exact ⟨rfl, rfl⟩
      obtain ⟨rfl, rfl, hrt⟩ := of_decide_eq_true hok
      exact hRT pc ls H locs _ hd ⟨rfl, Or.inr ⟨hrt, hb01⟩⟩ hF.2.2.2.1 hF.2.2.2.2.1 (fun v hv => by cases hv; exact hF.top) hF.2.2.2.2.2
    · cases h
  | lreturn =>
    obtain ⟨x, s1, rfl, h⟩ := pL_some h
    rcases s1 with _ | ⟨v, s1⟩
    · obtain ⟨rfl, rfl⟩ : r = some (vL x) ∧ Mf = M := by cases h; exact ⟨rfl, rfl⟩
      obtain ⟨rfl, rfl, hrt⟩ := of_decide_eq_true hok
      exact hRT pc ls H locs _ hd ⟨rfl, hrt⟩ hF.2.2.2.1 hF.2.2.2.2.1 (fun v hv => by cases hv; exact hF.top) hF.2.2.2.2.2
    · cases h
  | areturn =>
    obtain ⟨t, a, s1, rfl, h⟩ := pR_some h
    rcases s1 with _ | ⟨v, s1⟩
    · obtain ⟨rfl, rfl⟩ : r = some (vR t a) ∧ Mf = M := by cases h; exact ⟨rfl, rfl⟩
      obtain ⟨ok1, ok2⟩ := Bool.and_eq_true_iff.mp hok
      obtain ⟨rfl, rfl⟩ := of_decide_eq_true ok1
      have hrt : ∃ nn, (MI j).2.2.2.1 = some (.object nn) := by
        generalize (MI j).2.2.2.1 = rt at ok2
        rcases rt with _ | rt
        · cases ok2
        · cases rt <;> first | exact ⟨_, rfl⟩ | cases ok2
      exact hRT pc ls H locs _ hd ⟨rfl, hrt⟩ hF.2.2.2.1 hF.2.2.2.2.1 (fun v hv => by cases hv; exact hF.top) hF.2.2.2.2.2
    · cases h
  | return_ =>
    rcases st with _ | ⟨v, s1⟩
    · obtain ⟨rfl, rfl⟩ : r = none ∧ Mf = M := by cases h; exact ⟨rfl, rfl⟩
      obtain ⟨rfl, rfl, hrt⟩ := of_decide_eq_true hok
      exact hRT pc ls H locs _ hd ⟨rfl, hrt⟩ hF.2.2.2.1 hF.2.2.2.2.1 (fun v hv => by cases hv) hF.2.2.2.2.2
    · cases h
  | invokestatic j' =>
    replace h : KK MT (run gr MT n) (run gr MT n) d (MT j).1 tl M (.inr (.inl (false, j', lv, st))) = some (r, Mf) := h
    obtain ⟨hj', hr1, rfl, hlk, hrk⟩ := of_decide_eq_true hok
    rw [hr1] at hd
    exact call hj' hd hlk (d' := d) (by unfold rkO at *; omega) (by unfold rkO at *; omega) (fun hk => by dsimp only [KK] at h; rw [hk] at h; exact h) (okc_of h) rfl rfl
  | invokevirtual j' =>
    replace h : KK MT (run gr MT n) (run gr MT n) d (MT j).1 tl M (.inr (.inl (true, j', lv, st))) = some (r, Mf) := h
    obtain ⟨hj', hr1, rfl, hlk, hrk⟩ := of_decide_eq_true hok
    rw [hr1] at hd
    cases d with
    | zero =>
      exfalso
      dsimp only [KK] at h
      cases hk : okC (MT j') st with
      | false => rw [hk] at h; cases h
      | true => rw [hk] at h; cases h
    | succ d => exact call hj' hd hlk (d' := d) (by unfold rkO at *; omega) (by unfold rkO at *; omega) (fun hk => by dsimp only [KK] at h; rw [hk] at h; exact h) (okc_of h) rfl rfl
  | faload => exact sp rfl rfl
  | fastore => exact sp rfl rfl
  | dastore => exact sp rfl rfl
  | daload => exact sp rfl rfl
  | castore => exact sp rfl rfl
  | saload => exact sp rfl rfl
  | caload => exact sp rfl rfl
  | dadd => exact sp rfl rfl
  | dsub => exact sp rfl rfl
  | new _ => exact sp rfl rfl
  | dload _ => exact sp rfl rfl
  | fload _ => exact sp rfl rfl
  | multianewarray _ _ => exact sp rfl rfl
  | invokedynamic _ => exact sp rfl rfl
  | aastore => exact sp rfl rfl
  | _ => cases h
end SimM
