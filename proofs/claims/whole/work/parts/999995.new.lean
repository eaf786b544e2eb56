/-! what is made: cells more -/
def addT (M : Mem) (ts : List Nat) : Mem := (M.1, M.2.1, M.2.2.1, M.2.2.2.1, tgs M ++ ts, M.2.2.2.2.2)
theorem Kn.cl {D : va_G} {Xt : State → Prop} {U : State} (h : Kn D Xt U) {o k j : Nat} (hq : clH o k j = true) (a : Array Value) : (Cond.classLink (ownN o) k (clsT j).1).before a U = true ∧ j < 13 := by
  unfold clH at hq
  obtain ⟨q, hm, h1⟩ := List.any_eq_true.mp hq
  simp only [Bool.and_eq_true, beq_iff_eq] at h1
  obtain ⟨e1, e2, e3⟩ := h1
  have h4 := List.all_eq_true.mp clT_ok q hm
  rw [Bool.and_eq_true, decide_eq_true_eq] at h4
  have h3 := h.tbl h4.1 a
  subst e1; subst e2; subst e3
  exact ⟨h3, h4.2⟩
theorem Kn.ci {D : va_G} {Xt : State → Prop} {U : State} (h : Kn D Xt U) {t : Nat} (ht : t < 13) (a : Array Value) : (Cond.instantiable (clsT t).1 (nf t)).before a U = true ∧ (Cond.initialized (clsT t).1).before a U = true := by
  have h1 := List.all_eq_true.mp clsI_ok t (List.mem_range.mpr ht)
  simp only [decide_eq_true_eq] at h1
  exact ⟨h.1 _ h1.1.1 h1.1.2 a, h.1 _ h1.2.1 h1.2.2 a⟩
theorem ws_app {ad : Nat → Nat → Nat} {base : Nat} {M : Mem} {t : Nat} {ca ca' : Nat → ClassId} (hca : ∀ i, i < (tgs M).length → ca' i = ca i) : wsOf ad base none (addT M [t]) ca' = wsOf ad base none M ca ++ [(base + (tgs M).length, eOf ad none (addT M [t]) ca' (tgs M).length t)] := by
  apply List.ext_getElem?
  intro i
  have hT : tgs (addT M [t]) = tgs M ++ [t] := rfl
  by_cases hi : i < (tgs M).length
  · have h1 : (tgs M)[i]? = some ((tgs M)[i]) := List.getElem?_eq_getElem hi
    rw [ws_at ad (t := (tgs M)[i]) (by rw [hT, List.getElem?_append_left hi]; exact h1), List.getElem?_append_left (by rw [ws_len]; exact hi), ws_at ad h1]
    have e : eOf ad none (addT M [t]) ca' i ((tgs M)[i]) = eOf ad none M ca i ((tgs M)[i]) := by
      show eOf ad none M ca' i ((tgs M)[i]) = _
      unfold eOf
      rw [hca i hi]
    rw [e]
  · by_cases h2 : i = (tgs M).length
    · rw [ws_at ad (t := t) (by rw [hT, h2, List.getElem?_append_right (Nat.le_refl _), Nat.sub_self]; rfl), List.getElem?_append_right (by rw [ws_len]; omega), ws_len, h2, Nat.sub_self]
      rfl
    · rw [List.getElem?_eq_none (by rw [ws_len, hT, List.length_append]; simp; omega), List.getElem?_eq_none (by rw [List.length_append, ws_len]; simp; omega)]
theorem MOk.add {sc : (Nat → Int) × Nat} {M : Mem} {t : Nat} (h : MOk none sc M) (ht : tagOk t) : MOk none sc (addT M [t]) := by
  obtain ⟨h1, h2, h3, h4, h5, h6, h7⟩ := h
  have hT : tgs (addT M [t]) = tgs M ++ [t] := rfl
  have old : ∀ (a t' : Nat), (tgs M ++ [t])[a]? = some t' → (tgs M)[a]? = some t' ∨ ((tgs M).length ≤ a ∧ t' = t) := fun a t' hh => by
    by_cases c : a < (tgs M).length
    · rw [List.getElem?_append_left c] at hh; exact Or.inl hh
    · rw [List.getElem?_append_right (by omega)] at hh
      refine Or.inr ⟨by omega, ?_⟩
      have hz : a - (tgs M).length < 1 := (List.getElem?_eq_some_iff.mp hh).1
      rw [show a - (tgs M).length = 0 by omega] at hh
      exact (Option.some.inj hh).symm
  have up : ∀ (a t' : Nat), (tgs M)[a]? = some t' → (tgs M ++ [t])[a]? = some t' := fun a t' hh => by
    rw [List.getElem?_append_left (List.getElem?_eq_some_iff.mp hh).1]; exact hh
  refine ⟨h1, h2, fun a t' hh => ?_, fun a t' k q hh hk hq => ?_, fun a t' i q hh h20 hi hq => ?_, fun a ha => h6 a ?_, h7⟩
  · rcases old a t' hh with g | ⟨_, rfl⟩
    · exact h3 a t' g
    · exact ht
  · rcases old a t' hh with g | ⟨g, _⟩
    · exact up _ _ (h4 a t' k q g hk hq)
    · have e : gF none (addT M [t]) (100 * t' + k) a = none := ((h6 a g).2.2 rfl).1 _
      rw [e] at hq; cases hq
  · rcases old a t' hh with g | ⟨g, _⟩
    · exact up _ _ (h5 a t' i q g h20 hi hq)
    · have e : gE none (addT M [t]) t' a i = none := ((h6 a g).2.2 rfl).2 _ _
      rw [e] at hq; cases hq
  · rw [hT, List.length_append] at ha
    exact Nat.le_trans (Nat.le_add_right _ _) ha
/-- a cell more in the heap -/
theorem HR.add {ad : Nat → Nat → Nat} {base : Nat} {D : va_G} {H0 H H1 : Heap} {s : State} {M : Mem} {t : Nat} {ca : Nat → ClassId} (cA : ClassId) (h1 : H.size = base + (tgs M).length) (hP : va_P D vwCl (wsOf ad base none M ca) H) (h3 : ∀ a t : Nat, (tgs M)[a]? = some t → 20 ≤ t → ArrOfT s (ca a) (aty t) ∧ va_RA s (ca a) (aty t)) (h4 : ∀ q, q < base → H[q]? = H0[q]?)
    (z1 : H1.size = H.size + 1) (o1 : ∀ q, q < H.size → H1[q]? = H[q]?) (hA : 20 ≤ t → ArrOfT s cA (aty t) ∧ va_RA s cA (aty t)) (hv : va_at D vwCl (base + (tgs M).length, eOf ad none (addT M [t]) (fun _ => cA) (tgs M).length t) H1) : HR ad base D H0 none s (addT M [t]) H1 := by
  have hT : tgs (addT M [t]) = tgs M ++ [t] := rfl
  obtain ⟨cb, cb1, cb2⟩ : ∃ cb : Nat → ClassId, cb (tgs M).length = cA ∧ ∀ i, i ≠ (tgs M).length → cb i = ca i := ⟨fun i => if i = (tgs M).length then cA else ca i, if_pos rfl, fun i h => if_neg h⟩
  refine ⟨cb, ?_, ?_, fun a t' hh h20 => ?_, fun q hq => ?_⟩
  · rw [z1, h1, hT, List.length_append]; rfl
  · rw [ws_app (ca := ca) (fun i hi => cb2 i (Nat.ne_of_lt hi))]
    refine (hP.kept fun k x hx => ?_).app (fun k x hx => ?_)
    · obtain ⟨t', ht', e⟩ := ws_inv ad hx
      have := (List.getElem?_eq_some_iff.mp ht').1
      rw [e]
      exact o1 _ (by show base + k < _; omega)
    · have hz : k < 1 := (List.getElem?_eq_some_iff.mp hx).1
      rw [show k = 0 by omega] at hx
      cases hx
      have e : eOf ad none (addT M [t]) cb (tgs M).length t = eOf ad none (addT M [t]) (fun _ => cA) (tgs M).length t := by
        unfold eOf
        rw [cb1]
      rw [e]
      exact hv
  · by_cases c : a < (tgs M).length
    · rw [hT, List.getElem?_append_left c] at hh
      rw [cb2 a (Nat.ne_of_lt c)]
      exact h3 a t' hh h20
    · rw [hT, List.getElem?_append_right (by omega)] at hh
      have hz : a - (tgs M).length < 1 := (List.getElem?_eq_some_iff.mp hh).1
      rw [show a - (tgs M).length = 0 by omega] at hh
      have : t = t' := Option.some.inj hh
      subst this
      rw [show a = (tgs M).length by omega, cb1]
      exact hA h20
  · rw [o1 q (by omega)]
    exact h4 q hq
theorem sN_add {M : Mem} {t : Nat} : cN (addT M [t]) = cN M + 1 ∧ sN (addT M [t]) = sN M + slO t := by
  constructor
  · show (tgs M ++ [t]).length = _
    rw [List.length_append]; rfl
  · show ((tgs M ++ [t]).map slO).sum = _
    rw [List.map_append, List.sum_append]
    simp [sN]
theorem FR.grow {ad : Nat → Nat → Nat} {base : Nat} {D : va_G} {H0 : Heap} {gr : Gr} {sc : (Nat → Int) × Nat} {nL : Nat} {s : State} {lv : LV} {st : List mv} {M M' : Mem} {ls : Array Slot} {H H1 : Heap} {locs : List Loc} (h : FR ad base D H0 gr sc nL s lv st M ls H locs) (hg : ∃ z, tgs M' = tgs M ++ z) (hH : HR ad base D H0 gr s M' H1) (hM : MOk gr sc M') : FR ad base D H0 gr sc nL s lv st M' ls H1 locs := ⟨h.1, fun q hq => (h.2.1 q hq).mono hg, fun v hv => (h.2.2.1 v hv).mono hg, hH, hM, h.2.2.2.2.2⟩
/-- a new object's fields -/
theorem fld_new {ad : Nat → Nat → Nat} {sc : (Nat → Int) × Nat} {M : Mem} {t j : Nat} (hM : MOk none sc M) (h13 : t < 13) (hj : j < nf t) : defaultValue (tyC t j) = fldV ad none (addT M [t]) t (tgs M).length j := by
  obtain ⟨z1, z2, z3⟩ := hM.2.2.2.2.2.1 (tgs M).length (Nat.le_refl _)
  have hk := ((ty_all h13).1 j hj).2
  have g : gF none (addT M [t]) (100 * t + j) (tgs M).length = none := (z3 rfl).1 _
  unfold fldV
  rw [g, show (addT M [t]).2.1 (tgs M).length j = 0 from z2 j, show (addT M [t]).1 (tgs M).length j = 0 from z1 j]
  generalize (ftab.getD t []).getD j 9 = kd at hk ⊢
  generalize tyC t j = ty at hk ⊢
  match kd, hk with
  | 0, hk => rw [of_decide_eq_true hk]; rfl
  | 1, hk => rw [of_decide_eq_true hk]; rfl
  | 2, hk =>
    cases ty <;> first | rfl | (exact absurd hk (by decide))
  | 3, hk => rw [of_decide_eq_true hk]; rfl
  | _ + 4, hk => exact absurd hk (by intro q; cases q)
section SpN
variable {l : Launch} {ad : Nat → Nat → Nat} {base : Nat} {D : va_G} {H0 : Heap} {gr : Gr} {sc : (Nat → Int) × Nat} {Xt : State → Prop}
theorem sp_new (had : ∀ t a, t < 90 → ad t a = base + a) (k0 : Nat) : SpP l ad base D H0 gr sc Xt (.new k0) := by
  intro j d p e R s m args below meth c Q N0 S0 pc ls H locs lv st M res raw len hCX hd hok hF hN hS K h hk
  obtain ⟨hx, hb, hml, hown, hKn, hnm, hfr, hlo⟩ := hCX
  obtain ⟨rfl, h⟩ := pN_some h
  obtain ⟨h0, h⟩ := pB_some h
  obtain ⟨hr1, hcl, hl3⟩ := of_decide_eq_true hok
  rw [hr1, hl3] at hd
  obtain ⟨hlk, h13⟩ := hKn.cl hcl args
  obtain ⟨hi1, hi2⟩ := hKn.ci h13 args
  obtain ⟨⟨q1, q2⟩, k⟩ := hk lv (vR k0 (tgs M).length :: st) (addT M [k0]) ⟨[k0], rfl⟩ h
  have hsl : slO k0 = nf k0 := by
    unfold slO
    have : Nat.ble 20 k0 = false := by
      cases e : Nat.ble 20 k0
      · rfl
      · have := Nat.le_of_ble_eq_true e; omega
    rw [this]; rfl
  have ec := (sN_add (M := M) (t := k0)).1
  have es := (sN_add (M := M) (t := k0)).2
  rw [hsl] at es
  obtain ⟨ca, e1, hP, e3, e4⟩ := hF.2.2.2.1
  have hK3 := hKn.2.2.1.1 k0 _ (cl_at h13)
  refine W.newcK hx hb hown hlk hi1 hi2 rfl hd (by omega) (by omega) hK3.2.1 rfl fun H1 kC hkC f1 z1 o1 => ?_
  have hH1 : HR ad base D H0 none s (addT M [k0]) H1 := by
    refine HR.add (ca := ca) 0 e1 hP e3 e4 z1 o1 (fun h20 => absurd h20 (by omega)) ?_
    rw [eOf_obj h13, ← e1]
    refine ⟨_, cl_at h13, (u_born (tyC k0) (hKn.cw h13 args) (fun _ h => h) hK3 hkC f1 (fun q hq => ((ty_all h13).1 q hq).1)).to fun q hq => ?_⟩
    have e2 : vp_V (List.map (fldV ad none (addT M [k0]) k0 (tgs M).length) (List.range (nf k0))) q = fldV ad none (addT M [k0]) k0 (tgs M).length q := by
      unfold vp_V
      rw [List.getD_eq_getElem?_getD, fs_at hq]
      rfl
    exact (fld_new hF.2.2.2.2.1 h13 hq).trans e2.symm
  have kk := k ls H1 locs ((hF.grow ⟨[k0], rfl⟩ hH1 (hF.2.2.2.2.1.add (Or.inl (by omega)))).push (v := vR k0 (tgs M).length) (Or.inr (by
    show (tgs M ++ [k0])[(tgs M).length]? = some k0
    rw [List.getElem?_append_right (Nat.le_refl _), Nat.sub_self]; rfl)))
  rw [hl3, ec, es, show cN M + 1 - N0 = cN M - N0 + 1 by omega, show sN M + nf k0 - S0 = sN M - S0 + nf k0 by omega] at kk
  have ea : enc ad (vR k0 (tgs M).length) = .ref H.size := by
    show Value.ref (ad k0 (tgs M).length) = _
    rw [had k0 _ (by omega), e1]
  rw [List.map_cons, ea] at kk
  exact kk
end SpN
