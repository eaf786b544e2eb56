/-! references are set -/
def putE (M : Mem) (t a i t2 a2 : Nat) : Mem := (M.1, M.2.1, M.2.2.1, (fun t' b j => bif Nat.beq t' t && (Nat.beq b a && Nat.beq j i) then some (t2, a2) else M.2.2.2.1 t' b j), M.2.2.2.2)
def putF (M : Mem) (f a t2 a2 : Nat) : Mem := (M.1, M.2.1, (fun f' b => bif Nat.beq f' f && Nat.beq b a then some (t2, a2) else M.2.2.1 f' b), M.2.2.2)
theorem putE_s {M : Mem} {t a i t2 a2 : Nat} : gE none (putE M t a i t2 a2) t a i = some (t2, a2) := by
  show (bif Nat.beq t t && (Nat.beq a a && Nat.beq i i) then some (t2, a2) else M.2.2.2.1 t a i) = _
  rw [Nat.beq_refl, Nat.beq_refl, Nat.beq_refl]; rfl
theorem putE_n {M : Mem} {t a i t2 a2 t' b j : Nat} (h : ¬ (t' = t ∧ b = a ∧ j = i)) : gE none (putE M t a i t2 a2) t' b j = gE none M t' b j := by
  show (bif Nat.beq t' t && (Nat.beq b a && Nat.beq j i) then some (t2, a2) else M.2.2.2.1 t' b j) = M.2.2.2.1 t' b j
  cases e : (Nat.beq t' t && (Nat.beq b a && Nat.beq j i)) with
  | false => rfl
  | true =>
    rw [Bool.and_eq_true, Bool.and_eq_true] at e
    exact absurd ⟨Nat.eq_of_beq_eq_true e.1, Nat.eq_of_beq_eq_true e.2.1, Nat.eq_of_beq_eq_true e.2.2⟩ h
theorem putF_s {M : Mem} {f a t2 a2 : Nat} : gF none (putF M f a t2 a2) f a = some (t2, a2) := by
  show (bif Nat.beq f f && Nat.beq a a then some (t2, a2) else M.2.2.1 f a) = _
  rw [Nat.beq_refl, Nat.beq_refl]; rfl
theorem putF_n {M : Mem} {f a t2 a2 f' b : Nat} (h : ¬ (f' = f ∧ b = a)) : gF none (putF M f a t2 a2) f' b = gF none M f' b := by
  show (bif Nat.beq f' f && Nat.beq b a then some (t2, a2) else M.2.2.1 f' b) = M.2.2.1 f' b
  cases e : (Nat.beq f' f && Nat.beq b a) with
  | false => rfl
  | true =>
    rw [Bool.and_eq_true] at e
    exact absurd ⟨Nat.eq_of_beq_eq_true e.1, Nat.eq_of_beq_eq_true e.2⟩ h
theorem MOk.putE {sc : (Nat → Int) × Nat} {M : Mem} {t a i t2 a2 : Nat} (h : MOk none sc M) (hT : (tgs M)[a]? = some t) (h2 : (tgs M)[a2]? = some t2) : MOk none sc (putE M t a i t2 a2) := by
  obtain ⟨h1, h2', h3, h4, h5, h6, h7⟩ := h
  refine ⟨h1, h2', h3, h4, fun b t' j q hb h20 hj hq => ?_, fun b hb => ⟨(h6 b hb).1, (h6 b hb).2.1, fun _ => ⟨((h6 b hb).2.2 rfl).1, fun t' j => ?_⟩⟩, h7⟩
  · by_cases c : t' = t ∧ b = a ∧ j = i
    · obtain ⟨rfl, rfl, rfl⟩ := c
      rw [putE_s] at hq
      cases hq
      exact h2
    · rw [putE_n c] at hq
      exact h5 b t' j q hb h20 hj hq
  · have hlt := (List.getElem?_eq_some_iff.mp hT).1
    have hb' : (tgs M).length ≤ b := hb
    have e := putE_n (M := M) (t := t) (a := a) (i := i) (t2 := t2) (a2 := a2) (t' := t') (b := b) (j := j) (by omega)
    exact e.trans (((h6 b hb).2.2 rfl).2 t' j)
theorem MOk.putF {sc : (Nat → Int) × Nat} {M : Mem} {f a t t2 a2 : Nat} (h : MOk none sc M) (hT : (tgs M)[a]? = some t) (h2 : (tgs M)[a2]? = some t2) : MOk none sc (putF M f a t2 a2) := by
  obtain ⟨h1, h2', h3, h4, h5, h6, h7⟩ := h
  refine ⟨h1, h2', h3, fun b t' k q hb hk hq => ?_, h5, fun b hb => ⟨(h6 b hb).1, (h6 b hb).2.1, fun _ => ⟨fun f' => ?_, ((h6 b hb).2.2 rfl).2⟩⟩, h7⟩
  · by_cases c : 100 * t' + k = f ∧ b = a
    · rw [c.1, c.2, putF_s] at hq
      cases hq
      exact h2
    · rw [putF_n c] at hq
      exact h4 b t' k q hb hk hq
  · have hlt := (List.getElem?_eq_some_iff.mp hT).1
    have hb' : (tgs M).length ≤ b := hb
    have e := putF_n (M := M) (f := f) (a := a) (t2 := t2) (a2 := a2) (f' := f') (b := b) (by omega)
    exact e.trans (((h6 b hb).2.2 rfl).1 f')
theorem comp_13 : ∀ {t : Nat}, akind t = 3 → acomp t < 13 := by
  intro t h
  have h8 : atab.all (fun q => decide (q.1 = 3 → q.2.2 < 13)) = true := by decide +kernel
  have hb := ak_ge h (by decide)
  unfold akind at h
  rw [hb] at h
  unfold acomp
  have h' : (atab.getD (t - 20) (9, 0, 0)).1 = 3 := h
  rw [List.getD_eq_getElem?_getD] at h' ⊢
  cases e : atab[t - 20]? with
  | none => decide
  | some q =>
    rw [e] at h'
    exact of_decide_eq_true (List.all_eq_true.mp h8 q (List.mem_of_getElem? e)) h'
section SpQ
variable {l : Launch} {ad : Nat → Nat → Nat} {base : Nat} {D : va_G} {H0 : Heap} {gr : Gr} {sc : (Nat → Int) × Nat} {Xt : State → Prop}
/-- a row of references -/
theorem sp_fload (had : ∀ t a, t < 90 → ad t a = base + a) (hAO : ∀ s, Xt s → ∀ t, akind t = 3 → va_AO (clsT (acomp t)).1 s) (t0 : Nat) : SpP l ad base D H0 gr sc Xt (.fload t0) := by
  intro j d p e R s m args below meth c Q N0 S0 pc ls H locs lv st M res raw len hCX hd hok hF hN hS K h hk
  obtain ⟨hx, hb, hml, hown, hKn, hnm, hfr, hlo⟩ := hCX
  obtain ⟨rfl, h⟩ := pN_some h
  obtain ⟨n, s1, rfl, h⟩ := pI_some h
  obtain ⟨h0, h⟩ := pB_some h
  obtain ⟨hn, h⟩ := if_some h
  obtain ⟨hr1, hcl, hl3⟩ := of_decide_eq_true hok
  rw [hr1, hl3] at hd
  have h1 : akind t0 = 3 := Nat.eq_of_beq_eq_true h0
  obtain ⟨t20, t40⟩ := tag_ak (t := t0) (by omega)
  obtain ⟨hlk, h13⟩ := hKn.cl hcl args
  obtain ⟨⟨q1, q2⟩, k⟩ := hk lv (vR t0 (tgs M).length :: s1) (addT M [t0]) ⟨[t0], rfl⟩ h
  have ec := (sN_add (M := M) (t := t0)).1
  have es := (sN_add (M := M) (t := t0)).2
  rw [sl_arr t20] at es
  obtain ⟨ca, e1, hP, e3, e4⟩ := hF.2.2.2.1
  obtain ⟨z1, z2, z3⟩ := hF.2.2.2.2.1.2.2.2.2.2.1 (tgs M).length (Nat.le_refl _)
  have ha := alen_31 t0
  have rn : rI n := hF.top
  have nn : ¬ Int32.ofInt n < 0 := by
    rw [show (0 : Int32) = Int32.ofInt 0 from rfl, ofI_lt rn rI_0]; omega
  have nN : (Int32.ofInt n).toNatClampNeg = alen t0 := by rw [clampI rn, hn]; exact Int.toNat_natCast _
  have eb4 : (Int32.ofInt n).toNatClampNeg * 4 ≤ 536870912 := by rw [nN]; omega
  have hc1 : cN M - N0 + 1 ≤ R.cells := by omega
  have hc2 : sN M - S0 + (Int32.ofInt n).toNatClampNeg ≤ R.slots := by rw [nN]; omega
  show W p l e R s m args below meth c H locs (cN M - N0) (sN M - S0) Q (F0 m pc ls (.int (Int32.ofInt n) :: s1.map (enc ad)))
  refine W.anew hx hb hown hlk (va_AO.use (hAO s hKn.2.2.2 t0 h1)) rfl hd rfl nn eb4 hc1 hc2 fun cA kA comp f1 f2 f3 f4 => ?_
  generalize hH1 : H.push ({ cls := cA, slots := Array.replicate (Int32.ofInt n).toNatClampNeg .null, vm := .none } : Cell) = H1
  have zz : H1.size = H.size + 1 := by rw [← hH1, Array.size_push]
  have ee : H1[H.size]? = some (arrV cA (alen t0) (fun _ => .null)) := by rw [← hH1, Array.getElem?_push_size, ← arrV_new, nN]
  have o1 : ∀ q : Nat, q < H.size → H1[q]? = H[q]? := fun q hq => by rw [← hH1, Array.getElem?_push, if_neg (Nat.ne_of_lt hq)]
  have hAr : ArrOfT s cA (.object (clsT (acomp t0)).1) := fun N z => ⟨(fun k h => by cases h), kA, f2, comp, f3⟩
  have hH2 : HR ad base D H0 none s (addT M [t0]) H1 := by
    refine HR.add (ca := ca) cA e1 hP e3 e4 zz o1 (fun _ => by rw [aty_3 h1]; exact ⟨hAr, kA, comp, f2, f3, f4, f1⟩) ?_
    rw [eOf_ref (Or.inl h1), ← e1]
    show H1[H.size]? = some (vp_cell _ _)
    rw [vp_cell_q, ee]
    congr 2
    funext q
    have g : gE none (addT M [t0]) t0 (tgs M).length q = none := (z3 rfl).2 t0 q
    rw [g]
    rfl
  have kk := k ls H1 locs ((hF.pop.grow ⟨[t0], rfl⟩ hH2 (hF.2.2.2.2.1.add (Or.inr ⟨t20, t40⟩))).push (v := vR t0 (tgs M).length) (Or.inr (by
    show (tgs M ++ [t0])[(tgs M).length]? = some t0
    rw [List.getElem?_append_right (Nat.le_refl _), Nat.sub_self]; rfl)))
  rw [hl3, ec, es, show cN M + 1 - N0 = cN M - N0 + 1 by omega, show sN M + alen t0 - S0 = sN M - S0 + alen t0 by omega] at kk
  have ea : enc ad (vR t0 (tgs M).length) = .ref H.size := by
    show Value.ref (ad t0 (tgs M).length) = _
    rw [had t0 _ (by omega), e1]
  rw [List.map_cons, ea, ← nN] at kk
  exact kk
/-- a reference goes into a row -/
theorem sp_aastore (had : ∀ t a, t < 90 → ad t a = base + a) : SpP l ad base D H0 gr sc Xt .aastore := by
  intro j d p e R s m args below meth c Q N0 S0 pc ls H locs lv st M res raw len hCX hd hok hF hN hS K h hk
  obtain ⟨hx, hb, hml, hown, hKn, hnm, hfr, hlo⟩ := hCX
  obtain ⟨rfl, h⟩ := pN_some h
  obtain ⟨t2, a2, s1, rfl, h⟩ := pR_some h
  obtain ⟨i, s2, rfl, h⟩ := pI_some h
  obtain ⟨t, a, s3, rfl, h⟩ := pR_some h
  obtain ⟨h0, h⟩ := pB_some h
  rw [Bool.and_eq_true] at h0
  obtain ⟨hi, h⟩ := if_some h
  have h1 : akind t = 3 := Nat.eq_of_beq_eq_true h0.1
  have h2 : t2 = acomp t := Nat.eq_of_beq_eq_true h0.2
  have h13 : t2 < 13 := by rw [h2]; exact comp_13 h1
  obtain ⟨t20, t40⟩ := tag_ak (t := t) (by omega)
  obtain ⟨hr1, hl1⟩ := simp_ok hok
  rw [hr1, hl1] at hd
  have hT2 : (tgs M)[a2]? = some t2 := good_tag hF.top (by omega)
  have hT : (tgs M)[a]? = some t := good_tag hF.pop.pop.top (by omega)
  have ri : rI i := hF.pop.top
  obtain ⟨⟨q1, q2⟩, k⟩ := hk lv s3 (putE M t a i.toNat t2 a2) ⟨[], (List.append_nil _).symm⟩ h
  obtain ⟨ca, e1, hP, e3, e4⟩ := hF.2.2.2.1
  have hK := hKn.2.2.1
  have he : (wsOf ad base none M ca)[a]? = some (base + a, .inl (ca a, alen t, .inr (.inr (.inr (.inr fun j => (gE none M t a j).map fun q => ad q.1 q.2))))) := by rw [ws_at ad hT, eOf_ref (Or.inl h1)]
  have hv : (wsOf ad base none M ca)[a2]? = some (base + a2, .inr (t2, (List.range (nf t2)).map (fldV ad none M t2 a2))) := by rw [ws_at ad hT2, eOf_obj h13]
  have hlt : (Int32.ofInt i).toNatClampNeg < alen t := by rw [clampI ri]; omega
  have hi0 : ¬ Int32.ofInt i < 0 := by
    rw [show (0 : Int32) = Int32.ofInt 0 from rfl, ofI_lt ri rI_0]; omega
  obtain ⟨r', hr', cellV, g1, g2, g3, -⟩ := hP a2 _ hv
  have hcls := (hK.1 t2 _ (cl_at h13)).2
  have hRA := (e3 a t hT t20).2
  have hAr := (e3 a t hT t20).1
  rw [aty_3 h1, ← h2] at hRA hAr
  obtain ⟨kA, comp, k1, k2, k3, -⟩ := hRA
  have hcomp : comp = D.1 t2 := Option.some.inj (k3.symm.trans hcls.1)
  subst hcomp
  obtain ⟨kC, hkC, -⟩ := hcls.2
  show W p l e R s m args below meth c H locs (cN M - N0) (sN M - S0) Q (F0 m pc ls (.ref (ad t2 a2) :: .int (Int32.ofInt i) :: .ref (ad t a) :: s3.map (enc ad)))
  rw [had t2 a2 (by omega), had t a (by omega)]
  refine W.aast hx hb (hP a _ he) (fun q h => by cases h) (fun h => by cases h) k1 k2 rfl hkC ⟨hi0, by show _ < (arrV _ _ _).slots.size; rw [arrV_size]; exact hlt⟩ g1 (fun q h => by rw [g3] at h; cases h) (by rw [g2]; exact hkC) (by rw [g2]; exact va_assign hcls) rfl rfl hd fun H1 f1 z oq => ?_
  have hH1 : HR ad base D H0 none s (putE M t a i.toNat t2 a2) H1 := by
    refine ⟨ca, by rw [z, e1]; rfl, ?_, e3, fun q hq => by rw [oq q (fun h => by have h' : q = base + a := h; have h'' : q < base := hq; omega)]; exact e4 q hq⟩
    rw [← ws_set ad (M := M) (M' := putE M t a i.toNat t2 a2) rfl hT (eOf_ref (Or.inl h1)) (fun b t' _ hb => eOf_congr ca rfl rfl (fun _ => rfl) (fun t'' j => putE_n (by omega)))]
    refine hP.set (ws_D ad base none M ca) he ?_ oq
    show H1[base + a]? = some (vp_cell _ _)
    rw [f1, vp_cell_q, vp_cell_q, arrV_store, clampI ri]
    congr 2
    funext q
    by_cases hq : q = i.toNat
    · subst hq
      rw [putE_s]
      simp [updV, va_rf, had t2 a2 (by omega)]
    · rw [putE_n (fun g => hq g.2.2)]
      simp [updV, hq]
  have kk := k ls H1 (locs ++ [⟨base + a, (Int32.ofInt i).toNatClampNeg⟩]) ⟨hF.1, hF.2.1, hF.pop.pop.pop.2.2.1, hH1, hF.2.2.2.2.1.putE hT hT2, fun q hq => by
    rcases List.mem_append.mp hq with hq | hq
    · exact hF.2.2.2.2.2 q hq
    · rw [List.mem_singleton.mp hq]; exact Nat.le_add_right _ _⟩
  rw [hl1] at kk
  exact kk
theorem own_cls : (List.range 13).all (fun t => decide (ownN t = (clsT t).1)) = true := by decide +kernel
/-- a reference goes into a final field -/
theorem sp_putr (had : ∀ t a, t < 90 → ad t a = base + a) (f : Nat) : SpP l ad base D H0 gr sc Xt (.invokedynamic f) := by
  intro j d p e R s m args below meth c Q N0 S0 pc ls H locs lv st M res raw len hCX hd hok hF hN hS K h hk
  obtain ⟨hx, hb, hml, hown, hKn, hnm, hfr, hlo⟩ := hCX
  obtain ⟨rfl, h⟩ := pN_some h
  obtain ⟨t2, a2, s1, rfl, h⟩ := pR_some h
  obtain ⟨t, a, s2, rfl, h⟩ := pR_some h
  obtain ⟨h0, h⟩ := pB_some h
  rw [Bool.and_eq_true] at h0
  have ht : t = f / 100 := Nat.eq_of_beq_eq_true h0.1
  have h89 : t2 ≤ 89 := Nat.le_of_ble_eq_true h0.2
  obtain ⟨hr1, hl3, hfl, hfk, hfin, hini, hoo⟩ := of_decide_eq_true hok
  obtain ⟨hlk, hdc, h13, hnf⟩ := hKn.fl hfl args
  rw [hr1, hl3] at hd
  have hT : (tgs M)[a]? = some (f / 100) := by rw [← ht]; exact good_tag hF.pop.top (by omega)
  have hT2 : (tgs M)[a2]? = some t2 := good_tag hF.top (by omega)
  obtain ⟨hty, hnm2⟩ := ty_all h13
  obtain ⟨⟨q1, q2⟩, k⟩ := hk lv s2 (putF M f a t2 a2) ⟨[], (List.append_nil _).symm⟩ h
  have ef : 100 * (f / 100) + f % 100 = f := Nat.div_add_mod f 100
  have hoc : ownN (f / 100) = (clsT (f / 100)).1 := of_decide_eq_true (List.all_eq_true.mp own_cls (f / 100) (List.mem_range.mpr h13))
  have hRT : isRT (tyC (f / 100) (f % 100)) = true := by
    have h9 := (hty _ hnf).2
    have h10 : (ftab.getD (f / 100) []).getD (f % 100) 9 = 2 := hfk
    rw [h10] at h9
    exact h9
  show W p l e R s m args below meth c H locs (cN M - N0) (sN M - S0) Q (F0 m pc ls (.ref (ad t2 a2) :: .ref (ad t a) :: s2.map (enc ad)))
  rw [had t a (by omega)]
  refine hr_put hx hb hown hKn.2.2.1 (hKn.cw h13 args) h13 hT hnf hlk hdc hd (tyC (f / 100)) (fun k hk => (hty k hk).1) hnm2 (Or.inr ⟨hfin, hnm.trans hini, by rw [hoo]; exact hoc⟩) ?_ ?_ (M' := putF M f a t2 a2) rfl (fun q hq => ?_) (fun ca b t' _ hb => eOf_congr ca rfl rfl (fun f' => putF_n (fun g => hb g.2)) (fun _ _ => rfl)) hF.2.2.2.1 (fun H1 sl hH1 => ?_)
  · generalize tyC (f / 100) (f % 100) = ty at hRT
    cases ty <;> first | rfl | (exact absurd hRT (by decide))
  · generalize tyC (f / 100) (f % 100) = ty at hRT
    cases ty <;> first | rfl | (exact absurd hRT (by decide))
  · by_cases c : q = f % 100
    · subst c
      rw [if_pos rfl]
      have h10 : (ftab.getD (f / 100) []).getD (f % 100) 9 = 2 := hfk
      unfold fldV
      rw [h10, ef, putF_s]
      rfl
    · rw [if_neg c]
      unfold fldV
      rw [putF_n (fun g => c (by omega))]
      rfl
  · have kk := k ls H1 (locs ++ [⟨base + a, sl⟩]) ⟨hF.1, hF.2.1, hF.pop.pop.2.2.1, hH1, hF.2.2.2.2.1.putF hT hT2, fun q hq => by
      rcases List.mem_append.mp hq with hq | hq
      · exact hF.2.2.2.2.2 q hq
      · rw [List.mem_singleton.mp hq]; exact Nat.le_add_right _ _⟩
    rw [hl3] at kk
    exact kk
end SpQ
