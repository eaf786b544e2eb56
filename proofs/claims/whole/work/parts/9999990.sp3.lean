/-! the text, and rows of rows -/
def keyS : String := "life border jars part fades ways written hand age price knows spring at gives year make use teach write burn capture any when known whole loop end stop "
/-- what else stays: the text's place, and what is known of it -/
def aoL (U : State) : Prop := (Cond.arrayOver (.array .long)).before #[] U = true
theorem aoL.use {U : State} (h : aoL U) (A : Array Value) : (Cond.arrayOver (.array .long)).before A U = true := arrayOver_alikeB (Vm.Alike.refl U.vm) h
theorem aoL.moved {u U : State} (hvm : u.vm.Alike U.vm) (h : aoL u) : aoL U := arrayOver_alikeB hvm h
def StT (base aK aV fm : Nat) (H0 : Heap) (s : State) : Prop := vk_R "SeaFire$Reader" 57 keyS aK s ∧ SF base aK aV fm s H0 ∧ aoL s
theorem StT.ok {base aK aV fm : Nat} {H0 : Heap} : XtOk (StT base aK aV fm H0) := fun _ _ hW h => ⟨h.1.warm hW, h.2.1.moved hW.alike, h.2.2.moved hW.alike⟩
theorem own_8 : ownN 8 = "SeaFire$Reader" ∧ ownN 0 = "SeaFire$Battle" := by decide +kernel
theorem arrV_congr {cA : ClassId} {n : Nat} {f g : Nat → Value} (h : ∀ j, j < n → f j = g j) : arrV cA n f = arrV cA n g := by
  unfold arrV
  congr 1
  exact congrArg Array.ofFn (funext fun j => h j.val j.isLt)
theorem mul_in : inTbl 543 (.classLink "SeaFire$Battle" 9 "[[J") = true := by decide +kernel
section SpT
variable {l : Launch} {ad : Nat → Nat → Nat} {base : Nat} {D : va_G} {H0 : Heap} {gr : Gr} {sc : (Nat → Int) × Nat} {Xt : State → Prop} {aK aV fm : Nat}
theorem sp_castore (ha92 : ∀ a, ad 92 a = aK) (hXS : ∀ s, Xt s → StT base aK aV fm H0 s) : SpP l ad base D H0 gr sc Xt .castore := by
  intro j d p e R s m args below meth c Q N0 S0 pc ls H locs lv st M res raw len hCX hd hok hF hN hS K h hk
  obtain ⟨hx, hb, hml, hown, hKn, hnm, hfr, hlo⟩ := hCX
  obtain ⟨hr1, hw1, hl1⟩ := of_decide_eq_true hok
  rw [hr1, hl1] at hd
  rw [hw1, own_8.1] at hown
  have k := (hk lv (vR 92 0 :: st) M ⟨[], (List.append_nil _).symm⟩ h).2 ls H locs (hF.push (v := vR 92 0) (Or.inl (by omega)))
  rw [hl1] at k
  have e1 : enc ad (vR 92 0) = .ref aK := by show Value.ref (ad 92 0) = _; rw [ha92]
  refine va_ldcS hx hb hown (hXS s hKn.2.2.2).1 hd ?_
  rw [← e1]
  exact k
theorem sf_at {s : State} {M : Mem} {H : Heap} (h : SF base aK aV fm s H0) (hH : HR ad base D H0 gr s M H) : SF base aK aV fm s H := by
  obtain ⟨ca, e1, hP, e3, e4⟩ := hH
  exact h.kept fun a _ ha => e4 a (by omega)
theorem sp_saload (ha92 : ∀ a, ad 92 a = aK) (hXS : ∀ s, Xt s → StT base aK aV fm H0 s) : SpP l ad base D H0 gr sc Xt .saload := by
  intro j d p e R s m args below meth c Q N0 S0 pc ls H locs lv st M res raw len hCX hd hok hF hN hS K h hk
  obtain ⟨hx, hb, hml, hown, hKn, hnm, hfr, hlo⟩ := hCX
  obtain ⟨t, a, s2, rfl, h⟩ := pR_some h
  obtain ⟨h0, h⟩ := pB_some h
  rw [Bool.and_eq_true] at h0
  have ht := Nat.eq_of_beq_eq_true h0.1
  have hw := Nat.le_of_ble_eq_true h0.2
  obtain ⟨hr1, hw1, hl1, hrk⟩ := of_decide_eq_true hok
  rw [hr1, hl1] at hd
  rw [hw1, own_8.1] at hown
  have hrk' : 6 ≤ rkO j := hrk
  obtain ⟨⟨q1, q2⟩, k⟩ := hk lv (vI 152 :: s2) M ⟨[], (List.append_nil _).symm⟩ h
  have kk := k ls H locs (hF.pop.push (v := vI 152) (by show rI 152; unfold rI; omega))
  rw [hl1] at kk
  have w1 := tx_codes
  have w2 := tx_links
  have w3 := tx_inst
  have w5 := tx_ini
  have w6 := tx_sel
  simp only [Bool.and_eq_true] at w1 w2 w3 w5 w6
  show W p l e R s m args below meth c H locs (cN M - N0) (sN M - S0) Q (F0 m pc ls (.ref (ad t a) :: s2.map (enc ad)))
  rw [ht, ha92]
  exact t_callV (base := base) (aV := aV) (fm := fm) (vs := []) (rest := s2.map (enc ad)) (n := 0) (v := some (.int 152)) hx hb (hml.trans hF.1.1.symm) hown hKn.1 (c_len l) (sf_at (hXS s hKn.2.2.2).2.1 hF.2.2.2.1) w1.1 w5.1 w3.1 w6.1 w2.1 (by decide) (by decide +kernel) rfl (by omega) (by omega) ⟨q1, q2⟩ (by rw [wsum_cat]; exact hw) hd kk
theorem sp_caload (ha92 : ∀ a, ad 92 a = aK) (hXS : ∀ s, Xt s → StT base aK aV fm H0 s) : SpP l ad base D H0 gr sc Xt .caload := by
  intro j d p e R s m args below meth c Q N0 S0 pc ls H locs lv st M res raw len hCX hd hok hF hN hS K h hk
  obtain ⟨hx, hb, hml, hown, hKn, hnm, hfr, hlo⟩ := hCX
  obtain ⟨i, s1, rfl, h⟩ := pI_some h
  obtain ⟨t, a, s2, rfl, h⟩ := pR_some h
  obtain ⟨h0, h⟩ := pB_some h
  rw [Bool.and_eq_true] at h0
  have ht := Nat.eq_of_beq_eq_true h0.1
  have hw := Nat.le_of_ble_eq_true h0.2
  obtain ⟨hi, h⟩ := if_some h
  have hlen : keyT.length = 152 := by decide +kernel
  rw [hlen] at hi
  obtain ⟨hr1, hw1, hl1, hrk⟩ := of_decide_eq_true hok
  rw [hr1, hl1] at hd
  rw [hw1, own_8.1] at hown
  have hrk' : 6 ≤ rkO j := hrk
  have ri : rI i := hF.top
  have hj : i.toNat < 152 := by omega
  have rk : rI (keyT.getD i.toNat 0) := by
    have h9 : (List.range 152).all (fun j => decide (-2147483648 ≤ keyT.getD j 0 ∧ keyT.getD j 0 < 2147483648)) = true := by decide +kernel
    have h10 : -2147483648 ≤ keyT.getD i.toNat 0 ∧ keyT.getD i.toNat 0 < 2147483648 := of_decide_eq_true (List.all_eq_true.mp h9 _ (List.mem_range.mpr hj))
    exact h10
  obtain ⟨⟨q1, q2⟩, k⟩ := hk lv (vI (keyT.getD i.toNat 0) :: s2) M ⟨[], (List.append_nil _).symm⟩ h
  have kk := k ls H locs (hF.pop.pop.push (v := vI (keyT.getD i.toNat 0)) rk)
  rw [hl1] at kk
  have ei : Int32.ofInt i = Int32.ofNat i.toNat := by
    apply eI
    rw [toI' ri, Int32.toInt_ofNat_of_lt (by omega)]
    omega
  have w1 := tx_codes
  have w2 := tx_links
  have w3 := tx_inst
  have w5 := tx_ini
  have w6 := tx_sel
  simp only [Bool.and_eq_true] at w1 w2 w3 w5 w6
  show W p l e R s m args below meth c H locs (cN M - N0) (sN M - S0) Q (F0 m pc ls (.int (Int32.ofInt i) :: .ref (ad t a) :: s2.map (enc ad)))
  rw [ht, ha92, ei]
  exact t_callV (base := base) (aV := aV) (fm := fm) (vs := [.int (Int32.ofNat i.toNat)]) (rest := s2.map (enc ad)) (n := 1) (v := some (.int (Int32.ofInt (keyT.getD i.toNat 0)))) hx hb (hml.trans hF.1.1.symm) hown hKn.1 (c_chr l _ hj) (sf_at (hXS s hKn.2.2.2).2.1 hF.2.2.2.1) w1.2.2.1 w5.1 w3.2.2.1 w6.2.2.1 w2.2.2.1 (by decide) (by decide +kernel) rfl (by omega) (by omega) ⟨q1, q2⟩ (by rw [wsum_cat]; exact hw) hd kk
def addM (M : Mem) : Mem := (M.1, M.2.1, M.2.2.1, (fun t' a i => bif Nat.beq t' 32 && (Nat.beq a (tgs M).length && Nat.ble (i + 1) (alen 32)) then some (33, a + 1 + i) else M.2.2.2.1 t' a i), tgs M ++ 32 :: List.replicate (alen 32) 33, M.2.2.2.2.2)
theorem addM_s {M : Mem} {i : Nat} (h : i < 13) : gE none (addM M) 32 (tgs M).length i = some (33, (tgs M).length + 1 + i) := by
  show (bif Nat.beq 32 32 && (Nat.beq (tgs M).length (tgs M).length && Nat.ble (i + 1) (alen 32)) then some (33, (tgs M).length + 1 + i) else _) = _
  have e1 : Nat.beq (tgs M).length (tgs M).length = true := Nat.beq_refl _
  have e2 : Nat.ble (i + 1) (alen 32) = true := Nat.ble_eq_true_of_le (by show i + 1 ≤ 13; omega)
  rw [e1, e2]; rfl
theorem addM_n {M : Mem} {t a i : Nat} (h : ¬ (t = 32 ∧ a = (tgs M).length ∧ i < 13)) : gE none (addM M) t a i = gE none M t a i := by
  show (bif Nat.beq t 32 && (Nat.beq a (tgs M).length && Nat.ble (i + 1) (alen 32)) then some (33, a + 1 + i) else M.2.2.2.1 t a i) = M.2.2.2.1 t a i
  cases e : (Nat.beq t 32 && (Nat.beq a (tgs M).length && Nat.ble (i + 1) (alen 32))) with
  | false => rfl
  | true =>
    rw [Bool.and_eq_true, Bool.and_eq_true] at e
    have e3 : i + 1 ≤ 13 := Nat.le_of_ble_eq_true e.2.2
    exact absurd ⟨Nat.eq_of_beq_eq_true e.1, Nat.eq_of_beq_eq_true e.2.1, by omega⟩ h
theorem addM_t {M : Mem} {a t : Nat} (h : (tgs (addM M))[a]? = some t) : (tgs M)[a]? = some t ∨ (a = (tgs M).length ∧ t = 32) ∨ ((tgs M).length < a ∧ a < (tgs M).length + 14 ∧ t = 33) := by
  have hT : tgs (addM M) = tgs M ++ 32 :: List.replicate 13 33 := rfl
  rw [hT] at h
  by_cases c : a < (tgs M).length
  · rw [List.getElem?_append_left c] at h; exact Or.inl h
  · rw [List.getElem?_append_right (by omega)] at h
    by_cases c2 : a = (tgs M).length
    · rw [c2, Nat.sub_self] at h
      exact Or.inr (Or.inl ⟨c2, (Option.some.inj h).symm⟩)
    · obtain ⟨b, hb⟩ : ∃ b, a - (tgs M).length = b + 1 := ⟨a - (tgs M).length - 1, by omega⟩
      rw [hb, List.getElem?_cons_succ] at h
      obtain ⟨hlt, he⟩ := List.getElem?_eq_some_iff.mp h
      rw [List.length_replicate] at hlt
      rw [List.getElem_replicate] at he
      exact Or.inr (Or.inr ⟨by omega, by omega, he.symm⟩)
theorem addM_up {M : Mem} {a t : Nat} (h : (tgs M)[a]? = some t) : (tgs (addM M))[a]? = some t := by
  have hT : tgs (addM M) = tgs M ++ 32 :: List.replicate 13 33 := rfl
  rw [hT, List.getElem?_append_left (List.getElem?_eq_some_iff.mp h).1]; exact h
theorem addM_in {M : Mem} {i : Nat} (h : i < 13) : (tgs (addM M))[(tgs M).length + 1 + i]? = some 33 := by
  have hT : tgs (addM M) = tgs M ++ 32 :: List.replicate 13 33 := rfl
  rw [hT, List.getElem?_append_right (by omega), show (tgs M).length + 1 + i - (tgs M).length = i + 1 by omega, List.getElem?_cons_succ, List.getElem?_replicate, if_pos h]
theorem addM_at {M : Mem} : (tgs (addM M))[(tgs M).length]? = some 32 := by
  have hT : tgs (addM M) = tgs M ++ 32 :: List.replicate 13 33 := rfl
  rw [hT, List.getElem?_append_right (Nat.le_refl _), Nat.sub_self]; rfl
theorem mok_addM {M : Mem} (h : MOk none sc M) : MOk none sc (addM M) := by
  obtain ⟨h1, h2, h3, h4, h5, h6, h7⟩ := h
  have hL : (tgs (addM M)).length = (tgs M).length + 14 := by
    show (tgs M ++ 32 :: List.replicate 13 33).length = _
    rw [List.length_append]; rfl
  refine ⟨h1, h2, fun a t hh => ?_, fun a t k q hh hk hq => ?_, fun a t i q hh h20 hi hq => ?_, fun a ha => ?_, h7⟩
  · rcases addM_t hh with g | ⟨_, rfl⟩ | ⟨_, _, rfl⟩
    · exact h3 a t g
    · exact Or.inr (by omega)
    · exact Or.inr (by omega)
  · rcases addM_t hh with g | ⟨rfl, _⟩ | ⟨g, _, _⟩
    · exact addM_up (h4 a t k q g hk hq)
    · have e : gF none (addM M) (100 * t + k) (tgs M).length = none := ((h6 _ (Nat.le_refl _)).2.2 rfl).1 _
      rw [e] at hq; cases hq
    · have e : gF none (addM M) (100 * t + k) a = none := ((h6 a (by omega)).2.2 rfl).1 _
      rw [e] at hq; cases hq
  · rcases addM_t hh with g | ⟨rfl, rfl⟩ | ⟨g, _, rfl⟩
    · have hlt := (List.getElem?_eq_some_iff.mp g).1
      rw [addM_n (by omega)] at hq
      exact addM_up (h5 a t i q g h20 hi hq)
    · have hi' : i < 13 := hi
      rw [addM_s hi'] at hq
      cases hq
      exact addM_in hi'
    · rw [addM_n (by omega)] at hq
      have e : gE none M 33 a i = none := ((h6 a (by omega)).2.2 rfl).2 _ _
      rw [e] at hq; cases hq
  · rw [hL] at ha
    obtain ⟨z1, z2, z3⟩ := h6 a (by omega)
    refine ⟨z1, z2, fun _ => ⟨(z3 rfl).1, fun t i => ?_⟩⟩
    have e := addM_n (M := M) (t := t) (a := a) (i := i) (by omega)
    exact e.trans ((z3 rfl).2 t i)
theorem sp_multi (had : ∀ t a, t < 90 → ad t a = base + a) (hAL : ∀ s, Xt s → aoL s) (t0 u0 : Nat) : SpP l ad base D H0 gr sc Xt (.multianewarray t0 u0) := by
  intro j d p e R s m args below meth c Q N0 S0 pc ls H locs lv st M res raw len hCX hd hok hF hN hS K h hk
  obtain ⟨hx, hb, hml, hown, hKn, hnm, hfr, hlo⟩ := hCX
  obtain ⟨rfl, h⟩ := pN_some h
  obtain ⟨n, s1, rfl, h⟩ := pI_some h
  obtain ⟨m0, s2, rfl, h⟩ := pI_some h
  obtain ⟨h0, h⟩ := pB_some h
  obtain ⟨hn, h⟩ := if_some h
  obtain ⟨hr1, hw1, rfl, rfl, hl4⟩ := of_decide_eq_true hok
  rw [hr1, hl4] at hd
  rw [hw1, own_8.2] at hown
  have n13 : n = 13 := hn.1
  have m13 : m0 = 13 := hn.2
  subst n13
  subst m13
  obtain ⟨⟨q1, q2⟩, k⟩ := hk lv (vR 32 (tgs M).length :: s2) (addM M) ⟨32 :: List.replicate 13 33, rfl⟩ h
  have ec : cN (addM M) = cN M + 14 := by
    show (tgs M ++ 32 :: List.replicate 13 33).length = _
    rw [List.length_append]; rfl
  have es : sN (addM M) = sN M + 182 := by
    show ((tgs M ++ 32 :: List.replicate 13 33).map slO).sum = _
    rw [List.map_append, List.sum_append]
    rfl
  obtain ⟨ca, e1, hP, e3, e4⟩ := hF.2.2.2.1
  obtain ⟨z1, z2, z3⟩ := hF.2.2.2.2.1.2.2.2.2.2.1 (tgs M).length (Nat.le_refl _)
  have hz := hF.2.2.2.2.1.2.2.2.2.2.1
  have wi := mul_in
  have ai := arr_in
  rw [Bool.and_eq_true, Bool.and_eq_true] at ai
  show W p l e R s m args below meth c H locs (cN M - N0) (sN M - S0) Q (F0 m pc ls (.int (Int32.ofInt 13) :: .int (Int32.ofInt 13) :: s2.map (enc ad)))
  refine w_multi (N := 13) (K := 13) hx hb hown (hKn.tbl wi args) ((hAL s hKn.2.2.2).use args) (hKn.tbl ai.2.1 args) hd rfl rfl (by decide) (by decide) (by decide) (by decide) (by decide) (by omega) (by omega) fun H1 cA comp f1 f2 a1 a2 zz g1 g2 o1 => ?_
  obtain ⟨cb, cb1, cb2, cb3⟩ : ∃ cb : Nat → ClassId, cb (tgs M).length = cA ∧ (∀ i, i < (tgs M).length → cb i = ca i) ∧ ∀ i, (tgs M).length < i → cb i = comp := ⟨fun i => if i = (tgs M).length then cA else if i < (tgs M).length then ca i else comp, if_pos rfl, fun i h => by
    show (if i = (tgs M).length then cA else if i < (tgs M).length then ca i else comp) = _
    rw [if_neg (by omega), if_pos h], fun i h => by
    show (if i = (tgs M).length then cA else if i < (tgs M).length then ca i else comp) = _
    rw [if_neg (by omega), if_neg (by omega)]⟩
  have hH1 : HR ad base D H0 none s (addM M) H1 := by
    refine ⟨cb, ?_, fun b q hq => ?_, fun b t hh h20 => ?_, fun q hq => ?_⟩
    · rw [zz, e1]
      show _ = base + cN (addM M)
      rw [ec]
      show base + cN M + 1 + 13 = _
      omega
    · obtain ⟨t', ht', eq⟩ := ws_inv ad hq
      rw [eq]
      rcases addM_t ht' with g | ⟨rfl, rfl⟩ | ⟨g, g', rfl⟩
      · have hlt := (List.getElem?_eq_some_iff.mp g).1
        have ee : eOf ad none (addM M) cb b t' = eOf ad none M ca b t' := by
          have e5 : eOf ad none (addM M) cb b t' = eOf ad none M cb b t' := eOf_congr cb rfl rfl (fun _ => rfl) (fun t j => addM_n (by omega))
          rw [e5]
          unfold eOf
          rw [cb2 b hlt]
        rw [ee]
        exact (hP b _ (ws_at ad g)).kept (o1 _ (by rw [e1]; show base + b < _; omega))
      · rw [eOf_ref (Or.inr rfl), cb1, ← e1]
        show H1[H.size]? = some (vp_cell _ _)
        rw [vp_cell_q, g1]
        show some (arrV cA 13 _) = some (arrV cA 13 _)
        refine congrArg some (arrV_congr fun q hq13 => ?_)
        show (if q < 13 then Value.ref (Array.size H + 1 + q) else Value.null) = va_rf (Option.map (fun q => ad q.1 q.2) (gE none (addM M) 32 (tgs M).length q))
        rw [if_pos hq13, addM_s hq13]
        show Value.ref _ = Value.ref (ad 33 ((tgs M).length + 1 + q))
        rw [had 33 _ (by omega), e1]
        have e10 : base + (tgs M).length + 1 + q = base + ((tgs M).length + 1 + q) := by omega
        exact congrArg Value.ref e10
      · obtain ⟨i, rfl⟩ : ∃ i, b = (tgs M).length + 1 + i := ⟨b - (tgs M).length - 1, by omega⟩
        have hi : i < 13 := by omega
        rw [eOf_long rfl, cb3 _ (by omega)]
        show H1[base + ((tgs M).length + 1 + i)]? = some (vp_cell _ _)
        rw [vp_cell_l, show base + ((tgs M).length + 1 + i) = H.size + 1 + i by rw [e1]; omega, g2 i hi]
        refine congrArg some (arrV_congr fun q _ => ?_)
        have e9 : (addM M).2.1 ((tgs M).length + 1 + i) q = 0 := (hz _ (by omega)).2.1 q
        show Value.long 0 = Value.long (Int64.ofInt ((addM M).2.1 ((tgs M).length + 1 + i) q))
        rw [e9]
        rfl
    · rcases addM_t hh with g | ⟨rfl, rfl⟩ | ⟨g, g', rfl⟩
      · rw [cb2 b (List.getElem?_eq_some_iff.mp g).1]
        exact e3 b t g h20
      · rw [cb1, aty_4 rfl]
        exact ⟨a1, f1⟩
      · rw [cb3 b g, aty_1 rfl]
        exact ⟨a2, f2⟩
    · rw [o1 q (by omega)]
      exact e4 q hq
  have kk := k ls H1 locs ((hF.pop.pop.grow ⟨32 :: List.replicate 13 33, rfl⟩ hH1 (mok_addM hF.2.2.2.2.1)).push (v := vR 32 (tgs M).length) (Or.inr addM_at))
  rw [hl4, ec, es, show cN M + 14 - N0 = cN M - N0 + 1 + 13 by omega, show sN M + 182 - S0 = sN M - S0 + 13 + 13 * 13 by omega] at kk
  have ea : enc ad (vR 32 (tgs M).length) = .ref H.size := by
    show Value.ref (ad 32 (tgs M).length) = _
    rw [had 32 _ (by omega), e1]
  rw [List.map_cons, ea] at kk
  exact kk
end SpT
section SpAll
variable {l : Launch} {ad : Nat → Nat → Nat} {base : Nat} {D : va_G} {H0 : Heap} {gr : Gr} {sc : (Nat → Int) × Nat} {Ls bs aS : Nat} {xs : Nat → Int32} {aK aV fm : Nat}
/-- all that is done apart -/
theorem sp_all (had : ∀ t a, t < 90 → ad t a = base + a) (ha90 : ∀ a, ad 90 a = bs) (ha91 : ∀ a, ad 91 a = aS) (ha92 : ∀ a, ad 92 a = aK) (hbs : bs < base) (hLs : Ls < 2 ^ 31) (hsc : sc = (fun j => (xs j).toInt, Ls)) (hsz : H0.size = base) : SpO l ad base D H0 gr sc (XtD base bs Ls aS xs H0 (StT base aK aV fm H0)) := by
  refine SpO_of l ad base D H0 gr sc _ fun i hi => ?_
  have hXS : ∀ s, XtD base bs Ls aS xs H0 (StT base aK aV fm H0) s → StT base aK aV fm H0 s := fun s h => h.2.2.2.2.2
  have hAO : ∀ s, XtD base bs Ls aS xs H0 (StT base aK aV fm H0) s → ∀ t, akind t = 3 → va_AO (clsT (acomp t)).1 s := fun s h => h.2.2.2.2.1
  cases i with
  | faload => exact sp_faload hbs ha90 hsc
  | fastore => exact sp_fastore hbs hLs ha90 hsc
  | dastore => exact sp_dastore ha91 hsz
  | daload => exact sp_daload ha91 hsz
  | castore => exact sp_castore ha92 hXS
  | saload => exact sp_saload ha92 hXS
  | caload => exact sp_caload ha92 hXS
  | dadd => exact sp_dadd had
  | dsub => exact sp_dsub had
  | new k => exact sp_new had k
  | dload t => exact sp_dload had t
  | fload t => exact sp_fload had hAO t
  | multianewarray t u => exact sp_multi had (fun s h => (hXS s h).2.2) t u
  | invokedynamic f => exact sp_putr had f
  | aastore => exact sp_aastore had
  | _ => exact absurd hi (by intro q; cases q)
end SpAll
