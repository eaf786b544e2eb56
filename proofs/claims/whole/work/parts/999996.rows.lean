/-! rows are made -/
theorem arr_in : (inTbl 297 (.arrayClass .int) && (inTbl 296 (.arrayClass .long) && inTbl 295 (.arrayClass .byte))) = true := by decide +kernel
def atyN (t : Nat) : ArrayType := bif Nat.beq (akind t) 0 then .int else bif Nat.beq (akind t) 1 then .long else .byte
theorem alen_31 (t : Nat) : alen t < 1000000 := by
  have h : atab.all (fun q => decide (q.2.1 < 1000000)) = true := by decide +kernel
  unfold alen
  rw [List.getD_eq_getElem?_getD]
  cases e : atab[t - 20]? with
  | none => decide
  | some q =>
    have := List.all_eq_true.mp h q (List.mem_of_getElem? e)
    exact of_decide_eq_true this
section SpR
variable {l : Launch} {ad : Nat → Nat → Nat} {base : Nat} {D : va_G} {H0 : Heap} {gr : Gr} {sc : (Nat → Int) × Nat} {Xt : State → Prop}
theorem tag_ak {t : Nat} (h : akind t ≤ 4) : 20 ≤ t ∧ t ≤ 40 := by
  unfold akind at h
  cases e : Nat.ble 20 t with
  | false => rw [e] at h; exact absurd (show (9 : Nat) ≤ 4 from h) (by decide)
  | true =>
    rw [e] at h
    have h20 := Nat.le_of_ble_eq_true e
    refine ⟨h20, ?_⟩
    by_cases c : t - 20 < atab.length
    · have : atab.length = 21 := rfl
      omega
    · rw [List.getD_eq_getElem?_getD, List.getElem?_eq_none (by omega)] at h
      exact absurd h (by decide)
theorem sl_arr {t : Nat} (h : 20 ≤ t) : slO t = alen t := by
  unfold slO
  have : Nat.ble 20 t = true := Nat.ble_eq_true_of_le h
  rw [this]; rfl
/-- a row of numbers -/
theorem sp_dload (had : ∀ t a, t < 90 → ad t a = base + a) (t0 : Nat) : SpP l ad base D H0 gr sc Xt (.dload t0) := by
  intro j d p e R s m args below meth c Q N0 S0 pc ls H locs lv st M res raw len hCX hd hok hF hN hS K h hk
  obtain ⟨hx, hb, hml, hown, hKn, hnm, hfr, hlo⟩ := hCX
  obtain ⟨rfl, h⟩ := pN_some h
  obtain ⟨n, s1, rfl, h⟩ := pI_some h
  obtain ⟨h0, h⟩ := pB_some h
  obtain ⟨hn, h⟩ := if_some h
  obtain ⟨hl2, hraw⟩ := of_decide_eq_true hok
  have hk4 : akind t0 ≤ 4 := Nat.le_trans (Nat.le_of_ble_eq_true h0) (by decide)
  obtain ⟨t20, t40⟩ := tag_ak hk4
  obtain ⟨⟨q1, q2⟩, k⟩ := hk lv (vR t0 (tgs M).length :: s1) (addT M [t0]) ⟨[t0], rfl⟩ h
  have ec := (sN_add (M := M) (t := t0)).1
  have es := (sN_add (M := M) (t := t0)).2
  rw [sl_arr t20] at es
  obtain ⟨ca, e1, hP, e3, e4⟩ := hF.2.2.2.1
  obtain ⟨z1, z2, z3⟩ := hF.2.2.2.2.1.2.2.2.2.2.1 (tgs M).length (Nat.le_refl _)
  have ha := alen_31 t0
  have rn : rI n := hF.top
  have nn : ¬ Int32.ofInt n < 0 := by
    rw [show (0 : Int32) = Int32.ofInt 0 from rfl, ofI_lt rn rI_0]; omega
  have nN : (Int32.ofInt n).toNatClampNeg = alen t0 := by rw [clampI rn, hn]; exact Int.toNat_natCast _
  have ai := arr_in
  rw [Bool.and_eq_true, Bool.and_eq_true] at ai
  -- the rest, once the row stands
  have fin : ∀ (H1 : Heap) (cA : ClassId) (a0 : vp_A), eOf ad none (addT M [t0]) (fun _ => cA) (tgs M).length t0 = .inl (cA, a0) → H1[H.size]? = some (vp_cell cA a0) → H1.size = H.size + 1 → (∀ q, q < H.size → H1[q]? = H[q]?) → (ArrOfT s cA (aty t0) ∧ va_RA s cA (aty t0)) → W p l e R s m args below meth c H1 locs (cN M - N0 + 1) (sN M - S0 + alen t0) Q (F0 m (pc + 2) ls (.ref H.size :: s1.map (enc ad))) := by
    intro H1 cA a0 f2 f1 z1' o1 hAr
    have hH1 : HR ad base D H0 none s (addT M [t0]) H1 := by
      refine HR.add (ca := ca) cA e1 hP e3 e4 z1' o1 (fun _ => hAr) ?_
      rw [f2, ← e1]
      exact f1
    have kk := k ls H1 locs ((hF.pop.grow ⟨[t0], rfl⟩ hH1 (hF.2.2.2.2.1.add (Or.inr ⟨t20, t40⟩))).push (v := vR t0 (tgs M).length) (Or.inr (by
      show (tgs M ++ [t0])[(tgs M).length]? = some t0
      rw [List.getElem?_append_right (Nat.le_refl _), Nat.sub_self]; rfl)))
    rw [hl2, ec, es, show cN M + 1 - N0 = cN M - N0 + 1 by omega, show sN M + alen t0 - S0 = sN M - S0 + alen t0 by omega] at kk
    have ea : enc ad (vR t0 (tgs M).length) = .ref H.size := by
      show Value.ref (ad t0 (tgs M).length) = _
      rw [had t0 _ (by omega), e1]
    rw [List.map_cons, ea] at kk
    exact kk
  show W p l e R s m args below meth c H locs (cN M - N0) (sN M - S0) Q (F0 m pc ls (.int (Int32.ofInt n) :: s1.map (enc ad)))
  have eb : alen t0 * 8 ≤ 536870912 := by omega
  have eb4 : alen t0 * 4 ≤ 536870912 := by omega
  have eb1 : alen t0 * 1 ≤ 536870912 := by omega
  have hc1 : cN M - N0 + 1 ≤ R.cells := by omega
  have hc2 : sN M - S0 + alen t0 ≤ R.slots := by omega
  have z1e : ∀ q, (addT M [t0]).1 (tgs M).length q = 0 := z1
  have z2e : ∀ q, (addT M [t0]).2.1 (tgs M).length q = 0 := z2
  rcases hraw with ⟨hr1, h1⟩ | ⟨hr1, h1⟩ | ⟨hr1, h1⟩
  · rw [hr1, hl2] at hd
    have har : (Cond.arrayClass (newarray.typeOf .int)).before args s = true := hKn.tbl ai.1 args
    refine va_newaK (atype := .int) (N := alen t0) hx hb har rfl hd rfl nn nN eb4 hc1 hc2 rfl fun H1 cA f1 z1' o1 hAr hNm => ?_
    refine fin H1 cA _ (eOf_int (Or.inl h1)) ?_ z1' o1 ?_
    · rw [f1, vp_cell_i]
      congr 2
      funext q
      rw [z1e]
      rfl
    · rw [aty_0 h1]; exact ⟨hAr, hNm⟩
  · rw [hr1, hl2] at hd
    have har : (Cond.arrayClass (newarray.typeOf .long)).before args s = true := hKn.tbl ai.2.1 args
    refine va_newaK (atype := .long) (N := alen t0) hx hb har rfl hd rfl nn nN eb hc1 hc2 rfl fun H1 cA f1 z1' o1 hAr hNm => ?_
    refine fin H1 cA _ (eOf_long h1) ?_ z1' o1 ?_
    · rw [f1, vp_cell_l]
      congr 2
      funext q
      rw [z2e]
      rfl
    · rw [aty_1 h1]; exact ⟨hAr, hNm⟩
  · rw [hr1, hl2] at hd
    have har : (Cond.arrayClass (newarray.typeOf .byte)).before args s = true := hKn.tbl ai.2.2 args
    refine va_newaK (atype := .byte) (N := alen t0) hx hb har rfl hd rfl nn nN eb1 hc1 hc2 rfl fun H1 cA f1 z1' o1 hAr hNm => ?_
    refine fin H1 cA _ (eOf_int (Or.inr h1)) ?_ z1' o1 ?_
    · rw [f1, vp_cell_i]
      congr 2
      funext q
      rw [z1e]
      rfl
    · rw [aty_2 h1]; exact ⟨hAr, hNm⟩
end SpR
