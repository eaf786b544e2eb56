/-! the rows of every method are what its bytes have; all fuel -/
theorem chkR_at {own maxL rk : Nat} {rt : Option FieldType} {nm : String} {cc : ByteArray} {all : List Row} : ∀ {rows : List Row}, chkR own maxL rk rt nm cc all rows = true → ∀ (ix pc : Nat) (kp : Option (List Nat)) (i : Instr) (tl : List Row), rows.drop ix = (pc, kp, i) :: tl → ∃ raw len, decode cc pc = .ok (raw, len) ∧ okI own maxL rk rt nm all pc len raw i = true ∧ (noFall i = true ∨ headPc tl = some (pc + len))
  | [], _, ix, pc, kp, i, tl, h => by simp at h
  | (pc0, kp0, i0) :: t, hc, ix, pc, kp, i, tl, h => by
    unfold chkR at hc
    obtain ⟨h1, h2⟩ := Bool.and_eq_true_iff.mp hc
    cases ix with
    | zero =>
      simp only [List.drop_zero, List.cons.injEq, Prod.mk.injEq] at h
      obtain ⟨⟨rfl, rfl, rfl⟩, rfl⟩ := h
      cases hd : decode cc pc0 with
      | error e => rw [hd] at h1; cases h1
      | ok q =>
        obtain ⟨raw, len⟩ := q
        rw [hd] at h1
        obtain ⟨h3, h4⟩ := Bool.and_eq_true_iff.mp h1
        refine ⟨raw, len, rfl, h3, ?_⟩
        rcases Bool.or_eq_true_iff.mp h4 with q | q
        · exact Or.inl q
        · exact Or.inr (of_decide_eq_true q)
    | succ k => exact chkR_at h2 k pc kp i tl (by simpa using h)
theorem sim_zero (l : Launch) (ad : Nat → Nat → Nat) (base : Nat) (D : va_G) (H0 : Heap) (gr : Gr) (sc : (Nat → Int) × Nat) (Xt : State → Prop) : SIM l ad base D H0 gr sc Xt 0 := by
  intro j d rows lv st M r Mf _ h
  cases h
theorem rk_dec : (List.range 385).all (fun j => decide (1 ≤ rkO j)) = true := by decide +kernel
theorem MI_out {j : Nat} (h : 385 ≤ j) : (MT j).1 = [] := by
  unfold MT
  by_cases h1 : j / 20 < 20
  · have e : j / 20 = 19 := by omega
    have e2 : 5 ≤ j % 20 := by omega
    rw [e]
    have : (mtT.getD 19 []).length = 5 := by decide +kernel
    rw [List.getD_eq_getElem?_getD (l := mtT.getD 19 []), List.getElem?_eq_none (by omega)]
    rfl
  · have : mtT.length = 20 := by decide +kernel
    rw [List.getD_eq_getElem?_getD (l := mtT), List.getElem?_eq_none (by omega)]
    rfl
theorem rk_ok (j : Nat) (h : (MT j).1 ≠ []) : 1 ≤ rkO j := by
  rcases Nat.lt_or_ge j 385 with q | q
  · exact of_decide_eq_true (List.all_eq_true.mp rk_dec j (List.mem_range.mpr q))
  · exact absurd (MI_out q) h
theorem sim_all (l : Launch) (ad : Nat → Nat → Nat) (base : Nat) (D : va_G) (H0 : Heap) (gr : Gr) (sc : (Nat → Int) × Nat) (Xt : State → Prop) (hX : XtOk Xt) (had : ∀ t a, t < 90 → ad t a = base + a) (hrow : ∀ j, j < 384 → RowOk j ∧ headPc (MT j).1 = some 0) (hsp : SpO l ad base D H0 gr sc Xt) : ∀ n, SIM l ad base D H0 gr sc Xt n
  | 0 => sim_zero l ad base D H0 gr sc Xt
  | n + 1 => sim_step l ad base D H0 gr sc Xt hX had hrow rk_ok hsp (sim_all l ad base D H0 gr sc Xt hX had hrow hsp n)
