theorem chk_0 : (List.range' 0 20).all chkM = true := by decide +kernel
theorem chk_1 : (List.range' 20 20).all chkM = true := by decide +kernel
theorem chk_2 : (List.range' 40 20).all chkM = true := by decide +kernel
theorem chk_3 : (List.range' 60 20).all chkM = true := by decide +kernel
theorem chk_4 : (List.range' 80 20).all chkM = true := by decide +kernel
theorem chk_5 : (List.range' 100 20).all chkM = true := by decide +kernel
theorem chk_6 : (List.range' 120 20).all chkM = true := by decide +kernel
theorem chk_7 : (List.range' 140 20).all chkM = true := by decide +kernel
theorem chk_8 : (List.range' 160 20).all chkM = true := by decide +kernel
theorem chk_9 : (List.range' 180 20).all chkM = true := by decide +kernel
theorem chk_10 : (List.range' 200 20).all chkM = true := by decide +kernel
theorem chk_11 : (List.range' 220 20).all chkM = true := by decide +kernel
theorem chk_12 : (List.range' 240 20).all chkM = true := by decide +kernel
theorem chk_13 : (List.range' 260 20).all chkM = true := by decide +kernel
theorem chk_14 : (List.range' 280 20).all chkM = true := by decide +kernel
theorem chk_15 : (List.range' 300 20).all chkM = true := by decide +kernel
theorem chk_16 : (List.range' 320 20).all chkM = true := by decide +kernel
theorem chk_17 : (List.range' 340 20).all chkM = true := by decide +kernel
theorem chk_18 : (List.range' 360 20).all chkM = true := by decide +kernel
theorem chk_19 : (List.range' 380 4).all chkM = true := by decide +kernel
theorem chkM_ok {j : Nat} (h : j < 384) : chkM j = true := by
  have at' : ∀ {a n : Nat}, (List.range' a n).all chkM = true → a ≤ j → j < a + n → chkM j = true := fun hq h1 h2 => List.all_eq_true.mp hq j (List.mem_range'_1.mpr ⟨h1, h2⟩)

  by_cases h0 : j < 20
  · exact at' chk_0 (by omega) (by omega)
  by_cases h1 : j < 40
  · exact at' chk_1 (by omega) (by omega)
  by_cases h2 : j < 60
  · exact at' chk_2 (by omega) (by omega)
  by_cases h3 : j < 80
  · exact at' chk_3 (by omega) (by omega)
  by_cases h4 : j < 100
  · exact at' chk_4 (by omega) (by omega)
  by_cases h5 : j < 120
  · exact at' chk_5 (by omega) (by omega)
  by_cases h6 : j < 140
  · exact at' chk_6 (by omega) (by omega)
  by_cases h7 : j < 160
  · exact at' chk_7 (by omega) (by omega)
  by_cases h8 : j < 180
  · exact at' chk_8 (by omega) (by omega)
  by_cases h9 : j < 200
  · exact at' chk_9 (by omega) (by omega)
  by_cases h10 : j < 220
  · exact at' chk_10 (by omega) (by omega)
  by_cases h11 : j < 240
  · exact at' chk_11 (by omega) (by omega)
  by_cases h12 : j < 260
  · exact at' chk_12 (by omega) (by omega)
  by_cases h13 : j < 280
  · exact at' chk_13 (by omega) (by omega)
  by_cases h14 : j < 300
  · exact at' chk_14 (by omega) (by omega)
  by_cases h15 : j < 320
  · exact at' chk_15 (by omega) (by omega)
  by_cases h16 : j < 340
  · exact at' chk_16 (by omega) (by omega)
  by_cases h17 : j < 360
  · exact at' chk_17 (by omega) (by omega)
  by_cases h18 : j < 380
  · exact at' chk_18 (by omega) (by omega)
  exact at' chk_19 (by omega) (by omega)
theorem row_ok {j : Nat} (h : j < 384) : RowOk j ∧ headPc (MT j).1 = some 0 := by
  have hc := chkM_ok h
  unfold chkM at hc
  rw [Bool.and_eq_true, decide_eq_true_eq] at hc
  exact ⟨chkR_at hc.1, hc.2⟩
/-- what the small machine does, the machine does: all fuel, every graph -/
theorem sim_it (l : Launch) {ad : Nat → Nat → Nat} {base : Nat} (D : va_G) {H0 : Heap} (gr : Gr) {sc : (Nat → Int) × Nat} {Ls bs aS : Nat} {xs : Nat → Int32} {aK aV fm : Nat} (had : ∀ t a, t < 90 → ad t a = base + a) (ha90 : ∀ a, ad 90 a = bs) (ha91 : ∀ a, ad 91 a = aS) (ha92 : ∀ a, ad 92 a = aK) (hbs : bs < base) (hLs : Ls < 2 ^ 31) (hsc : sc = (fun j => (xs j).toInt, Ls)) (hsz : H0.size = base) (n : Nat) : SIM l ad base D H0 gr sc (XtD base bs Ls aS xs H0 (StT base aK aV fm H0)) n :=
  sim_all l ad base D H0 gr sc _ (XtD.ok StT.ok) had (fun _ h => row_ok h) (sp_all had ha90 ha91 ha92 hbs hLs hsc hsz) n
