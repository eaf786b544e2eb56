/-! one year more -/
def fset (V W : Nat → Int) (i : Nat) : Int := unB (fun p => !decide (W (27 + p) < V (9 + p))) (fun p => xshl 1 (p : Int)) i
def StY (V W : Nat → Int) : Prop :=
  (∀ h : Nat, (h : Int) < V 1 → W (33 + h) = (if V (57 + h) = 0 then V (33 + h) + 1 else V (33 + h)) ∧ W (57 + h) = (if V (57 + h) = 0 ∧ ¬ V (33 + h) + 1 < V 3 then 1 else V (57 + h)) ∧ W (49 + h) = (if W (57 + h) = 0 then xand (V (49 + h)) (xxor (fset V W (V 0).toNat) (-1)) else V (49 + h))) ∧
  (∀ p : Nat, (p : Int) < V 0 → W (27 + p) = min 99 (V (27 + p) + 1)) ∧ W 7 = min 9999 (V 7 + flow V) ∧ W 6 = V 6 + 1 ∧
  (∀ k, ¬ (33 ≤ k ∧ k < 33 + (V 1).toNat) → ¬ (49 ≤ k ∧ k < 49 + (V 1).toNat) → ¬ (57 ≤ k ∧ k < 57 + (V 1).toNat) → ¬ (27 ≤ k ∧ k < 27 + (V 0).toNat) → k ≠ 7 → k ≠ 6 → W k = V k)
theorem flow_c {V W : Nat → Int} (h2 : W 2 = V 2) (h4 : W 4 = V 4) (h : ∀ s : Nat, (s : Int) < V 2 → W (65 + s) = V (65 + s) ∧ W (69 + s) = V (69 + s)) : flow W = flow V := by
  unfold flow
  rw [h2]
  apply sm_congr
  · intro i hi; rw [h4, (h i (by omega)).1]
  · intro i hi _; exact (h i (by omega)).2
theorem stpY {V : Nat → Int} {n : Int} (hw : Wf V) (hn : 0 ≤ n ∧ n ≤ 300) : StY (vY V n) (vY V (n + 1)) := by
  have hc := hw.1
  have hc' := hc
  unfold Wc at hc'
  have a0 : vY V n 0 = V 0 := vY_c (by omega)
  have a1 : vY V n 1 = V 1 := vY_c (by omega)
  have a3 : vY V n 3 = V 3 := vY_c (by omega)
  have hfl := flow_b hw
  refine ⟨?_, ?_, ?_, ?_, ?_⟩
  · intro h hh
    rw [a1] at hh
    rw [a3, a0, vY_a hc hh, vY_a hc hh, vY_s hc hh, vY_s hc hh, vY_k hc hh, vY_k hc hh]
    have hL := left_w hw hh
    have hL1 := left_p (V := V) (h := h)
    have g := hw.2.2.2.2.2.2.2.2.1 h hh
    by_cases c : V (57 + h) = 0
    · by_cases c1 : sLeft V h ≤ n
      · have c2 : sLeft V h ≤ n + 1 := by omega
        simp [c, c1, c2]
      · by_cases c2 : sLeft V h ≤ n + 1
        · have e : sLeft V h = n + 1 := by omega
          have c3 : ¬ V (33 + h) + n + 1 < V 3 := by omega
          rw [e]
          simp [c, show ¬ n + 1 ≤ n by omega, c3, Int.add_assoc]
          omega
        · have c3 : V (33 + h) + n + 1 < V 3 := by omega
          simp only [c, c1, c2, if_true, if_false, true_and, and_false]
          rw [if_neg (show ¬ ¬ V (33 + h) + n + 1 < V 3 by omega)]
          refine ⟨by omega, rfl, ?_⟩
          refine bt_ext (rI_and _ _) (rI_and _ _) fun i hi => ?_
          rw [bt_and, bt_and, bt_and, bt_not hi, bt_not hi, bt_not hi, bt_fad hc hi, bt_fad hc hi]
          unfold fset
          rw [bt_msk (by omega) hi]
          by_cases ci : (i : Int) < V 0
          · have gp := hw.2.2.2.2.2.2.2.1 i ci
            rw [vY_r hc ci, vY_9 (by omega) (by omega), w32s (x := V (27 + i) + n) (by omega), w32s (x := V (27 + i) + (n + 1)) (by omega), decide_eq_true ci, decide_eq_true (show i < (V 0).toNat by omega), decide_eq_true (show 0 < n + 1 by omega)]
            by_cases z1 : V (27 + i) + (n + 1) < V (9 + i)
            · rw [decide_eq_true z1, decide_eq_true (show V (27 + i) + n < V (9 + i) by omega), decide_eq_true (show min 99 (V (27 + i) + (n + 1)) < V (9 + i) by omega)]
              cases bt (V (49 + h)) i <;> simp
            · rw [decide_eq_false z1, decide_eq_false (show ¬ min 99 (V (27 + i) + (n + 1)) < V (9 + i) by omega)]
              cases bt (V (49 + h)) i <;> simp
          · rw [decide_eq_false ci, decide_eq_false (show ¬ i < (V 0).toNat by omega)]
            cases bt (V (49 + h)) i <;> simp
    · simp [c]
  · intro p hp
    rw [a0] at hp
    rw [vY_r hc hp, vY_r hc hp]
    omega
  · rw [vY_7, vY_7, flow_c (vY_c (by omega)) (vY_c (by omega)) (fun s _ => ⟨vY_l hc (by omega), vY_l hc (by omega)⟩), Int.add_mul, Int.one_mul]
    omega
  · rw [vY_6, vY_6]; omega
  · intro k h1 h2 h3 h4 h5 h6
    rw [a1] at h1 h2 h3
    rw [a0] at h4
    rw [vY_o h1 h2 h3 h4 h5 h6, vY_o h1 h2 h3 h4 h5 h6]
/-- who dies within so many years; in the next one -/
def sDie (V : Nat → Int) (n : Int) : Int := unB (fun h => decide (V (57 + h) = 0) && decide (sLeft V h ≤ n)) (fun h => xshl 1 (h : Int)) (V 1).toNat
def sDi1 (V : Nat → Int) : Int := unB (fun h => decide (V (57 + h) = 0) && !decide (V (33 + h) + 1 < V 3)) (fun h => xshl 1 (h : Int)) (V 1).toNat
theorem die_0 {V : Nat → Int} : sDie V 0 = 0 := un_none fun i _ => by
  have := left_p (V := V) (h := i)
  rw [decide_eq_false (show ¬ sLeft V i ≤ 0 by omega), Bool.and_false]
theorem die_s {V : Nat → Int} {n : Int} (hw : Wf V) (hn : 0 ≤ n ∧ n ≤ 300) : xor32 (sDie V n) (sDi1 (vY V n)) = sDie V (n + 1) := by
  have hc := hw.1
  have hc' := hc
  unfold Wc at hc'
  have a1 : vY V n 1 = V 1 := vY_c (by omega)
  have a3 : vY V n 3 = V 3 := vY_c (by omega)
  refine bt_ext (rI_or _ _) rI_un fun i hi => ?_
  unfold sDie sDi1
  rw [bt_or, bt_msk (by omega) hi, bt_msk (by rw [a1]; omega) hi, bt_msk (by omega) hi, a1]
  by_cases ci : i < (V 1).toNat
  · have hh : (i : Int) < V 1 := by omega
    have hL := left_w hw hh
    rw [decide_eq_true ci, a3, vY_a hc hh, vY_s hc hh]
    by_cases c : V (57 + i) = 0
    · by_cases c1 : sLeft V i ≤ n
      · simp [c, c1, show sLeft V i ≤ n + 1 by omega]
      · by_cases c2 : sLeft V i ≤ n + 1
        · simp [c, c1, c2, show ¬ V (33 + i) + n + 1 < V 3 by omega]
        · simp [c, c1, c2, show V (33 + i) + n + 1 < V 3 by omega]
    · simp [c]
  · rw [decide_eq_false ci]; rfl
theorem die_b {V : Nat → Int} (hc : Wc V) (n : Int) : 0 ≤ sDie V n ∧ sDie V n < 256 := by
  unfold Wc at hc
  exact msk_b (by omega)
/-- what is known then -/
theorem nowY {V : Nat → Int} {n : Int} (hw : Wf V) (hn : 0 ≤ n) : sNow (vY V n) = sAft V n := by
  have hc := hw.1
  have hc' := hc
  unfold Wc at hc'
  have a0 : vY V n 0 = V 0 := vY_c (by omega)
  have a1 : vY V n 1 = V 1 := vY_c (by omega)
  have ew : sWr (vY V n) = sWr V := sWr_c a0 (fun p _ => vY_9 (by omega) (by omega))
  unfold sNow sAft
  rw [ew]
  congr 1
  refine bt_ext rI_un (rI_and _ _) fun i hi => ?_
  rw [bt_and, bt_not hi]
  have key : bt (sTo (vY V n) (sLiv (vY V n))) i = true ↔ (bt (sKA V n) i && !bt (sFad V n) i) = true := by
    rw [Bool.and_eq_true, Bool.not_eq_true']
    unfold sTo sKA
    rw [bt_un, bt_un, a1]
    constructor
    · rintro ⟨h, h1, h2, h3⟩
      unfold sLiv at h2
      rw [bt_msk (by rw [a1]; omega) (by omega), a1, Bool.and_eq_true, decide_eq_true_eq, decide_eq_true_eq, vY_s hc (by omega)] at h2
      have hl : V (57 + h) = 0 ∧ ¬ sLeft V h ≤ n := by
        by_cases z : V (57 + h) = 0 ∧ sLeft V h ≤ n
        · rw [if_pos z] at h2; omega
        · rw [if_neg z] at h2; omega
      rw [vY_k hc (by omega), if_pos hl.1, if_neg hl.2, bt_and, bt_not hi, Bool.and_eq_true, Bool.not_eq_true'] at h3
      exact ⟨⟨h, h1, by rw [Bool.and_eq_true, decide_eq_true_eq, decide_eq_true_eq]; omega, h3.1⟩, h3.2⟩
    · rintro ⟨⟨h, h1, h2, h3⟩, h4⟩
      rw [Bool.and_eq_true, decide_eq_true_eq, decide_eq_true_eq] at h2
      refine ⟨h, h1, ?_, ?_⟩
      · unfold sLiv
        rw [bt_msk (by rw [a1]; omega) (by omega), a1, Bool.and_eq_true, decide_eq_true_eq, decide_eq_true_eq, vY_s hc (by omega), if_neg (by omega)]
        exact ⟨h1, h2.1⟩
      · rw [vY_k hc (by omega), if_pos h2.1, if_neg (by omega), bt_and, bt_not hi, Bool.and_eq_true, Bool.not_eq_true']
        exact ⟨h3, h4⟩
  cases hx : bt (sTo (vY V n) (sLiv (vY V n))) i
  · cases hy : (bt (sKA V n) i && !bt (sFad V n) i)
    · rfl
    · rw [key.mpr hy] at hx; cases hx
  · rw [key.mp hx]
