/-! for how long the craft is whole; how many jars -/
section Ahd2
variable {M : Mem} {e : Nat} {V : Nat → Int} (d : Nat)
def sWh (V : Nat → Int) (n : Int) : Bool := decide (0 < V 0) && decide (sAft V n = sAP V)
theorem em_wholeA (h : Rl M e V) (n : Int) : C2 d j_em_isWholeAfter [vR 1 e, vI n] M = some (some (vI (b01 (sWh V n))), M) := by
  rw [q_em_isWholeAfter, em_knownAfter d h, bI_k, em_allParts d h, bI_k, h.2.1.2.2.2.2.2.2.2.1]
  unfold sWh b01
  by_cases c : 0 < V 0
  · by_cases c2 : sAft V n = sAP V
    · simp [c, c2]
    · simp [c, c2]
  · simp [c]
theorem wholeY {n : Int} (hw : Wf V) (hn : 0 ≤ n) : sWhole (vY V n) = sWh V n := by
  unfold sWhole sWh
  rw [nowY hw hn, vY_c (by omega)]
  unfold sAP
  rw [vY_c (by omega)]
theorem o_wholeFor (h : Inv M) : OpI d j_x_wholeFor j_m_wholeFor [] M := by
  have xs : ∀ i : Nat, i < 201 → sWh (mV M) i = true → E2 d r_x_wholeFor 2 [(0, vR 11 0), (1, vI (i : Int))] [] M = E2 d r_x_wholeFor 2 [(0, vR 11 0), (1, vI ((i + 1 : Nat) : Int))] [] M := by
    intro i hi hb
    rw [q_x_wholeFor_2, if_neg (by omega), em_wholeA d h.rl, bI_k, hb, if_neg (by decide), w32n (by omega)]
  have ms : ∀ (s : Int) (i : Nat), i < 201 → sWh (mV M) i = true → E2 d r_m_wholeFor 12 [(0, vR 12 179), (1, vI (-1)), (2, vI (i : Int))] [] (setC (nK (putI (putI (putI M 0 0 s) 179 1 0) 179 0 0)) (vY (mV (putI (putI (putI M 0 0 s) 179 1 0) 179 0 0)) i)) = E2 d r_m_wholeFor 12 [(0, vR 12 179), (1, vI (-1)), (2, vI ((i + 1 : Nat) : Int))] [] (setC (nK (putI (putI (putI M 0 0 s) 179 1 0) 179 0 0)) (vY (mV (putI (putI (putI M 0 0 s) 179 1 0) 179 0 0)) ((i + 1 : Nat) : Int))) := by
    intro s i hi hb
    have hw := wfb h s
    rw [q_m_wholeFor_12, if_neg (by omega), if_pos (by decide), m_isWhole d (by rw [mV_set]; exact wcY hw _), bI_k, mV_set, wholeY hw (by omega), mV_bg, hb, if_neg (by decide)]
    have e := m_yr d hw i (by omega)
    rw [mV_bg] at e
    rw [e, bI_k, w32n (by omega)]
  rcases least (fun i => sWh (mV M) i) 201 with hall | ⟨t, ht, hf, hb⟩
  · refine opRK h (-1) 8 ?_ ?_
    · rw [q_x_wholeFor]
      refine up_loop (P := fun i => E2 d r_x_wholeFor 2 [(0, vR 11 0), (1, vI (i : Int))] [] M) (n := 201) (fun i hi => xs i hi (hall i hi)) ?_ 0 (by omega)
      rw [q_x_wholeFor_2, if_pos (by decide), x_refR]
    · have hw := wfb h 8
      rw [q_m_wholeFor, m_keeps, bV_k]
      conv => lhs; rw [m_st0 hw]
      refine up_loop (P := fun i => E2 d r_m_wholeFor 12 [(0, vR 12 179), (1, vI (-1)), (2, vI (i : Int))] [] (setC (nK (putI (putI (putI M 0 0 8) 179 1 0) 179 0 0)) (vY (mV (putI (putI (putI M 0 0 8) 179 1 0) 179 0 0)) i))) (n := 201) (fun i hi => ms 8 i hi (hall i hi)) ?_ 0 (by omega)
      rw [q_m_wholeFor_12, if_pos (by decide), retY d hw, bV_k, if_pos (by decide), m_refR]
  · refine opAK h (t : Int) ?_ ?_
    · rw [q_x_wholeFor]
      refine up_loop (P := fun i => E2 d r_x_wholeFor 2 [(0, vR 11 0), (1, vI (i : Int))] [] M) (n := t) (fun i hi => xs i (by omega) (hb i hi)) ?_ 0 (by omega)
      rw [q_x_wholeFor_2, if_neg (by omega), em_wholeA d h.rl, bI_k, show sWh (mV M) t = false from hf, if_pos b01_f, x_ansR]
    · have hw := wfb h 0
      rw [q_m_wholeFor, m_keeps, bV_k]
      conv => lhs; rw [m_st0 hw]
      refine up_loop (P := fun i => E2 d r_m_wholeFor 12 [(0, vR 12 179), (1, vI (-1)), (2, vI (i : Int))] [] (setC (nK (putI (putI (putI M 0 0 0) 179 1 0) 179 0 0)) (vY (mV (putI (putI (putI M 0 0 0) 179 1 0) 179 0 0)) i))) (n := t) (fun i hi => ms 0 i (by omega) (hb i hi)) ?_ 0 (by omega)
      rw [q_m_wholeFor_12, if_neg (by omega), if_pos (by decide), m_isWhole d (by rw [mV_set]; exact wcY hw _), bI_k, mV_set, wholeY hw (by omega)]
      have e := m_yr d hw t (by omega)
      rw [e, bI_k, mV_bg, show sWh (mV M) t = false from hf, if_pos b01_f, w32n (by omega), q_m_wholeFor_12]
      have r := retY d hw ((t + 1 : Nat) : Int)
      rw [mV_bg] at r
      rw [r, bV_k]
      by_cases z : (200 : Int) < ((t + 1 : Nat) : Int)
      · rw [if_pos z, if_neg (by omega)]
      · rw [if_neg z, if_neg (by omega), if_neg (by omega)]
/-- the least of some numbers -/
def mnF (f : Nat → Int) (x : Int) : Nat → Int := itr (fun p s => min s (f p)) x
theorem mnF_lt {f : Nat → Int} {x y : Int} : ∀ n, (y < mnF f x n ↔ y < x ∧ ∀ i, i < n → y < f i)
  | 0 => ⟨fun h => ⟨h, fun i hi => absurd hi (by omega)⟩, fun h => h.1⟩
  | n + 1 => by
    have ih := mnF_lt (f := f) (x := x) (y := y) n
    have e : mnF f x (n + 1) = min (mnF f x n) (f n) := rfl
    rw [e]
    constructor
    · intro h
      have h1 := ih.mp (by omega)
      refine ⟨h1.1, fun i hi => ?_⟩
      by_cases c : i = n
      · subst c; omega
      · exact h1.2 i (by omega)
    · rintro ⟨h1, h2⟩
      have h3 := ih.mpr ⟨h1, fun i hi => h2 i (by omega)⟩
      have h4 := h2 n (by omega)
      omega
theorem mnF_c {f g : Nat → Int} {x : Int} {n : Nat} (h : ∀ i, i < n → f i = g i) : mnF f x n = mnF g x n := itr_congr n fun i y hi => by rw [h i hi]
/-- a sum, and what was the least before -/
theorem mnF_sub {f : Nat → Int} {x c : Int} : ∀ n, mnF (fun p => f p - c) (x - c) n = mnF f x n - c
  | 0 => rfl
  | n + 1 => by
    have e1 : mnF (fun p => f p - c) (x - c) (n + 1) = min (mnF (fun p => f p - c) (x - c) n) (f n - c) := rfl
    have e2 : mnF f x (n + 1) = min (mnF f x n) (f n) := rfl
    rw [e1, e2, mnF_sub n]
    omega
def gap (V : Nat → Int) (w : Bool) (p : Nat) : Int := V (9 + p) - (bif w then 0 else V (27 + p))
theorem m_wouldFade (hw : Wf (mV M)) (more : Int) (hm : 0 ≤ more ∧ more ≤ 1000) (w : Bool) : C2 d j_m_wouldFade [vR 12 179, vI more, vI (b01 w)] M = some (some (vI (b01 (!decide (more < mnF (gap (mV M) w) 2000 (mV M 0).toNat)))), M) := by
  have hc := hw.1
  unfold Wc at hc
  have h7 : M.1 184 0 = mV M 0 := rfl
  have st : ∀ i : Nat, (i : Int) < mV M 0 → E2 d r_m_wouldFade 2 [(0, vR 12 179), (1, vI more), (2, vI (b01 w)), (3, vI (i : Int))] [] M = if more < gap (mV M) w i then E2 d r_m_wouldFade 2 [(0, vR 12 179), (1, vI more), (2, vI (b01 w)), (3, vI ((i + 1 : Nat) : Int))] [] M else some (some (vI 1), M) := by
    intro i hi
    have hp := hw.2.2.2.2.2.2.2.1 i hi
    rw [q_m_wouldFade_2, if_pos (by omega), w32s (x := 27 + (i : Int)) (by omega), w32s (x := 9 + (i : Int)) (by omega), if_pos (show (0 : Int) ≤ 27 + i ∧ 27 + (i : Int) < 1725 by omega), if_pos (show (0 : Int) ≤ 9 + i ∧ 9 + (i : Int) < 1725 by omega), show (27 + (i : Int)).toNat = 27 + i by omega, show (9 + (i : Int)).toNat = 9 + i by omega, w32n (by omega), show M.1 184 (27 + i) = mV M (27 + i) from rfl, show M.1 184 (9 + i) = mV M (9 + i) from rfl, w32s (x := mV M (27 + i) + more) (by omega), w32s (x := 0 + more) (by omega), if_pos (show (0 : Int) ≤ 9 + i ∧ 9 + (i : Int) < 1725 by omega)]
    unfold gap
    cases w
    · rw [if_pos b01_f, cond_false]
      by_cases z : mV M (27 + i) + more < mV M (9 + i)
      · rw [if_pos z, if_pos (by omega)]
      · rw [if_neg z, if_neg (by omega)]
    · rw [if_neg (by decide), cond_true]
      by_cases z : 0 + more < mV M (9 + i)
      · rw [if_pos z, if_pos (by omega)]
      · rw [if_neg z, if_neg (by omega)]
  rw [q_m_wouldFade]
  have hl := mnF_lt (f := gap (mV M) w) (x := 2000) (y := more) (mV M 0).toNat
  rcases least (fun i => decide (more < gap (mV M) w i)) (mV M 0).toNat with hall | ⟨t, ht, hf, hb⟩
  · have hlt : more < mnF (gap (mV M) w) 2000 (mV M 0).toNat := hl.mpr ⟨by omega, fun i hi => of_decide_eq_true (hall i hi)⟩
    rw [decide_eq_true hlt]
    refine up_loop (P := fun i => E2 d r_m_wouldFade 2 [(0, vR 12 179), (1, vI more), (2, vI (b01 w)), (3, vI (i : Int))] [] M) (n := (mV M 0).toNat) (fun i hi => ?_) ?_ 0 (by omega)
    · rw [st i (by omega), if_pos (of_decide_eq_true (hall i hi))]
    · rw [q_m_wouldFade_2, if_neg (by omega)]; rfl
  · have hlt : ¬ more < mnF (gap (mV M) w) 2000 (mV M 0).toNat := fun q => of_decide_eq_false hf ((hl.mp q).2 t ht)
    rw [decide_eq_false hlt]
    refine up_loop (P := fun i => E2 d r_m_wouldFade 2 [(0, vR 12 179), (1, vI more), (2, vI (b01 w)), (3, vI (i : Int))] [] M) (n := t) (fun i hi => ?_) ?_ 0 (by omega)
    · rw [st i (by omega), if_pos (of_decide_eq_true (hb i hi))]
    · rw [st t (by omega), if_neg (of_decide_eq_false hf)]; rfl
/-- m0: when a part fades that is not used; m1: when one fades that was used just now -/
def gM (V : Nat → Int) (w : Bool) : Int := mnF (gap V w) 2000 (V 0).toNat
theorem gM_b (hw : Wf V) (h0 : 0 < V 0) : (-99 ≤ gM V false ∧ gM V false ≤ 99) ∧ (1 ≤ gM V true ∧ gM V true ≤ 99) := by
  have l1 := mnF_lt (f := gap V false) (x := 2000) (y := -100) (V 0).toNat
  have l2 := mnF_lt (f := gap V true) (x := 2000) (y := 0) (V 0).toNat
  have l3 := mnF_lt (f := gap V false) (x := 2000) (y := 99) (V 0).toNat
  have l4 := mnF_lt (f := gap V true) (x := 2000) (y := 99) (V 0).toNat
  have p0 := hw.2.2.2.2.2.2.2.1 0 (by omega)
  have u1 := l1.mpr ⟨by omega, fun i hi => by
    have := hw.2.2.2.2.2.2.2.1 i (by omega)
    unfold gap; rw [cond_false]; omega⟩
  have u2 := l2.mpr ⟨by omega, fun i hi => by
    have := hw.2.2.2.2.2.2.2.1 i (by omega)
    unfold gap; rw [cond_true]; omega⟩
  have u3 : ¬ 99 < mnF (gap V false) 2000 (V 0).toNat := fun q => by
    have := (l3.mp q).2 0 (by omega)
    unfold gap at this; rw [cond_false] at this; omega
  have u4 : ¬ 99 < mnF (gap V true) 2000 (V 0).toNat := fun q => by
    have := (l4.mp q).2 0 (by omega)
    unfold gap at this; rw [cond_true] at this; omega
  unfold gM
  omega
theorem pace_gM (hw : Wf V) (h0 : 0 < V 0) : itr (fPc V) 99 (V 0).toNat = gM V true := by
  have b := gM_b hw h0
  have key : ∀ y, y < itr (fPc V) 99 (V 0).toNat ↔ y < gM V true := by
    intro y
    have l1 := mnF_lt (f := fun p => V (9 + p)) (x := 99) (y := y) (V 0).toNat
    have l2 := mnF_lt (f := gap V true) (x := 2000) (y := y) (V 0).toNat
    have p0 := hw.2.2.2.2.2.2.2.1 0 (by omega)
    have e : itr (fPc V) 99 (V 0).toNat = mnF (fun p => V (9 + p)) 99 (V 0).toNat := rfl
    rw [e, l1]
    unfold gM
    rw [l2]
    constructor
    · rintro ⟨h1, h2⟩
      refine ⟨by omega, fun i hi => ?_⟩
      have := h2 i hi
      unfold gap; rw [cond_true]; omega
    · rintro ⟨h1, h2⟩
      have h3 := h2 0 (by omega)
      unfold gap at h3; rw [cond_true] at h3
      refine ⟨by omega, fun i hi => ?_⟩
      have := h2 i hi
      unfold gap at this; rw [cond_true] at this; omega
  have k1 := key (gM V true)
  have k2 := key (gM V true - 1)
  omega
theorem xdiv_of {x y : Int} (hx : 0 ≤ x ∧ x < 2147483648) (hy : 0 < y ∧ y < 2147483648) : xdiv x y = x / y := by
  unfold xdiv
  rw [Int32.toInt_div, toI' (by unfold rI; omega), toI' (by unfold rI; omega), Int.tdiv_eq_ediv_of_nonneg hx.1, w32_bmod]
  have h1 : 0 ≤ x / y := Int.ediv_nonneg hx.1 (by omega)
  have h2 : x / y ≤ x := Int.ediv_le_self y hx.1
  exact w32s (by omega)
end Ahd2
