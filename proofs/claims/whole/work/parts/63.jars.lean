/-! jars for so many years -/
section Jars
variable {M : Mem} {e : Nat} {V : Nat → Int} (d : Nat)
theorem spare_eq (n : Int) (hn : n ≤ 200) (k : Nat) (h99 : mnF (gap V false) 2000 k ≤ 1000 ∨ k = 0) : mnF (fun p => gap V false p - 1) n k = min n (mnF (gap V false) 2000 k - 1) := by
  have key : ∀ y, y < mnF (fun p => gap V false p - 1) n k ↔ y < min n (mnF (gap V false) 2000 k - 1) := by
    intro y
    have l1 := mnF_lt (f := fun p => gap V false p - 1) (x := n) (y := y) k
    have l2 := mnF_lt (f := gap V false) (x := 2000) (y := y + 1) k
    rw [l1]
    constructor
    · rintro ⟨h1, h2⟩
      have := l2.mpr ⟨by omega, fun i hi => by have := h2 i hi; omega⟩
      omega
    · intro h
      have := l2.mp (by omega)
      exact ⟨by omega, fun i hi => by have := this.2 i hi; omega⟩
  have k1 := key (mnF (fun p => gap V false p - 1) n k)
  have k2 := key (min n (mnF (gap V false) 2000 k - 1))
  omega
/-- jars needed: -1 if none can do -/
def sJar (V : Nat → Int) (n : Int) : Int := if n - max 0 (min n (gM V false - 1)) = 0 then 0 else if 0 < gM V true - 1 then (n - max 0 (min n (gM V false - 1)) + (gM V true - 1) - 1) / (gM V true - 1) else -1
theorem em_uses (h : Rl M e V) (hw : Wf V) (h0 : 0 < V 0) (n : Int) (hn : 0 ≤ n ∧ n ≤ 200) : C2 d j_em_usesNeeded [vR 1 e, vI n] M = some (some (vI (sJar V n)), M) := by
  have hc := hw.1
  unfold Wc at hc
  have h7 := h.2.1.2.2.2.2.2.2.2.1
  have b := gM_b hw h0
  rw [q_em_usesNeeded]
  have key : ∀ s, E2 d r_em_usesNeeded 4 [(0, vR 1 e), (1, vI n), (2, vI s), (3, vI (((V 0).toNat : Nat) : Int))] [] M = _ := fun s => q_em_usesNeeded_4 e n s _ d M
  refine it_loop (P := fun i s => E2 d r_em_usesNeeded 4 [(0, vR 1 e), (1, vI n), (2, vI s), (3, vI (i : Int))] [] M) (r := fun s => if n - max 0 s = 0 then some (some (vI 0), M) else if 0 < gM V true - 1 then some (some (vI ((n - max 0 s + (gM V true - 1) - 1) / (gM V true - 1))), M) else some (some (vI (-1)), M)) (f := fun p s => min s (gap V false p - 1)) (x := n) (fun _ s => s ≤ n) 0 (V 0).toNat (by omega) (Int.le_refl _) (fun i s h1 h2 hq => ⟨?_, by omega⟩) (fun s hq => ?_) |>.trans ?_
  · have hp := h.2.2.1 i (by omega)
    have hb := hw.2.2.2.2.2.2.2.1 i (by omega)
    rw [q_em_usesNeeded_4, if_pos (by omega), if_pos (by omega), if_pos (by omega), Int.toNat_natCast, hp.1, hp.2.2, w32s (x := V (9 + i) - 1) (by omega), w32s (x := V (9 + i) - 1 - V (27 + i)) (by omega), mn_I, bI_k, w32n (by omega)]
    unfold gap
    rw [cond_false, show V (9 + i) - 1 - V (27 + i) = V (9 + i) - V (27 + i) - 1 by omega]
  · rw [q_em_usesNeeded_4, if_neg (by omega), mx_I, bI_k, em_pace d h, bI_k, pace_gM hw h0, w32s (x := gM V true - 1) (by omega), w32s (x := n - max 0 s) (by omega)]
    by_cases c1 : n - max 0 s = 0
    · rw [if_pos c1, if_pos c1]
    · rw [if_neg c1, if_neg c1]
      by_cases c2 : 0 < gM V true - 1
      · rw [if_pos c2, if_pos c2, if_neg (by omega), w32s (x := n - max 0 s + (gM V true - 1)) (by omega), w32s (x := n - max 0 s + (gM V true - 1) - 1) (by omega), xdiv_of (by omega) (by omega)]
      · rw [if_neg c2, if_neg c2]
  · have es : itr (fun p s => min s (gap V false p - 1)) n (V 0).toNat = min n (gM V false - 1) := spare_eq n (by omega) _ (by unfold gM at b; omega)
    rw [es]
    unfold sJar
    by_cases c1 : n - max 0 (min n (gM V false - 1)) = 0
    · rw [if_pos c1, if_pos c1]
    · rw [if_neg c1, if_neg c1]
      by_cases c2 : 0 < gM V true - 1
      · rw [if_pos c2, if_pos c2]
      · rw [if_neg c2, if_neg c2]
theorem m_jars31 (hw : Wf (mV M)) (h0 : 0 < mV M 0) (n : Int) (hn : 0 ≤ n ∧ n ≤ 200) : E2 d r_m_jarsFor 31 [(0, vR 12 179), (1, vI n), (2, vI 0), (3, vI 0), (4, vI 0)] [] M = if sJar (mV M) n = -1 then some (some (vI (-1)), putI M 179 0 8) else some (some (vI (sJar (mV M) n)), M) := by
  have b := gM_b hw h0
  have wf0 : ∀ s : Int, 0 ≤ s → s ≤ 1000 → C2 d j_m_wouldFade [vR 12 179, vI s, vI 0] M = some (some (vI (b01 (!decide (s < gM (mV M) false)))), M) := fun s g1 g2 => m_wouldFade d hw s ⟨g1, g2⟩ false
  have wf1 : ∀ s : Int, 0 ≤ s → s ≤ 1000 → C2 d j_m_wouldFade [vR 12 179, vI s, vI 1] M = some (some (vI (b01 (!decide (s < gM (mV M) true)))), M) := fun s g1 g2 => m_wouldFade d hw s ⟨g1, g2⟩ true
  have sA : ∀ t : Nat, (t : Int) < n → (t : Int) + 1 < gM (mV M) false → E2 d r_m_jarsFor 31 [(0, vR 12 179), (1, vI n), (2, vI 0), (3, vI (t : Int)), (4, vI (t : Int))] [] M = E2 d r_m_jarsFor 31 [(0, vR 12 179), (1, vI n), (2, vI 0), (3, vI ((t + 1 : Nat) : Int)), (4, vI ((t + 1 : Nat) : Int))] [] M := by
    intro t h1 h2
    rw [q_m_jarsFor_31, if_pos h1, if_neg (by decide), w32n (by omega), wf0 _ (by omega) (by omega), bI_k, decide_eq_true (show ((t + 1 : Nat) : Int) < gM (mV M) false by omega), if_pos (show b01 (!true) = 0 from rfl)]
  by_cases c1 : n ≤ max 0 (gM (mV M) false - 1)
  · have e : sJar (mV M) n = 0 := if_pos (by omega)
    rw [e, if_neg (by decide)]
    refine up_loop (P := fun i => E2 d r_m_jarsFor 31 [(0, vR 12 179), (1, vI n), (2, vI 0), (3, vI (i : Int)), (4, vI (i : Int))] [] M) (n := n.toNat) (fun i hi => sA i (by omega) (by omega)) ?_ 0 (by omega)
    rw [q_m_jarsFor_31, if_neg (by omega)]
  · obtain ⟨s, hs⟩ : ∃ s : Nat, max 0 (gM (mV M) false - 1) = (s : Int) := ⟨(max 0 (gM (mV M) false - 1)).toNat, by omega⟩
    have toS : ∀ r, E2 d r_m_jarsFor 31 [(0, vR 12 179), (1, vI n), (2, vI 0), (3, vI (s : Int)), (4, vI (s : Int))] [] M = r → E2 d r_m_jarsFor 31 [(0, vR 12 179), (1, vI n), (2, vI 0), (3, vI 0), (4, vI 0)] [] M = r := by
      intro r hr
      exact up_loop (P := fun i => E2 d r_m_jarsFor 31 [(0, vR 12 179), (1, vI n), (2, vI 0), (3, vI (i : Int)), (4, vI (i : Int))] [] M) (n := s) (fun i hi => sA i (by omega) (by omega)) hr 0 (by omega)
    apply toS
    have atS : E2 d r_m_jarsFor 31 [(0, vR 12 179), (1, vI n), (2, vI 0), (3, vI (s : Int)), (4, vI (s : Int))] [] M = if 1 < gM (mV M) true then E2 d r_m_jarsFor 31 [(0, vR 12 179), (1, vI n), (2, vI 1), (3, vI 1), (4, vI ((s + 1 : Nat) : Int))] [] M else some (some (vI (-1)), putI M 179 0 8) := by
      rw [q_m_jarsFor_31, if_pos (by omega), if_neg (by decide), w32n (by omega), wf0 _ (by omega) (by omega), bI_k, decide_eq_false (show ¬ ((s + 1 : Nat) : Int) < gM (mV M) false by omega), if_neg (by decide), wf1 1 (by decide) (by decide), bI_k, m_refR]
      by_cases z : 1 < gM (mV M) true
      · rw [decide_eq_true z, if_pos (show b01 (!true) = 0 from rfl), if_pos z]; rfl
      · rw [decide_eq_false z, if_neg (by decide), if_neg z]
    rw [atS]
    by_cases c2 : 1 < gM (mV M) true
    · rw [if_pos c2]
      -- pace ≥ 1
      have hu : n - max 0 (min n (gM (mV M) false - 1)) = n - s := by omega
      have e : sJar (mV M) n = (n - s + (gM (mV M) true - 1) - 1) / (gM (mV M) true - 1) := by
        unfold sJar
        rw [hu, if_neg (by omega), if_pos (by omega)]
      obtain ⟨w, hw'⟩ : ∃ w : Int, gM (mV M) true - 1 = w := ⟨_, rfl⟩
      have hwb : 1 ≤ w ∧ w ≤ 98 := by omega
      rw [e, hw']
      have hge : 0 ≤ (n - s + w - 1) / w := Int.ediv_nonneg (by omega) (by omega)
      rw [if_neg (by omega)]
      refine ex_loop (P := fun i (q : Int × Int) => E2 d r_m_jarsFor 31 [(0, vR 12 179), (1, vI n), (2, vI q.1), (3, vI q.2), (4, vI ((s + 1 + i : Nat) : Int))] [] M) (R := fun r => r = some (some (vI ((n - s + w - 1) / w)), M)) (fun i q => 1 ≤ q.1 ∧ q.1 ≤ (i : Int) + 1 ∧ 1 ≤ q.2 ∧ q.2 ≤ w ∧ (i : Int) + 1 = w * (q.1 - 1) + q.2) (n - s - 1).toNat (fun i q hi hq => ?_) (fun q hq => ?_) (1, 1) ⟨by decide, by decide, by decide, hwb.1, by rw [show (1 : Int) - 1 = 0 from rfl, Int.mul_zero]; rfl⟩
      · obtain ⟨j, si⟩ := q
        obtain ⟨q1, q2, q3, q4, q5⟩ := hq
        have q1' : 1 ≤ j := q1
        have q2' : j ≤ (i : Int) + 1 := q2
        have q3' : 1 ≤ si := q3
        have q4' : si ≤ w := q4
        have q5' : (i : Int) + 1 = w * (j - 1) + si := q5
        show ∃ s', E2 d r_m_jarsFor 31 [(0, vR 12 179), (1, vI n), (2, vI j), (3, vI si), (4, vI ((s + 1 + i : Nat) : Int))] [] M = _ ∧ _
        rw [q_m_jarsFor_31, if_pos (by omega), if_pos (by omega), w32s (x := si + 1) (by omega), wf1 _ (by omega) (by omega), bI_k, w32n (by omega), wf1 1 (by decide) (by decide), bI_k, decide_eq_true c2, w32s (x := j + 1) (by omega)]
        by_cases z : si + 1 < gM (mV M) true
        · rw [decide_eq_true z, if_pos (show b01 (!true) = 0 from rfl)]
          exact ⟨(j, si + 1), rfl, q1', by show j ≤ ((i + 1 : Nat) : Int) + 1; omega, by show 1 ≤ si + 1; omega, by show si + 1 ≤ w; omega, by show ((i + 1 : Nat) : Int) + 1 = w * (j - 1) + (si + 1); omega⟩
        · rw [decide_eq_false z, if_neg (by decide), if_pos (show b01 (!true) = 0 from rfl)]
          refine ⟨(j + 1, 1), rfl, by show 1 ≤ j + 1; omega, by show j + 1 ≤ ((i + 1 : Nat) : Int) + 1; omega, by show (1 : Int) ≤ 1; omega, hwb.1, ?_⟩
          show ((i + 1 : Nat) : Int) + 1 = w * (j + 1 - 1) + 1
          have e2 : w * (j + 1 - 1) = w * (j - 1) + w := by
            rw [show j + 1 - 1 = (j - 1) + 1 by omega, Int.mul_add, Int.mul_one]
          rw [e2]; omega
      · obtain ⟨j, si⟩ := q
        obtain ⟨q1, q2, q3, q4, q5⟩ := hq
        have q1' : 1 ≤ j := q1
        have q3' : 1 ≤ si := q3
        have q4' : si ≤ w := q4
        have q5' : (((n - s - 1).toNat : Nat) : Int) + 1 = w * (j - 1) + si := q5
        show E2 d r_m_jarsFor 31 [(0, vR 12 179), (1, vI n), (2, vI j), (3, vI si), (4, vI _)] [] M = _
        rw [q_m_jarsFor_31, if_neg (by omega)]
        have e2 : n - s + w - 1 = (si - 1) + w * j := by
          have e3 : w * j = w * (j - 1) + w := by
            rw [show j = (j - 1) + 1 by omega, Int.mul_add, Int.mul_one, show (j - 1) + 1 - 1 = j - 1 by omega]
          omega
        rw [e2, Int.add_mul_ediv_left _ _ (by omega), Int.ediv_eq_zero_of_lt (by omega) (by omega), Int.zero_add]
    · rw [if_neg c2]
      have e : sJar (mV M) n = -1 := by
        unfold sJar
        rw [if_neg (by omega), if_neg (by omega)]
      rw [e, if_pos rfl]
theorem o_jarsFor (h : Inv M) (n : Int) : OpI d j_x_jarsFor j_m_jarsFor [vI n] M := by
  have h7 : M.1 11 7 = mV M 0 := h.rl.2.1.2.2.2.2.2.2.2.1
  have hc := h.wc
  unfold Wc at hc
  have hJ : ∀ (s : Int), (putI (putI (putI M 0 0 s) 179 1 0) 179 0 0).1 184 0 = mV M 0 := fun s => congrFun mV_bg 0
  by_cases c : 0 ≤ n ∧ n ≤ 200
  · by_cases c0 : mV M 0 = 0
    · refine opR h (-1) 8 ?_ ?_
      · rw [q_x_jarsFor, x_within, bI_k, if_pos c, if_neg (by decide), h7, if_pos c0, x_refR]
      · rw [q_m_jarsFor, m_isIn, bI_k, if_pos c, if_neg (by decide), hJ, if_pos c0, m_refR]
    · by_cases c1 : sJar (mV M) n = -1
      · refine opR h (-1) 8 ?_ ?_
        · rw [q_x_jarsFor, x_within, bI_k, if_pos c, if_neg (by decide), h7, if_neg c0, em_uses d h.rl h.wf (by omega) n c, bI_k, x_answerOr, bI_k, if_pos c1, c1]
        · rw [q_m_jarsFor, m_isIn, bI_k, if_pos c, if_neg (by decide), hJ, if_neg c0, m_jars31 d (wfb h 8) (by rw [mV_bg]; omega) n c, mV_bg, if_pos c1]
      · refine opA h (sJar (mV M) n) ?_ ?_
        · rw [q_x_jarsFor, x_within, bI_k, if_pos c, if_neg (by decide), h7, if_neg c0, em_uses d h.rl h.wf (by omega) n c, bI_k, x_answerOr, bI_k, if_neg c1]
        · rw [q_m_jarsFor, m_isIn, bI_k, if_pos c, if_neg (by decide), hJ, if_neg c0, m_jars31 d (wfb h 0) (by rw [mV_bg]; omega) n c, mV_bg, if_neg c1]
  · refine opR h (-1) 5 ?_ ?_
    · rw [q_x_jarsFor, x_within, bI_k, if_neg c, if_pos rfl, x_refR]
    · rw [q_m_jarsFor, m_isIn, bI_k, if_neg c, if_pos rfl, m_refR]
end Jars
