/-! the safest lesson: both sides -/
section Lsn2
variable {M : Mem} {V : Nat → Int} (d : Nat)
theorem gd_nn {k : Int} {h p : Nat} : (cnd V h p && decide (thn V < nnL V k h p)) = gd V k h p := by
  have b1 := thn_b (V := V)
  unfold gd nnL
  cases sSold (vL1 V h p) k
  · rw [cond_false, Bool.not_false, Bool.and_true]
  · rw [cond_true, Bool.not_true, Bool.and_false, decide_eq_false (by omega)]
theorem nn_le (hw : Wf V) {k : Int} {h p : Nat} (hh : (h : Int) < V 1) (hp : (p : Int) < V 0) : nnL V k h p ≤ thn V + 1 := by
  have hc := hw.1
  unfold Wc at hc
  have b1 := thn_b (V := V)
  have := thn_mono (V := V) (W := vL1 V h p) (up1_n (by omega)) (fun q _ => up1_n (by omega)) (fun q _ => who_1 hw.1 (by omega) q)
  unfold nnL
  cases sSold (vL1 V h p) k
  · rw [cond_false]; exact this
  · rw [cond_true]; omega
theorem m_rest (hw : Wf (mV M)) (k b mo : Int) (h p : Nat) (hh : (h : Int) < mV M 1) (hp : (p : Int) ≤ mV M 0) (ha : mV M (57 + h) = 0) (hg : ∀ q : Nat, p ≤ q → (q : Int) < mV M 0 → (cnd (mV M) h q && decide (mo < nnL (mV M) k h q)) = false) : E2 d r_m_lesson 34 [(0, vR 12 179), (1, vI k), (2, vI b), (3, vI mo), (4, vI (sNow (mV M))), (5, vI (h : Int)), (6, vI (p : Int))] [] M = E2 d r_m_lesson 26 [(0, vR 12 179), (1, vI k), (2, vI b), (3, vI mo), (4, vI (sNow (mV M))), (5, vI ((h + 1 : Nat) : Int))] [] M := by
  have hc := hw.1
  unfold Wc at hc
  have h7 : M.1 184 0 = mV M 0 := rfl
  refine (show _ = _ from ?_)
  have key : ∀ m q : Nat, q + m = (mV M 0).toNat → p ≤ q → E2 d r_m_lesson 34 [(0, vR 12 179), (1, vI k), (2, vI b), (3, vI mo), (4, vI (sNow (mV M))), (5, vI (h : Int)), (6, vI (q : Int))] [] M = E2 d r_m_lesson 26 [(0, vR 12 179), (1, vI k), (2, vI b), (3, vI mo), (4, vI (sNow (mV M))), (5, vI ((h + 1 : Nat) : Int))] [] M := by
    intro m
    induction m with
    | zero =>
      intro q hq hpq
      rw [q_m_lesson_34, if_neg (by omega), w32n (by omega)]
    | succ m ih =>
      intro q hq hpq
      rw [m_row d hw k b mo h q hh (by omega), decide_eq_true ha, cond_true, hg q hpq (by omega), cond_false]
      exact ih (q + 1) (by omega) (by omega)
  exact key ((mV M 0).toNat - p) p (by omega) (by omega)
theorem m_skip (hw : Wf (mV M)) (k b mo : Int) (h : Nat) (hh : (h : Int) < mV M 1) (hg : ∀ q : Nat, (q : Int) < mV M 0 → (cnd (mV M) h q && decide (mo < nnL (mV M) k h q)) = false) : E2 d r_m_lesson 26 [(0, vR 12 179), (1, vI k), (2, vI b), (3, vI mo), (4, vI (sNow (mV M))), (5, vI (h : Int))] [] M = E2 d r_m_lesson 26 [(0, vR 12 179), (1, vI k), (2, vI b), (3, vI mo), (4, vI (sNow (mV M))), (5, vI ((h + 1 : Nat) : Int))] [] M := by
  have hc := hw.1
  unfold Wc at hc
  have h7 : M.1 184 0 = mV M 0 := rfl
  have h8 : M.1 184 1 = mV M 1 := rfl
  rw [q_m_lesson_26, if_pos (by omega)]
  by_cases ha : mV M (57 + h) = 0
  · exact m_rest d hw k b mo h 0 hh (by omega) ha (fun q _ hq => hg q hq)
  · by_cases z : 0 < mV M 0
    · have := m_row d hw k b mo h 0 hh (by omega)
      rw [decide_eq_false ha, cond_false] at this
      exact this
    · rw [q_m_lesson_34, if_neg (by omega), w32n (by omega)]
theorem o_lesson (h : Inv M) (k : Int) : OpI d j_x_lesson j_m_lesson [vI k] M := by
  have hc := h.wc
  unfold Wc at hc
  have hw := h.wf
  by_cases c : 0 ≤ k ∧ k ≤ 8
  · have hx0 : C2 d j_x_lesson [vR 11 0, vI k] M = bI (E2 d r_em_bestLesson 9 [(0, vR 1 11), (1, vI k), (2, vI (sLiv (mV M))), (3, vI (sNow (mV M))), (4, vI 0)] [] M) fun x6 M5 => bI (C2 d j_x_answerOrNothing [vR 11 0, vI x6] M5) fun x8 M7 => some (some (vI x8), M7) := by
      rw [q_x_lesson, x_within, bI_k, if_pos c, if_neg (by decide), em_lesson d h.rl hw]
    have hm0 : ∀ s, C2 d j_m_lesson [vR 12 179, vI k] (putI M 0 0 s) = E2 d r_m_lesson 26 [(0, vR 12 179), (1, vI k), (2, vI (-1)), (3, vI (thn (mV M))), (4, vI (sNow (mV M))), (5, vI 0)] [] (putI (putI (putI M 0 0 s) 179 1 0) 179 0 0) := by
      intro s
      rw [q_m_lesson, m_isIn, bI_k, if_pos c, if_neg (by decide), m_thin d (h.wb s), bI_k, m_knownNow d (h.wb s), bI_k, mV_bg]
    rcases least (fun a => @decide (∀ p : Nat, (p : Int) < mV M 0 → gd (mV M) k a p = false) (Classical.propDecidable _)) (mV M 1).toNat with hall | ⟨t, ht, hf, hb⟩
    · refine opR h (-1) 8 ?_ ?_
      · rw [hx0, show E2 d r_em_bestLesson 9 [(0, vR 1 11), (1, vI k), (2, vI (sLiv (mV M))), (3, vI (sNow (mV M))), (4, vI 0)] [] M = some (some (vI (-1)), M) from ?_, bI_k, x_answerOr, bI_k, if_pos rfl]
        refine up_loop (P := fun i => E2 d r_em_bestLesson 9 [(0, vR 1 11), (1, vI k), (2, vI (sLiv (mV M))), (3, vI (sNow (mV M))), (4, vI (i : Int))] [] M) (n := (mV M 1).toNat) (fun i hi => em_skip d h.rl hw k i (by omega) (@of_decide_eq_true _ (Classical.propDecidable _) (hall i hi))) ?_ 0 (by omega)
        rw [q_em_bestLesson_9, h.rl.2.1.2.2.2.2.2.2.2.2.1, if_neg (by omega)]
      · rw [hm0]
        have hw8 := wfb h 8
        have ev := mV_bg (M := M) (s := 8)
        refine up_loop (P := fun i => E2 d r_m_lesson 26 [(0, vR 12 179), (1, vI k), (2, vI (-1)), (3, vI (thn (mV M))), (4, vI (sNow (mV M))), (5, vI (i : Int))] [] (putI (putI (putI M 0 0 8) 179 1 0) 179 0 0)) (n := (mV M 1).toNat) (fun i hi => ?_) ?_ 0 (by omega)
        · have := m_skip d hw8 k (-1) (thn (mV M)) i (by rw [ev]; omega) (fun q hq => by
            rw [ev] at hq ⊢
            rw [gd_nn]
            exact @of_decide_eq_true _ (Classical.propDecidable _) (hall i hi) q hq)
          rw [ev] at this
          exact this
        · rw [q_m_lesson_26, show (putI (putI (putI M 0 0 8) 179 1 0) 179 0 0).1 184 1 = mV M 1 from congrFun ev 1, if_neg (by omega), if_pos (by decide), m_refR]
    · have hnot := @of_decide_eq_false _ (Classical.propDecidable _) hf
      rcases least (fun p => !gd (mV M) k t p) (mV M 0).toNat with ha | ⟨p, hp, hpf, hpb⟩
      · exfalso
        apply hnot
        intro p hp
        have := ha p (by omega)
        revert this
        cases gd (mV M) k t p <;> simp
      · have hy : gd (mV M) k t p = true := by
          revert hpf
          cases gd (mV M) k t p <;> simp
        have hq : ∀ q, q < p → gd (mV M) k t q = false := by
          intro q hq
          have := hpb q hq
          revert this
          cases gd (mV M) k t q <;> simp
        have hlive : mV M (57 + t) = 0 := by
          unfold gd cnd at hy
          rw [Bool.and_eq_true, Bool.and_eq_true, decide_eq_true_eq] at hy
          exact hy.1.1
        refine opA h (10 * (t : Int) + p) ?_ ?_
        · rw [hx0, show E2 d r_em_bestLesson 9 [(0, vR 1 11), (1, vI k), (2, vI (sLiv (mV M))), (3, vI (sNow (mV M))), (4, vI 0)] [] M = some (some (vI (10 * (t : Int) + p)), M) from ?_, bI_k, x_answerOr, bI_k, if_neg (by omega)]
          refine up_loop (P := fun i => E2 d r_em_bestLesson 9 [(0, vR 1 11), (1, vI k), (2, vI (sLiv (mV M))), (3, vI (sNow (mV M))), (4, vI (i : Int))] [] M) (n := t) (fun i hi => em_skip d h.rl hw k i (by omega) (@of_decide_eq_true _ (Classical.propDecidable _) (hb i hi))) ?_ 0 (by omega)
          exact em_hit d h.rl hw k t p (by omega) (by omega) hq hy
        · rw [hm0]
          have hw0 := wfb h 0
          have ev := mV_bg (M := M) (s := 0)
          have hh : ((t : Nat) : Int) < mV M 1 := by omega
          have hnn : nnL (mV M) k t p = thn (mV M) + 1 := by
            have h1 := nn_le hw (k := k) hh (p := p) (by omega)
            have h2 : (cnd (mV M) t p && decide (thn (mV M) < nnL (mV M) k t p)) = true := by rw [gd_nn]; exact hy
            rw [Bool.and_eq_true, decide_eq_true_eq] at h2
            omega
          have late : ∀ a q : Nat, (a : Int) < mV M 1 → (q : Int) < mV M 0 → (cnd (mV M) a q && decide (nnL (mV M) k t p < nnL (mV M) k a q)) = false := by
            intro a q g1 g2
            have := nn_le hw (k := k) g1 g2
            rw [decide_eq_false (by omega), Bool.and_false]
          refine up_loop (P := fun i => E2 d r_m_lesson 26 [(0, vR 12 179), (1, vI k), (2, vI (-1)), (3, vI (thn (mV M))), (4, vI (sNow (mV M))), (5, vI (i : Int))] [] (putI (putI (putI M 0 0 0) 179 1 0) 179 0 0)) (n := t) (fun i hi => ?_) ?_ 0 (by omega)
          · have := m_skip d hw0 k (-1) (thn (mV M)) i (by rw [ev]; omega) (fun q hq => by
              rw [ev] at hq ⊢
              rw [gd_nn]
              exact @of_decide_eq_true _ (Classical.propDecidable _) (hb i hi) q hq)
            rw [ev] at this
            exact this
          · rw [q_m_lesson_26, show (putI (putI (putI M 0 0 0) 179 1 0) 179 0 0).1 184 1 = mV M 1 from congrFun ev 1, if_pos (by omega)]
            refine up_loop (P := fun i => E2 d r_m_lesson 34 [(0, vR 12 179), (1, vI k), (2, vI (-1)), (3, vI (thn (mV M))), (4, vI (sNow (mV M))), (5, vI (t : Int)), (6, vI (i : Int))] [] (putI (putI (putI M 0 0 0) 179 1 0) 179 0 0)) (n := p) (fun i hi => ?_) ?_ 0 (by omega)
            · have := m_row d hw0 k (-1) (thn (mV M)) t i (by rw [ev]; omega) (by rw [ev]; omega)
              rw [ev, decide_eq_true hlive, cond_true, gd_nn, hq i hi, cond_false] at this
              exact this
            · have := m_row d hw0 k (-1) (thn (mV M)) t p (by rw [ev]; omega) (by rw [ev]; omega)
              rw [ev, decide_eq_true hlive, cond_true, gd_nn, hy, cond_true] at this
              rw [this]
              have r := m_rest d hw0 k (10 * (t : Int) + p) (nnL (mV M) k t p) t (p + 1) (by rw [ev]; omega) (by rw [ev]; omega) (by rw [ev]; exact hlive) (fun q _ hq => by rw [ev] at hq ⊢; exact late t q hh hq)
              rw [ev] at r
              rw [r]
              have fin : ∀ m i : Nat, i + m = (mV M 1).toNat → E2 d r_m_lesson 26 [(0, vR 12 179), (1, vI k), (2, vI (10 * (t : Int) + p)), (3, vI (nnL (mV M) k t p)), (4, vI (sNow (mV M))), (5, vI (i : Int))] [] (putI (putI (putI M 0 0 0) 179 1 0) 179 0 0) = some (some (vI (10 * (t : Int) + p)), putI (putI (putI M 0 0 0) 179 1 0) 179 0 0) := by
                intro m
                induction m with
                | zero =>
                  intro i hi
                  rw [q_m_lesson_26, show (putI (putI (putI M 0 0 0) 179 1 0) 179 0 0).1 184 1 = mV M 1 from congrFun ev 1, if_neg (by omega), if_neg (by omega)]
                | succ m ih =>
                  intro i hi
                  have := m_skip d hw0 k (10 * (t : Int) + p) (nnL (mV M) k t p) i (by rw [ev]; omega) (fun q hq => by
                    rw [ev] at hq ⊢
                    exact late i q (by omega) hq)
                  rw [ev] at this
                  rw [this]
                  exact ih (i + 1) (by omega)
              exact fin ((mV M 1).toNat - (t + 1)) (t + 1) (by omega)
  · refine opR h (-1) 5 ?_ ?_
    · rw [q_x_lesson, x_within, bI_k, if_neg c, if_pos rfl, x_refR]
    · rw [q_m_lesson, m_isIn, bI_k, if_neg c, if_pos rfl, m_refR]
end Lsn2
