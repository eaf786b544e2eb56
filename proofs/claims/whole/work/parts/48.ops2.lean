/-! calls that only ask: sellers, what is frail -/
section Ops2
variable {M : Mem} (d : Nat)
theorem wfb (h : Inv M) (s : Int) : Wf (mV (putI (putI (putI M 0 0 s) 179 1 0) 179 0 0)) := by rw [mV_bg]; exact h.wf
theorem m_best_b (h : Inv M) (s : Int) (c : Bool) : C2 d j_m_bestSellers [vR 12 179, vI (b01 c)] (putI (putI (putI M 0 0 s) 179 1 0) 179 0 0) = some (some (vI (sBst (mV M) c)), putI (putI (putI M 0 0 s) 179 1 0) 179 0 0) := by
  rw [m_best d (wfb h s), mV_bg]
theorem m_frail_b (h : Inv M) (s : Int) : C2 d j_m_frailest [vR 12 179] (putI (putI (putI M 0 0 s) 179 1 0) 179 0 0) = some (some (vI (sFr (mV M))), putI (putI (putI M 0 0 s) 179 1 0) 179 0 0) := by
  rw [m_frailest d (wfb h s), mV_bg]
theorem o_fewest (h : Inv M) : OpI d j_x_fewest j_m_fewest [] M := by
  have e := fun s => m_best_b d h s false
  rw [show b01 false = 0 from rfl] at e
  rcases sBst_q h.wc false with c | c
  · refine opR h (-1) 8 ?_ ?_
    · rw [q_x_fewest, em_fewest d h.rl, bI_k, if_pos c, q_x_refuse, bI_k]
    · rw [q_m_fewest, e, bI_k, if_pos (by omega), q_m_refuse, bI_k]
  · refine opA h (sSz (sBst (mV M) false)) ?_ ?_
    · rw [q_x_fewest, em_fewest d h.rl, bI_k, if_neg (by omega), bitC _ c.1 c.2, bI_k, q_x_answer, bI_k]
    · rw [q_m_fewest, e, bI_k, if_neg (by omega), m_sizeOf, bI_k]
theorem o_fewestSet (h : Inv M) : OpI d j_x_fewestSet j_m_fewestSet [] M := by
  have e := fun s => m_best_b d h s false
  rw [show b01 false = 0 from rfl] at e
  rcases sBst_q h.wc false with c | c
  · refine opR h (-1) 8 ?_ ?_
    · rw [q_x_fewestSet, em_fewest d h.rl, bI_k, x_answerOr, bI_k, if_pos c, c]
    · rw [q_m_fewestSet, e, bI_k, if_pos (by omega), q_m_refuse, bI_k]
  · refine opA h (sBst (mV M) false) ?_ ?_
    · rw [q_x_fewestSet, em_fewest d h.rl, bI_k, x_answerOr, bI_k, if_neg (by omega)]
    · rw [q_m_fewestSet, e, bI_k, if_neg (by omega)]
theorem o_bribe (h : Inv M) : OpI d j_x_bribe j_m_bribe [] M := by
  have e := fun s => m_best_b d h s true
  rw [show b01 true = 1 from rfl] at e
  rcases sBst_q h.wc true with c | c
  · refine opR h (-1) 8 ?_ ?_
    · rw [q_x_bribe, em_cheapest d h.rl, bI_k, if_pos c, q_x_refuse, bI_k]
    · rw [q_m_bribe, e, bI_k, if_pos (by omega), q_m_refuse, bI_k]
  · refine opA h (sPr (mV M) (sBst (mV M) true)) ?_ ?_
    · rw [q_x_bribe, em_cheapest d h.rl, bI_k, if_neg (by omega), em_priceOf d h.rl, bI_k, q_x_answer, bI_k]
    · rw [q_m_bribe, e, bI_k, if_neg (by omega), m_pricesOf d (h.wb 0), bI_k, mV_bg]
theorem o_bribeSet (h : Inv M) : OpI d j_x_bribeSet j_m_bribeSet [] M := by
  have e := fun s => m_best_b d h s true
  rw [show b01 true = 1 from rfl] at e
  rcases sBst_q h.wc true with c | c
  · refine opR h (-1) 8 ?_ ?_
    · rw [q_x_bribeSet, em_cheapest d h.rl, bI_k, x_answerOr, bI_k, if_pos c, c]
    · rw [q_m_bribeSet, e, bI_k, if_pos (by omega), q_m_refuse, bI_k]
  · refine opA h (sBst (mV M) true) ?_ ?_
    · rw [q_x_bribeSet, em_cheapest d h.rl, bI_k, x_answerOr, bI_k, if_neg (by omega)]
    · rw [q_m_bribeSet, e, bI_k, if_neg (by omega)]
theorem o_frail (h : Inv M) : OpI d j_x_frail j_m_frail [] M := by
  have hc := h.wc
  unfold Wc at hc
  rcases sFr_q (V := mV M) with c | c
  · refine opR h (-1) 8 ?_ ?_
    · rw [q_x_frail, em_frailest d h.rl h.wf, bI_k, if_pos c, q_x_refuse, bI_k]
    · rw [q_m_frail, m_frail_b d h, bI_k, if_pos (by omega), q_m_refuse, bI_k]
  · obtain ⟨k, hk⟩ : ∃ k : Nat, sFr (mV M) = (k : Int) := ⟨(sFr (mV M)).toNat, by omega⟩
    rw [hk] at c
    refine opA h (sSz (sWho (mV M) k)) ?_ ?_
    · rw [q_x_frail, em_frailest d h.rl h.wf, bI_k, hk, if_neg (by omega), em_count d h.rl, bI_k, q_x_answer, bI_k]
    · rw [q_m_frail, m_frail_b d h, bI_k, hk, if_neg (by omega), m_knowersOf d (h.wb 0) k (by omega), bI_k, m_sizeOf, bI_k, mV_bg]
theorem o_frailPart (h : Inv M) : OpI d j_x_frailPart j_m_frailPart [] M := by
  rcases sFr_q (V := mV M) with c | c
  · refine opR h (-1) 8 ?_ ?_
    · rw [q_x_frailPart, em_frailest d h.rl h.wf, bI_k, x_answerOr, bI_k, if_pos c, c]
    · rw [q_m_frailPart, m_frail_b d h, bI_k, if_pos (by omega), q_m_refuse, bI_k]
  · refine opA h (sFr (mV M)) ?_ ?_
    · rw [q_x_frailPart, em_frailest d h.rl h.wf, bI_k, x_answerOr, bI_k, if_neg (by omega)]
    · rw [q_m_frailPart, m_frail_b d h, bI_k, if_neg (by omega)]
theorem m_uns_b (h : Inv M) (s k : Int) : C2 d j_m_isUnsold [vR 12 179, vI k] (putI (putI (putI M 0 0 s) 179 1 0) 179 0 0) = some (some (vI (b01 (!sSold (mV M) k))), putI (putI (putI M 0 0 s) 179 1 0) 179 0 0) := by
  rw [m_unsold d (wfb h s), mV_bg]
theorem o_safe (h : Inv M) (k e : Int) : OpI d j_x_safe j_m_safe [vI k, vI e] M := by
  have hc := h.wc
  unfold Wc at hc
  by_cases c1 : 0 ≤ k ∧ k ≤ 8
  · by_cases c2 : 0 ≤ e ∧ e ≤ 8
    · rcases sFr_q (V := mV M) with c | c
      · refine opA h (b01 (!sSold (mV M) k)) ?_ ?_
        · rw [q_x_safe, x_within, bI_k, if_pos c1, if_neg (by decide), x_within, bI_k, if_pos c2, if_neg (by decide), em_frailest d h.rl h.wf, bI_k, if_pos c, em_sold d h.rl, bI_k, x_answerIf, x_answerIf, bI_k, bI_k]
          cases sSold (mV M) k <;> rfl
        · rw [q_m_safe, m_isIn, bI_k, if_pos c1, if_neg (by decide), m_isIn, bI_k, if_pos c2, if_neg (by decide), m_frail_b d h, bI_k, m_uns_b d h, bI_k, if_pos (show sFr (mV M) < 0 by omega)]
          cases sSold (mV M) k <;> rfl
      · obtain ⟨n, hn⟩ : ∃ n : Nat, sFr (mV M) = (n : Int) := ⟨(sFr (mV M)).toNat, by omega⟩
        rw [hn] at c
        refine opA h (b01 (!sSold (mV M) k && decide (e < sSz (sWho (mV M) n)))) ?_ ?_
        · rw [q_x_safe, x_within, bI_k, if_pos c1, if_neg (by decide), x_within, bI_k, if_pos c2, if_neg (by decide), em_frailest d h.rl h.wf, bI_k, hn, if_neg (by omega), em_count d h.rl, bI_k, em_sold d h.rl, bI_k, x_answerIf, x_answerIf, bI_k, bI_k]
          by_cases c4 : e < sSz (sWho (mV M) n)
          · rw [if_pos c4, decide_eq_true c4]
            cases sSold (mV M) k <;> rfl
          · rw [if_neg c4, decide_eq_false c4]
            cases sSold (mV M) k <;> rfl
        · rw [q_m_safe, m_isIn, bI_k, if_pos c1, if_neg (by decide), m_isIn, bI_k, if_pos c2, if_neg (by decide), m_frail_b d h, bI_k, m_uns_b d h, bI_k, hn, if_neg (show ¬ (n : Int) < 0 by omega), m_knowersOf d (h.wb 0) n (by omega), bI_k, m_sizeOf, bI_k, mV_bg]
          by_cases c4 : e < sSz (sWho (mV M) n)
          · rw [if_pos c4, decide_eq_true c4]
            cases sSold (mV M) k <;> rfl
          · rw [if_neg c4, decide_eq_false c4]
            cases sSold (mV M) k <;> rfl
    · refine opR h (-1) 5 ?_ ?_
      · rw [q_x_safe, x_within, bI_k, if_pos c1, if_neg (by decide), x_within, bI_k, if_neg c2, if_pos rfl, q_x_refuse, bI_k]
      · rw [q_m_safe, m_isIn, bI_k, if_pos c1, if_neg (by decide), m_isIn, bI_k, if_neg c2, if_pos rfl, q_m_refuse, bI_k]
  · refine opR h (-1) 5 ?_ ?_
    · rw [q_x_safe, x_within, bI_k, if_neg c1, if_pos rfl, q_x_refuse, bI_k]
    · rw [q_m_safe, m_isIn, bI_k, if_neg c1, if_pos rfl, q_m_refuse, bI_k]
end Ops2
