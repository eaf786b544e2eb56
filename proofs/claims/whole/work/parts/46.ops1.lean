/-! calls that only ask: the first ones -/
theorem em_isWritten {M : Mem} {e : Nat} {V : Nat → Int} (d : Nat) (h : Rl M e V) (k : Nat) (hk : (k : Int) < V 0) : C2 d j_em_isWritten [vR 1 e, vI (k : Int)] M = some (some (vI (b01 (decide (V (21 + k) = 1)))), M) := by
  have hc := h.1
  unfold Wc at hc
  rw [q_em_isWritten, h.2.1.2.2.2.2.2.2.1, bit_is (by omega)]
  unfold sWr
  rw [bt_msk (by omega) (by omega), decide_eq_true (show k < (V 0).toNat by omega), Bool.true_and]
  cases decide (V (21 + k) = 1)
  · rfl
  · rfl
section Ops1
variable {M : Mem} (d : Nat)
theorem inv_t1 (h : Inv M) : Inv (putI M 179 1 0) := h.keep (Kp.ofB SameB.rfl.i1) (by simp only [up2_na (show (0 : Nat) ≠ 179 by decide), up2_nk (show (0 : Nat) ≠ 1 by decide)]; exact h.1.1) (by simp [up2, KpH])
theorem o_status (h : Inv M) : OpI d j_x_status j_m_status [] M :=
  ⟨M.1 0 0, M, putI M 179 1 0, q_x_status d M, (q_m_status d M).trans (by rw [show (putI M 179 1 0).1 179 0 = M.1 179 0 by simp [up2], h.1.1]), inv_t1 h⟩
theorem o_top (h : Inv M) : OpL d j_x_top j_m_top [] M :=
  ⟨M.2.1 0 1, M, putI M 179 1 0, q_x_top d M, (q_m_top d M).trans (by rw [h.1.2.1]), inv_t1 h⟩
theorem o_bottom (h : Inv M) : OpL d j_x_bottom j_m_bottom [] M :=
  ⟨M.2.1 0 2, M, putI M 179 1 0, q_x_bottom d M, (q_m_bottom d M).trans (by rw [h.1.2.2.1]), inv_t1 h⟩
theorem o_fault (h : Inv M) (p : Int) : OpI d j_x_fault j_m_fault [vI p] M := by
  by_cases c : p = 0
  · exact ⟨M.1 0 9, M, putI M 179 1 0, by rw [q_x_fault, if_pos c], by rw [q_m_fault, if_pos c, show (putI M 179 1 0).1 179 10 = M.1 179 10 by simp [up2], h.1.2.2.2.2.1], inv_t1 h⟩
  · by_cases c2 : p = 1
    · exact ⟨M.1 0 10, M, putI M 179 1 0, by rw [q_x_fault, if_neg c, if_pos c2], by rw [q_m_fault, if_neg c, if_pos c2, show (putI M 179 1 0).1 179 11 = M.1 179 11 by simp [up2], h.1.2.2.2.2.2.1], inv_t1 h⟩
    · exact ⟨-1, M, putI M 179 1 0, by rw [q_x_fault, if_neg c, if_neg c2], by rw [q_m_fault, if_neg c, if_neg c2], inv_t1 h⟩
theorem o_knowers (h : Inv M) (p : Int) : OpI d j_x_knowers j_m_knowers [vI p] M := by
  have hc := h.wc
  unfold Wc at hc
  by_cases c : 0 ≤ p ∧ p < mV M 0
  · obtain ⟨k, rfl⟩ : ∃ k : Nat, p = (k : Int) := ⟨p.toNat, by omega⟩
    refine opA h (sWho (mV M) k) ?_ ?_
    · rw [q_x_knowers, em_hasPart d h.rl, bI_k, if_pos c, if_neg (by decide), em_livingThatKnow d h.rl, bI_k, q_x_answer, bI_k]
    · rw [q_m_knowers, m_isPartAt d (h.wb 0), bI_k, mV_bg, if_pos c, if_neg (by decide), m_knowersOf d (h.wb 0) k (by omega), bI_k, mV_bg]
  · refine opR h (-1) 2 ?_ ?_
    · rw [q_x_knowers, em_hasPart d h.rl, bI_k, if_neg c, if_pos rfl, q_x_refuse, bI_k]
    · rw [q_m_knowers, m_isPartAt d (h.wb 2), bI_k, mV_bg, if_neg c, if_pos rfl, q_m_refuse, bI_k]
theorem o_knownBy (h : Inv M) (p : Int) : OpI d j_x_knownBy j_m_knownBy [vI p] M := by
  by_cases c : 0 ≤ p ∧ p ≤ sAH (mV M)
  · refine opA h (sTo (mV M) p) ?_ ?_
    · rw [q_x_knownBy, em_isHandSet d h.rl, bI_k, if_pos c, if_neg (by decide), em_knowledgeOf d h.rl, bI_k, q_x_answer, bI_k]
    · rw [q_m_knownBy, m_areHands d, bI_k, mV_bg, if_pos c, if_neg (by decide), m_knownTo d (h.wb 0), bI_k, mV_bg]
  · refine opR h (-1) 5 ?_ ?_
    · rw [q_x_knownBy, em_isHandSet d h.rl, bI_k, if_neg c, if_pos rfl, q_x_refuse, bI_k]
    · rw [q_m_knownBy, m_areHands d, bI_k, mV_bg, if_neg c, if_pos rfl, q_m_refuse, bI_k]
theorem o_loses (h : Inv M) (p : Int) : OpI d j_x_loses j_m_loses [vI p] M := by
  by_cases c : 0 ≤ p ∧ p ≤ sAH (mV M)
  · refine opA h (sLost (mV M) p) ?_ ?_
    · rw [q_x_loses, em_isHandSet d h.rl, bI_k, if_pos c, if_neg (by decide), em_lostBy d h.rl, bI_k, q_x_answer, bI_k]
    · rw [q_m_loses, m_areHands d, bI_k, mV_bg, if_pos c, if_neg (by decide), m_lostBy d (h.wb 0), bI_k, mV_bg]
  · refine opR h (-1) 5 ?_ ?_
    · rw [q_x_loses, em_isHandSet d h.rl, bI_k, if_neg c, if_pos rfl, q_x_refuse, bI_k]
    · rw [q_m_loses, m_areHands d, bI_k, mV_bg, if_neg c, if_pos rfl, q_m_refuse, bI_k]
theorem o_sells (h : Inv M) (p : Int) : OpI d j_x_sells j_m_sells [vI p] M := by
  have h7 : M.1 11 7 = mV M 0 := h.rl.2.1.2.2.2.2.2.2.2.1
  by_cases c : 0 ≤ p ∧ p ≤ sAH (mV M)
  · by_cases c2 : xand p (xxor (sLiv (mV M)) (-1)) = 0
    · by_cases c3 : mV M 0 = 0
      · refine opR h (-1) 8 ?_ ?_
        · rw [q_x_sells, em_isHandSet d h.rl, bI_k, if_pos c, if_neg (by decide), em_living d h.rl, bI_k, if_pos c2, if_pos (h7.trans c3), q_x_refuse, bI_k]
        · rw [q_m_sells, m_areHands d, bI_k, mV_bg, if_pos c, if_neg (by decide), m_living d (h.wb 8), bI_k, mV_bg, if_pos c2, if_pos (show (putI (putI (putI M 0 0 8) 179 1 0) 179 0 0).1 184 0 = 0 from (congrFun (mV_bg (M := M) (s := 8)) 0).trans c3), q_m_refuse, bI_k]
      · refine opA h (b01 (sSell (mV M) p)) ?_ ?_
        · rw [q_x_sells, em_isHandSet d h.rl, bI_k, if_pos c, if_neg (by decide), em_living d h.rl, bI_k, if_pos c2, if_neg (fun q => c3 (h7.symm.trans q)), em_canSell d h.rl, bI_k, x_answerIf, bI_k]
          cases sSell (mV M) p <;> rfl
        · rw [q_m_sells, m_areHands d, bI_k, mV_bg, if_pos c, if_neg (by decide), m_living d (h.wb 0), bI_k, mV_bg, if_pos c2, if_neg (show ¬ (putI (putI (putI M 0 0 0) 179 1 0) 179 0 0).1 184 0 = 0 from fun q => c3 ((congrFun (mV_bg (M := M) (s := 0)) 0).symm.trans q)), m_canSell d (h.wb 0), bI_k, mV_bg]
          cases sSell (mV M) p <;> rfl
    · refine opR h (-1) 5 ?_ ?_
      · rw [q_x_sells, em_isHandSet d h.rl, bI_k, if_pos c, if_neg (by decide), em_living d h.rl, bI_k, if_neg c2, q_x_refuse, bI_k]
      · rw [q_m_sells, m_areHands d, bI_k, mV_bg, if_pos c, if_neg (by decide), m_living d (h.wb 5), bI_k, mV_bg, if_neg c2, q_m_refuse, bI_k]
  · refine opR h (-1) 5 ?_ ?_
    · rw [q_x_sells, em_isHandSet d h.rl, bI_k, if_neg c, if_pos rfl, q_x_refuse, bI_k]
    · rw [q_m_sells, m_areHands d, bI_k, mV_bg, if_neg c, if_pos rfl, q_m_refuse, bI_k]
theorem o_many (h : Inv M) (p : Int) : OpI d j_x_many j_m_many [vI p] M := by
  have hs := h.rl.2.1
  by_cases c : 0 ≤ p ∧ p ≤ 12
  · have hcs : p = 0 ∨ p = 1 ∨ p = 2 ∨ p = 3 ∨ p = 4 ∨ p = 5 ∨ p = 6 ∨ p = 7 ∨ p = 8 ∨ p = 9 ∨ p = 10 ∨ p = 11 ∨ p = 12 := by omega
    rcases hcs with rfl | rfl | rfl | rfl | rfl | rfl | rfl | rfl | rfl | rfl | rfl | rfl | rfl
    · refine opA h (mV M 0) ?_ ?_
      · rw [q_x_many, if_pos rfl, q_x_answer, bI_k, hs.2.2.2.2.2.2.2.1]
      · rw [q_m_many, m_isIn, bI_k, if_pos c, if_neg (by decide), if_pos (by decide), if_pos (by decide)]
        exact congrArg (fun v => some (some (vI v), _)) (congrFun (mV_bg (M := M) (s := 0)) 0)
    · refine opA h (mV M 1) ?_ ?_
      · rw [q_x_many, if_neg (by decide), if_pos rfl, q_x_answer, bI_k, hs.2.2.2.2.2.2.2.2.1]
      · rw [q_m_many, m_isIn, bI_k, if_pos c, if_neg (by decide), if_pos (by decide), if_pos (by decide)]
        exact congrArg (fun v => some (some (vI v), _)) (congrFun (mV_bg (M := M) (s := 0)) 1)
    · refine opA h (mV M 2) ?_ ?_
      · rw [q_x_many, if_neg (by decide), if_neg (by decide), if_pos rfl, q_x_answer, bI_k, hs.2.2.2.2.2.2.2.2.2]
      · rw [q_m_many, m_isIn, bI_k, if_pos c, if_neg (by decide), if_pos (by decide), if_pos (by decide)]
        exact congrArg (fun v => some (some (vI v), _)) (congrFun (mV_bg (M := M) (s := 0)) 2)
    · refine opA h (mV M 3) ?_ ?_
      · rw [q_x_many, if_neg (by decide), if_neg (by decide), if_neg (by decide), if_pos rfl, q_x_answer, bI_k, hs.1]
      · rw [q_m_many, m_isIn, bI_k, if_pos c, if_neg (by decide), if_pos (by decide), if_pos (by decide)]
        exact congrArg (fun v => some (some (vI v), _)) (congrFun (mV_bg (M := M) (s := 0)) 3)
    · refine opA h (mV M 4) ?_ ?_
      · rw [q_x_many, if_neg (by decide), if_neg (by decide), if_neg (by decide), if_neg (by decide), if_pos rfl, q_x_answer, bI_k, hs.2.1]
      · rw [q_m_many, m_isIn, bI_k, if_pos c, if_neg (by decide), if_pos (by decide), if_pos (by decide)]
        exact congrArg (fun v => some (some (vI v), _)) (congrFun (mV_bg (M := M) (s := 0)) 4)
    · refine opA h (mV M 5) ?_ ?_
      · rw [q_x_many, if_neg (by decide), if_neg (by decide), if_neg (by decide), if_neg (by decide), if_neg (by decide), if_pos rfl, q_x_answer, bI_k, hs.2.2.1]
      · rw [q_m_many, m_isIn, bI_k, if_pos c, if_neg (by decide), if_pos (by decide), if_pos (by decide)]
        exact congrArg (fun v => some (some (vI v), _)) (congrFun (mV_bg (M := M) (s := 0)) 5)
    · refine opA h (mV M 6) ?_ ?_
      · rw [q_x_many, if_neg (by decide), if_neg (by decide), if_neg (by decide), if_neg (by decide), if_neg (by decide), if_neg (by decide), if_pos rfl, q_x_answer, bI_k, hs.2.2.2.1]
      · rw [q_m_many, m_isIn, bI_k, if_pos c, if_neg (by decide), if_pos (by decide), if_pos (by decide)]
        exact congrArg (fun v => some (some (vI v), _)) (congrFun (mV_bg (M := M) (s := 0)) 6)
    · refine opA h (mV M 7) ?_ ?_
      · rw [q_x_many, if_neg (by decide), if_neg (by decide), if_neg (by decide), if_neg (by decide), if_neg (by decide), if_neg (by decide), if_neg (by decide), if_pos rfl, q_x_answer, bI_k, hs.2.2.2.2.1]
      · rw [q_m_many, m_isIn, bI_k, if_pos c, if_neg (by decide), if_pos (by decide), if_pos (by decide)]
        exact congrArg (fun v => some (some (vI v), _)) (congrFun (mV_bg (M := M) (s := 0)) 7)
    · refine opA h (sLiv (mV M)) ?_ ?_
      · rw [q_x_many, if_neg (by decide), if_neg (by decide), if_neg (by decide), if_neg (by decide), if_neg (by decide), if_neg (by decide), if_neg (by decide), if_neg (by decide), if_pos rfl, em_living d h.rl, bI_k, q_x_answer, bI_k]
      · rw [q_m_many, m_isIn, bI_k, if_pos c, if_neg (by decide), if_neg (by decide), if_pos (by decide), if_pos rfl, m_living d (h.wb 0), bI_k, mV_bg]
    · refine opA h (sNow (mV M)) ?_ ?_
      · rw [q_x_many, if_neg (by decide), if_neg (by decide), if_neg (by decide), if_neg (by decide), if_neg (by decide), if_neg (by decide), if_neg (by decide), if_neg (by decide), if_neg (by decide), if_pos rfl, em_knownAfter d h.rl, bI_k, q_x_answer, bI_k, sAft_0 h.wc]
      · rw [q_m_many, m_isIn, bI_k, if_pos c, if_neg (by decide), if_neg (by decide), if_pos (by decide), if_neg (by decide), m_knownNow d (h.wb 0), bI_k, mV_bg]
    · refine opA h (sWr (mV M)) ?_ ?_
      · rw [q_x_many, if_neg (by decide), if_neg (by decide), if_neg (by decide), if_neg (by decide), if_neg (by decide), if_neg (by decide), if_neg (by decide), if_neg (by decide), if_neg (by decide), if_neg (by decide), if_pos rfl, q_x_answer, bI_k, hs.2.2.2.2.2.2.1]
      · rw [q_m_many, m_isIn, bI_k, if_pos c, if_neg (by decide), if_neg (by decide), if_neg (by decide), if_pos rfl, m_written d (h.wb 0), bI_k, mV_bg]
    · refine opA h (mV M 8) ?_ ?_
      · rw [q_x_many, if_neg (by decide), if_neg (by decide), if_neg (by decide), if_neg (by decide), if_neg (by decide), if_neg (by decide), if_neg (by decide), if_neg (by decide), if_neg (by decide), if_neg (by decide), if_neg (by decide), if_pos rfl, q_x_answer, bI_k, hs.2.2.2.2.2.1]
      · rw [q_m_many, m_isIn, bI_k, if_pos c, if_neg (by decide), if_neg (by decide), if_neg (by decide), if_neg (by decide), if_pos rfl]
        exact congrArg (fun v => some (some (vI v), _)) (congrFun (mV_bg (M := M) (s := 0)) 8)
    · refine opA h (b01 (sWhole (mV M))) ?_ ?_
      · rw [q_x_many, if_neg (by decide), if_neg (by decide), if_neg (by decide), if_neg (by decide), if_neg (by decide), if_neg (by decide), if_neg (by decide), if_neg (by decide), if_neg (by decide), if_neg (by decide), if_neg (by decide), if_neg (by decide), if_pos rfl, em_whole d h.rl, bI_k, x_answerIf, bI_k]
        cases sWhole (mV M) <;> rfl
      · rw [q_m_many, m_isIn, bI_k, if_pos c, if_neg (by decide), if_neg (by decide), if_neg (by decide), if_neg (by decide), if_neg (by decide), m_isWhole d (h.wb 0), bI_k, mV_bg]
        cases sWhole (mV M) <;> rfl
  · refine opR h (-1) 5 ?_ ?_
    · rw [q_x_many, if_neg (by omega), if_neg (by omega), if_neg (by omega), if_neg (by omega), if_neg (by omega), if_neg (by omega), if_neg (by omega), if_neg (by omega), if_neg (by omega), if_neg (by omega), if_neg (by omega), if_neg (by omega), if_neg (by omega), q_x_refuse, bI_k]
    · rw [q_m_many, m_isIn, bI_k, if_neg c, if_pos rfl, q_m_refuse, bI_k]
theorem o_part (h : Inv M) (p w : Int) : OpI d j_x_part j_m_part [vI p, vI w] M := by
  have hc := h.wc
  unfold Wc at hc
  by_cases c : 0 ≤ p ∧ p < mV M 0
  · obtain ⟨k, rfl⟩ : ∃ k : Nat, p = (k : Int) := ⟨p.toNat, by omega⟩
    have hp := h.rl.2.2.1 k c.2
    have hw := h.wf.2.2.2.2.2.2.2.1 k c.2
    by_cases c2 : 0 ≤ w ∧ w ≤ 4
    · have hcs : w = 0 ∨ w = 1 ∨ w = 2 ∨ w = 3 ∨ w = 4 := by omega
      rcases hcs with rfl | rfl | rfl | rfl | rfl
      · refine opA h (mV M (9 + k)) ?_ ?_
        · rw [q_x_part, em_hasPart d h.rl, bI_k, if_pos c, if_neg (by decide), if_pos (by omega), if_pos rfl, q_x_answer, bI_k, Int.toNat_natCast]
          exact congrArg (fun v => some (some (vI v), _)) hp.1
        · rw [q_m_part, m_isPartAt d (h.wb 0), bI_k, mV_bg, if_pos c, if_neg (by decide), m_isIn, bI_k, if_pos c2, if_neg (by decide), if_neg (by decide), show w32 (w32 (9 + w32 (6 * 0)) + (k : Int)) = 9 + (k : Int) from by rw [show w32 (9 + w32 (6 * 0)) = 9 by decide, w32s (by omega)], if_pos (by omega), show (9 + (k : Int)).toNat = 9 + k by omega]
          exact congrArg (fun v => some (some (vI v), _)) (congrFun (mV_bg (M := M) (s := 0)) (9 + k))
      · refine opA h (mV M (15 + k)) ?_ ?_
        · rw [q_x_part, em_hasPart d h.rl, bI_k, if_pos c, if_neg (by decide), if_pos (by omega), if_neg (by decide), if_pos rfl, q_x_answer, bI_k, Int.toNat_natCast]
          exact congrArg (fun v => some (some (vI v), _)) hp.2.1
        · rw [q_m_part, m_isPartAt d (h.wb 0), bI_k, mV_bg, if_pos c, if_neg (by decide), m_isIn, bI_k, if_pos c2, if_neg (by decide), if_neg (by decide), show w32 (w32 (9 + w32 (6 * 1)) + (k : Int)) = 15 + (k : Int) from by rw [show w32 (9 + w32 (6 * 1)) = 15 by decide, w32s (by omega)], if_pos (by omega), show (15 + (k : Int)).toNat = 15 + k by omega]
          exact congrArg (fun v => some (some (vI v), _)) (congrFun (mV_bg (M := M) (s := 0)) (15 + k))
      · refine opA h (mV M (21 + k)) ?_ ?_
        · rw [q_x_part, em_hasPart d h.rl, bI_k, if_pos c, if_neg (by decide), if_pos (by omega), if_neg (by decide), if_neg (by decide), if_pos rfl, em_isWritten d h.rl k c.2, bI_k, x_answerIf, bI_k]
          rcases hw.2.2.1 with g | g <;> rw [g] <;> rfl
        · rw [q_m_part, m_isPartAt d (h.wb 0), bI_k, mV_bg, if_pos c, if_neg (by decide), m_isIn, bI_k, if_pos c2, if_neg (by decide), if_neg (by decide), show w32 (w32 (9 + w32 (6 * 2)) + (k : Int)) = 21 + (k : Int) from by rw [show w32 (9 + w32 (6 * 2)) = 21 by decide, w32s (by omega)], if_pos (by omega), show (21 + (k : Int)).toNat = 21 + k by omega]
          exact congrArg (fun v => some (some (vI v), _)) (congrFun (mV_bg (M := M) (s := 0)) (21 + k))
      · refine opA h (mV M (27 + k)) ?_ ?_
        · rw [q_x_part, em_hasPart d h.rl, bI_k, if_pos c, if_neg (by decide), if_pos (by omega), if_neg (by decide), if_neg (by decide), if_neg (by decide), if_pos rfl, q_x_answer, bI_k, Int.toNat_natCast]
          exact congrArg (fun v => some (some (vI v), _)) hp.2.2
        · rw [q_m_part, m_isPartAt d (h.wb 0), bI_k, mV_bg, if_pos c, if_neg (by decide), m_isIn, bI_k, if_pos c2, if_neg (by decide), if_neg (by decide), show w32 (w32 (9 + w32 (6 * 3)) + (k : Int)) = 27 + (k : Int) from by rw [show w32 (9 + w32 (6 * 3)) = 27 by decide, w32s (by omega)], if_pos (by omega), show (27 + (k : Int)).toNat = 27 + k by omega]
          exact congrArg (fun v => some (some (vI v), _)) (congrFun (mV_bg (M := M) (s := 0)) (27 + k))
      · refine opA h (sWho (mV M) k) ?_ ?_
        · rw [q_x_part, em_hasPart d h.rl, bI_k, if_pos c, if_neg (by decide), if_pos (by omega), if_neg (by decide), if_neg (by decide), if_neg (by decide), if_neg (by decide), if_pos rfl, em_livingThatKnow d h.rl, bI_k, q_x_answer, bI_k]
        · rw [q_m_part, m_isPartAt d (h.wb 0), bI_k, mV_bg, if_pos c, if_neg (by decide), m_isIn, bI_k, if_pos c2, if_neg (by decide), if_pos rfl, m_knowersOf d (h.wb 0) k (by omega), bI_k, mV_bg]
    · refine opR h (-1) 5 ?_ ?_
      · rw [q_x_part, em_hasPart d h.rl, bI_k, if_pos c, if_neg (by decide), if_pos (by omega), if_neg (by omega), if_neg (by omega), if_neg (by omega), if_neg (by omega), if_neg (by omega), q_x_refuse, bI_k]
      · rw [q_m_part, m_isPartAt d (h.wb 5), bI_k, mV_bg, if_pos c, if_neg (by decide), m_isIn, bI_k, if_neg c2, if_pos rfl, q_m_refuse, bI_k]
  · refine opR h (-1) 2 ?_ ?_
    · rw [q_x_part, em_hasPart d h.rl, bI_k, if_neg c, if_pos rfl, q_x_refuse, bI_k]
    · rw [q_m_part, m_isPartAt d (h.wb 2), bI_k, mV_bg, if_neg c, if_pos rfl, q_m_refuse, bI_k]
theorem o_hand (h : Inv M) (p w : Int) : OpI d j_x_hand j_m_hand [vI p, vI w] M := by
  have hc := h.wc
  unfold Wc at hc
  by_cases c : 0 ≤ p ∧ p < mV M 1
  · obtain ⟨k, rfl⟩ : ∃ k : Nat, p = (k : Int) := ⟨p.toNat, by omega⟩
    have hp := h.rl.2.2.2.1 k c.2
    by_cases c2 : 0 ≤ w ∧ w ≤ 3
    · have hcs : w = 0 ∨ w = 1 ∨ w = 2 ∨ w = 3 := by omega
      rcases hcs with rfl | rfl | rfl | rfl
      · refine opA h (mV M (33 + k)) ?_ ?_
        · rw [q_x_hand, em_hasHand d h.rl, bI_k, if_pos c, if_neg (by decide), if_pos (by omega), if_pos rfl, q_x_answer, bI_k, Int.toNat_natCast]
          exact congrArg (fun v => some (some (vI v), _)) hp.1
        · rw [q_m_hand, m_isHandAt d (h.wb 0), bI_k, mV_bg, if_pos c, if_neg (by decide), m_isIn, bI_k, if_pos c2, if_neg (by decide), show w32 (w32 (33 + w32 (8 * 0)) + (k : Int)) = 33 + (k : Int) from by rw [show w32 (33 + w32 (8 * 0)) = 33 by decide, w32s (by omega)], if_pos (by omega), show (33 + (k : Int)).toNat = 33 + k by omega]
          exact congrArg (fun v => some (some (vI v), _)) (congrFun (mV_bg (M := M) (s := 0)) (33 + k))
      · refine opA h (mV M (41 + k)) ?_ ?_
        · rw [q_x_hand, em_hasHand d h.rl, bI_k, if_pos c, if_neg (by decide), if_pos (by omega), if_neg (by decide), if_pos rfl, q_x_answer, bI_k, Int.toNat_natCast]
          exact congrArg (fun v => some (some (vI v), _)) hp.2.1
        · rw [q_m_hand, m_isHandAt d (h.wb 0), bI_k, mV_bg, if_pos c, if_neg (by decide), m_isIn, bI_k, if_pos c2, if_neg (by decide), show w32 (w32 (33 + w32 (8 * 1)) + (k : Int)) = 41 + (k : Int) from by rw [show w32 (33 + w32 (8 * 1)) = 41 by decide, w32s (by omega)], if_pos (by omega), show (41 + (k : Int)).toNat = 41 + k by omega]
          exact congrArg (fun v => some (some (vI v), _)) (congrFun (mV_bg (M := M) (s := 0)) (41 + k))
      · refine opA h (mV M (49 + k)) ?_ ?_
        · rw [q_x_hand, em_hasHand d h.rl, bI_k, if_pos c, if_neg (by decide), if_pos (by omega), if_neg (by decide), if_neg (by decide), if_pos rfl, q_x_answer, bI_k, Int.toNat_natCast]
          exact congrArg (fun v => some (some (vI v), _)) hp.2.2.1
        · rw [q_m_hand, m_isHandAt d (h.wb 0), bI_k, mV_bg, if_pos c, if_neg (by decide), m_isIn, bI_k, if_pos c2, if_neg (by decide), show w32 (w32 (33 + w32 (8 * 2)) + (k : Int)) = 49 + (k : Int) from by rw [show w32 (33 + w32 (8 * 2)) = 49 by decide, w32s (by omega)], if_pos (by omega), show (49 + (k : Int)).toNat = 49 + k by omega]
          exact congrArg (fun v => some (some (vI v), _)) (congrFun (mV_bg (M := M) (s := 0)) (49 + k))
      · refine opA h (mV M (57 + k)) ?_ ?_
        · rw [q_x_hand, em_hasHand d h.rl, bI_k, if_pos c, if_neg (by decide), if_pos (by omega), if_neg (by decide), if_neg (by decide), if_neg (by decide), if_pos rfl, q_x_answer, bI_k, Int.toNat_natCast]
          exact congrArg (fun v => some (some (vI v), _)) hp.2.2.2
        · rw [q_m_hand, m_isHandAt d (h.wb 0), bI_k, mV_bg, if_pos c, if_neg (by decide), m_isIn, bI_k, if_pos c2, if_neg (by decide), show w32 (w32 (33 + w32 (8 * 3)) + (k : Int)) = 57 + (k : Int) from by rw [show w32 (33 + w32 (8 * 3)) = 57 by decide, w32s (by omega)], if_pos (by omega), show (57 + (k : Int)).toNat = 57 + k by omega]
          exact congrArg (fun v => some (some (vI v), _)) (congrFun (mV_bg (M := M) (s := 0)) (57 + k))
    · refine opR h (-1) 5 ?_ ?_
      · rw [q_x_hand, em_hasHand d h.rl, bI_k, if_pos c, if_neg (by decide), if_pos (by omega), if_neg (by omega), if_neg (by omega), if_neg (by omega), if_neg (by omega), q_x_refuse, bI_k]
      · rw [q_m_hand, m_isHandAt d (h.wb 5), bI_k, mV_bg, if_pos c, if_neg (by decide), m_isIn, bI_k, if_neg c2, if_pos rfl, q_m_refuse, bI_k]
  · refine opR h (-1) 2 ?_ ?_
    · rw [q_x_hand, em_hasHand d h.rl, bI_k, if_neg c, if_pos rfl, q_x_refuse, bI_k]
    · rw [q_m_hand, m_isHandAt d (h.wb 2), bI_k, mV_bg, if_neg c, if_pos rfl, q_m_refuse, bI_k]
theorem o_spring (h : Inv M) (p w : Int) : OpI d j_x_spring j_m_spring [vI p, vI w] M := by
  have hc := h.wc
  unfold Wc at hc
  have h1 : M.1 11 1 = mV M 4 := h.rl.2.1.2.1
  by_cases c : 0 ≤ p ∧ p < mV M 2
  · obtain ⟨k, rfl⟩ : ∃ k : Nat, p = (k : Int) := ⟨p.toNat, by omega⟩
    have hp := h.rl.2.2.2.2 k c.2
    by_cases c2 : 0 ≤ w ∧ w ≤ 2
    · have hcs : w = 0 ∨ w = 1 ∨ w = 2 := by omega
      rcases hcs with rfl | rfl | rfl
      · refine opA h (mV M (65 + k)) ?_ ?_
        · rw [q_x_spring, em_hasSpring d h.rl, bI_k, if_pos c, if_neg (by decide), if_pos (by omega), if_pos rfl, q_x_answer, bI_k, Int.toNat_natCast]
          exact congrArg (fun v => some (some (vI v), _)) hp.1
        · rw [q_m_spring, m_isSpringAt d (h.wb 0), bI_k, mV_bg, if_pos c, if_neg (by decide), m_isIn, bI_k, if_pos c2, if_neg (by decide), if_neg (by decide), show w32 (w32 (65 + w32 (4 * 0)) + (k : Int)) = 65 + (k : Int) from by rw [show w32 (65 + w32 (4 * 0)) = 65 by decide, w32s (by omega)], if_pos (by omega), show (65 + (k : Int)).toNat = 65 + k by omega]
          exact congrArg (fun v => some (some (vI v), _)) (congrFun (mV_bg (M := M) (s := 0)) (65 + k))
      · refine opA h (mV M (69 + k)) ?_ ?_
        · rw [q_x_spring, em_hasSpring d h.rl, bI_k, if_pos c, if_neg (by decide), if_pos (by omega), if_neg (by decide), if_pos rfl, q_x_answer, bI_k, Int.toNat_natCast]
          exact congrArg (fun v => some (some (vI v), _)) hp.2
        · rw [q_m_spring, m_isSpringAt d (h.wb 0), bI_k, mV_bg, if_pos c, if_neg (by decide), m_isIn, bI_k, if_pos c2, if_neg (by decide), if_neg (by decide), show w32 (w32 (65 + w32 (4 * 1)) + (k : Int)) = 69 + (k : Int) from by rw [show w32 (65 + w32 (4 * 1)) = 69 by decide, w32s (by omega)], if_pos (by omega), show (69 + (k : Int)).toNat = 69 + k by omega]
          exact congrArg (fun v => some (some (vI v), _)) (congrFun (mV_bg (M := M) (s := 0)) (69 + k))
      · refine opA h (if mV M 4 < mV M (65 + k) then 0 else 1) ?_ ?_
        · rw [q_x_spring, em_hasSpring d h.rl, bI_k, if_pos c, if_neg (by decide), if_pos (by omega), if_neg (by decide), if_neg (by decide), if_pos rfl, Int.toNat_natCast, x_answerIf, bI_k, x_answerIf, bI_k, h1, show M.1 (14 + 21 + 1 * k) 1 = mV M (65 + k) from hp.1]
          by_cases c3 : mV M 4 < mV M (65 + k)
          · rw [if_pos c3, if_pos c3]; rfl
          · rw [if_neg c3, if_neg c3]; rfl
        · rw [q_m_spring, m_isSpringAt d (h.wb 0), bI_k, mV_bg, if_pos c, if_neg (by decide), m_isIn, bI_k, if_pos c2, if_neg (by decide), if_pos rfl, m_isOurs d k (by omega), bI_k, mV_bg]
          by_cases c3 : mV M 4 < mV M (65 + k)
          · rw [if_pos c3]; rfl
          · rw [if_neg c3]; rfl
    · refine opR h (-1) 5 ?_ ?_
      · rw [q_x_spring, em_hasSpring d h.rl, bI_k, if_pos c, if_neg (by decide), if_pos (by omega), if_neg (by omega), if_neg (by omega), if_neg (by omega), q_x_refuse, bI_k]
      · rw [q_m_spring, m_isSpringAt d (h.wb 5), bI_k, mV_bg, if_pos c, if_neg (by decide), m_isIn, bI_k, if_neg c2, if_pos rfl, q_m_refuse, bI_k]
  · refine opR h (-1) 2 ?_ ?_
    · rw [q_x_spring, em_hasSpring d h.rl, bI_k, if_neg c, if_pos rfl, q_x_refuse, bI_k]
    · rw [q_m_spring, m_isSpringAt d (h.wb 2), bI_k, mV_bg, if_neg c, if_pos rfl, q_m_refuse, bI_k]
theorem o_dies (h : Inv M) (p : Int) : OpI d j_x_dies j_m_dies [vI p] M := by
  have hc := h.wc
  unfold Wc at hc
  by_cases c : 0 ≤ p ∧ p < mV M 1
  · obtain ⟨k, rfl⟩ : ∃ k : Nat, p = (k : Int) := ⟨p.toNat, by omega⟩
    have hp := h.rl.2.2.2.1 k c.2
    by_cases c2 : mV M (57 + k) = 0
    · refine opA h (sLeft (mV M) k) ?_ ?_
      · rw [q_x_dies, em_hasHand d h.rl, bI_k, if_pos c, if_neg (by decide), if_pos (by omega), Int.toNat_natCast, if_pos (show M.1 (13 + 14 + 1 * k) 4 = 0 from hp.2.2.2.trans c2), show C2 d j_em_yearsLeft [vR 1 11, vR 3 (13 + 14 + 1 * k)] M = _ from em_yearsLeft d h.rl k c.2, bI_k, q_x_answer, bI_k]
      · rw [q_m_dies, m_isHandAt d (h.wb 0), bI_k, mV_bg, if_pos c, if_neg (by decide), m_lives d k (by omega), bI_k, mV_bg, decide_eq_true c2, if_neg (by decide), w32s (x := 33 + (k : Int)) (by omega), if_pos (by omega), show (33 + (k : Int)).toNat = 33 + k by omega, mx_I, bI_k]
        have e1 := congrFun (mV_bg (M := M) (s := 0)) 3
        have e2 := congrFun (mV_bg (M := M) (s := 0)) (33 + k)
        unfold sLeft
        rw [← e1, ← e2]; rfl
    · refine opR h (-1) 8 ?_ ?_
      · rw [q_x_dies, em_hasHand d h.rl, bI_k, if_pos c, if_neg (by decide), if_pos (by omega), Int.toNat_natCast, if_neg (show ¬ M.1 (13 + 14 + 1 * k) 4 = 0 from fun q => c2 (hp.2.2.2.symm.trans q)), q_x_refuse, bI_k]
      · rw [q_m_dies, m_isHandAt d (h.wb 8), bI_k, mV_bg, if_pos c, if_neg (by decide), m_lives d k (by omega), bI_k, mV_bg, decide_eq_false c2, if_pos (by decide), q_m_refuse, bI_k]
  · refine opR h (-1) 2 ?_ ?_
    · rw [q_x_dies, em_hasHand d h.rl, bI_k, if_neg c, if_pos rfl, q_x_refuse, bI_k]
    · rw [q_m_dies, m_isHandAt d (h.wb 2), bI_k, mV_bg, if_neg c, if_pos rfl, q_m_refuse, bI_k]
theorem o_lived (h : Inv M) (p : Int) : OpI d j_x_lived j_m_lived [vI p] M := by
  obtain ⟨hh, hb⟩ := h
  have h : Inv M := ⟨hh, hb⟩
  have e18 : M.1 0 18 = M.1 179 34 := hh.2.2.2.2.2.2.2.1
  have h18 := hh.2.2.2.2.2.2.2.2.2.2
  have hl := hb.2.2.2.2.1
  by_cases c : 0 ≤ p ∧ p ≤ 4
  · by_cases c2 : M.1 0 18 = 0
    · refine opR h (-1) 8 ?_ ?_
      · rw [q_x_lived, x_within, bI_k, if_pos c, if_neg (by decide), if_pos c2, q_x_refuse, bI_k]
      · rw [q_m_lived, m_isIn, bI_k, if_pos c, if_neg (by decide), if_pos (show (putI (putI (putI M 0 0 8) 179 1 0) 179 0 0).1 179 34 = 0 by simp [up2]; rw [← e18]; exact c2), q_m_refuse, bI_k]
    · have hl2 := hl (by omega)
      have hcs : p = 0 ∨ p = 1 ∨ p = 2 ∨ p = 3 ∨ p = 4 := by omega
      have cm : ¬ (putI (putI (putI M 0 0 0) 179 1 0) 179 0 0).1 179 34 = 0 := by simp [up2]; rw [← e18]; exact c2
      rcases hcs with rfl | rfl | rfl | rfl | rfl
      · refine opA h (M.1 190 0) ?_ ?_
        · rw [q_x_lived, x_within, bI_k, if_pos c, if_neg (by decide), if_neg c2, if_pos rfl, q_x_answer, bI_k, hl2.1]
        · rw [q_m_lived, m_isIn, bI_k, if_pos c, if_neg (by decide), if_neg cm, if_pos (by decide)]
          rfl
      · refine opA h (M.1 190 1) ?_ ?_
        · rw [q_x_lived, x_within, bI_k, if_pos c, if_neg (by decide), if_neg c2, if_neg (by decide), if_pos rfl, q_x_answer, bI_k, hl2.2.1]
        · rw [q_m_lived, m_isIn, bI_k, if_pos c, if_neg (by decide), if_neg cm, if_pos (by decide)]
          rfl
      · refine opA h (M.1 190 2) ?_ ?_
        · rw [q_x_lived, x_within, bI_k, if_pos c, if_neg (by decide), if_neg c2, if_neg (by decide), if_neg (by decide), if_pos rfl, q_x_answer, bI_k, hl2.2.2.1]
        · rw [q_m_lived, m_isIn, bI_k, if_pos c, if_neg (by decide), if_neg cm, if_pos (by decide)]
          rfl
      · refine opA h (M.1 190 3) ?_ ?_
        · rw [q_x_lived, x_within, bI_k, if_pos c, if_neg (by decide), if_neg c2, if_neg (by decide), if_neg (by decide), if_neg (by decide), if_pos rfl, q_x_answer, bI_k, hl2.2.2.2.1]
        · rw [q_m_lived, m_isIn, bI_k, if_pos c, if_neg (by decide), if_neg cm, if_pos (by decide)]
          rfl
      · refine opA h (M.1 190 4) ?_ ?_
        · rw [q_x_lived, x_within, bI_k, if_pos c, if_neg (by decide), if_neg c2, if_neg (by decide), if_neg (by decide), if_neg (by decide), if_neg (by decide), hl2.2.2.2.2.1, x_answerIf, bI_k]
          rcases hl2.2.2.2.2.2 with g | g <;> rw [g] <;> rfl
        · rw [q_m_lived, m_isIn, bI_k, if_pos c, if_neg (by decide), if_neg cm, if_pos (by decide)]
          rfl
  · refine opR h (-1) 5 ?_ ?_
    · rw [q_x_lived, x_within, bI_k, if_neg c, if_pos rfl, q_x_refuse, bI_k]
    · rw [q_m_lived, m_isIn, bI_k, if_neg c, if_pos rfl, q_m_refuse, bI_k]
end Ops1
