/-! pace; tries; the worst loss; feed -/
def fPc (V : Nat → Int) (p : Nat) (s : Int) : Int := min s (V (9 + p))
theorem pc_b {V : Nat → Int} (hw : Wf V) (x : Int) (hx : 1 ≤ x ∧ x ≤ 100) : ∀ n : Nat, (n : Int) ≤ V 0 → 1 ≤ itr (fPc V) x n ∧ itr (fPc V) x n ≤ 100
  | 0, _ => hx
  | n + 1, hn => by
    have h1 := pc_b hw x hx n (by omega)
    have h2 := (hw.2.2.2.2.2.2.2.1 n (by omega)).1
    rw [itr_s]
    unfold fPc at *
    omega
theorem pc_eq {V : Nat → Int} (hw : Wf V) : ∀ n, ((n + 1 : Nat) : Int) ≤ V 0 → itr (fPc V) 100 (n + 1) = itr (fPc V) 99 (n + 1)
  | 0, h => by
    have h2 := (hw.2.2.2.2.2.2.2.1 0 (by omega)).1
    show min 100 (V (9 + 0)) = min 99 (V (9 + 0))
    omega
  | n + 1, h => by
    rw [itr_s, itr_s (x := 99), pc_eq hw n (by omega)]
def tSum (V : Nat → Int) (x : Int) : Nat → Int := itr (fun p s => bif bt x p then s else s + V (15 + p)) 0
def tPrd (V : Nat → Int) (x : Int) : Nat → Int := itr (fun p s => bif bt x p then s else s * V (15 + p)) 1
theorem tSum_b {V : Nat → Int} (hw : Wf V) (x : Int) : ∀ n : Nat, (n : Int) ≤ V 0 → 0 ≤ tSum V x n ∧ tSum V x n ≤ 9 * (n : Int)
  | 0, _ => show (0 : Int) ≤ 0 ∧ (0 : Int) ≤ 9 * ((0 : Nat) : Int) from ⟨by decide, by decide⟩
  | n + 1, hn => by
    have h1 := tSum_b hw x n (by omega)
    have h2 := (hw.2.2.2.2.2.2.2.1 n (by omega)).2.1
    show 0 ≤ (bif bt x n then tSum V x n else tSum V x n + V (15 + n)) ∧ (bif bt x n then tSum V x n else tSum V x n + V (15 + n)) ≤ _
    cases bt x n
    · rw [cond_false]; omega
    · rw [cond_true]; omega
theorem tPrd_b {V : Nat → Int} (hw : Wf V) (x : Int) : ∀ n : Nat, (n : Int) ≤ V 0 → 1 ≤ tPrd V x n ∧ tPrd V x n ≤ 9 ^ n
  | 0, _ => show (1 : Int) ≤ 1 ∧ (1 : Int) ≤ 9 ^ 0 from ⟨by decide, by decide⟩
  | n + 1, hn => by
    have h1 := tPrd_b hw x n (by omega)
    have h2 := (hw.2.2.2.2.2.2.2.1 n (by omega)).2.1
    show 1 ≤ (bif bt x n then tPrd V x n else tPrd V x n * V (15 + n)) ∧ (bif bt x n then tPrd V x n else tPrd V x n * V (15 + n)) ≤ 9 ^ n * 9
    cases bt x n
    · rw [cond_false]
      constructor
      · have := Int.mul_le_mul h1.1 h2.1 (by decide) (by omega)
        omega
      · exact Int.mul_le_mul h1.2 h2.2 (by omega) (by omega)
    · rw [cond_true]; omega
theorem tPrd_c {V : Nat → Int} (hw : Wf V) (x : Int) (n : Nat) (hn : (n : Int) ≤ V 0) : 1 ≤ tPrd V x n ∧ tPrd V x n ≤ 531441 := by
  have h := tPrd_b hw x n hn
  have hc := hw.1
  unfold Wc at hc
  have h6 : n ≤ 6 := by omega
  have : (9 : Int) ^ n ≤ 531441 := by
    have hcs : n = 0 ∨ n = 1 ∨ n = 2 ∨ n = 3 ∨ n = 4 ∨ n = 5 ∨ n = 6 := by omega
    rcases hcs with rfl | rfl | rfl | rfl | rfl | rfl | rfl <;> decide
  omega
section Ops6
variable {M : Mem} {e : Nat} {V : Nat → Int} (d : Nat)
theorem em_pace (h : Rl M e V) : C2 d j_em_yearsBetweenUses [vR 1 e] M = some (some (vI (w32 (itr (fPc V) 99 (V 0).toNat - 1))), M) := by
  have hc := h.1
  have h7 := h.2.1.2.2.2.2.2.2.2.1
  unfold Wc at hc
  rw [q_em_yearsBetweenUses]
  refine it_loop (P := fun i s => E2 d r_em_yearsBetweenUses 4 [(0, vR 1 e), (1, vI s), (2, vI (i : Int))] [] M) (r := fun s => some (some (vI (w32 (s - 1))), M)) (f := fPc V) (x := 99) (fun _ _ => True) 0 (V 0).toNat (by omega) trivial (fun i s h1 h2 hq => ⟨?_, trivial⟩) (fun s hq => ?_)
  · have hp := h.2.2.1 i (by omega)
    rw [q_em_yearsBetweenUses_4, if_pos (by omega), if_pos (by omega), Int.toNat_natCast, hp.1, mn_I, bI_k, w32n (by omega)]
    rfl
  · rw [q_em_yearsBetweenUses_4, if_neg (by omega)]
theorem m_pace10 (hc : Wc (mV M)) : E2 d r_m_pace 10 [(0, vR 12 179), (1, vI 100), (2, vI 0)] [] M = if mV M 0 = 0 then some (some (vI (-1)), putI M 179 0 8) else some (some (vI (w32 (itr (fPc (mV M)) 100 (mV M 0).toNat - 1))), M) := by
  have h7 : M.1 184 0 = mV M 0 := rfl
  unfold Wc at hc
  refine it_loop (P := fun i s => E2 d r_m_pace 10 [(0, vR 12 179), (1, vI s), (2, vI (i : Int))] [] M) (r := fun s => if mV M 0 = 0 then some (some (vI (-1)), putI M 179 0 8) else some (some (vI (w32 (s - 1))), M)) (f := fPc (mV M)) (x := 100) (fun _ _ => True) 0 (mV M 0).toNat (by omega) trivial (fun i s h1 h2 hq => ⟨?_, trivial⟩) (fun s hq => ?_)
  · rw [q_m_pace_10, if_pos (by omega), w32s (x := 9 + (i : Int)) (by omega), if_pos (by omega), show (9 + (i : Int)).toNat = 9 + i by omega, mn_I, bI_k, w32n (by omega)]
    rfl
  · rw [q_m_pace_10, if_neg (by omega), m_refR]
    rfl
theorem o_pace (h : Inv M) : OpI d j_x_pace j_m_pace [] M := by
  have h7 : M.1 11 7 = mV M 0 := h.rl.2.1.2.2.2.2.2.2.2.1
  have hc := h.wc
  unfold Wc at hc
  by_cases c : mV M 0 = 0
  · refine opR h (-1) 8 ?_ ?_
    · rw [q_x_pace, h7, if_pos c, x_refR]
    · rw [q_m_pace, m_pace10 d (h.wb 8), mV_bg, if_pos c]
  · refine opA h (w32 (itr (fPc (mV M)) 99 (mV M 0).toNat - 1)) ?_ ?_
    · rw [q_x_pace, h7, if_neg c, em_pace d h.rl, bI_k, x_ansR]
    · rw [q_m_pace, m_pace10 d (h.wb 0), mV_bg, if_neg c]
      obtain ⟨n, hn⟩ : ∃ n, (mV M 0).toNat = n + 1 := ⟨(mV M 0).toNat - 1, by omega⟩
      rw [hn, pc_eq h.wf n (by omega)]
theorem em_one (h : Rl M e V) (hw : Wf V) : C2 d j_em_triesOneByOne [vR 1 e] M = some (some (vI (tSum V (V 8) (V 0).toNat)), M) := by
  have hc := h.1
  have h7 := h.2.1.2.2.2.2.2.2.2.1
  have h5 := h.2.1.2.2.2.2.2.1
  unfold Wc at hc
  rw [q_em_triesOneByOne]
  refine it_loop (P := fun i s => E2 d r_em_triesOneByOne 4 [(0, vR 1 e), (1, vI s), (2, vI (i : Int))] [] M) (r := fun s => some (some (vI s), M)) (f := fun p s => bif bt (V 8) p then s else s + V (15 + p)) (x := 0) (fun n s => 0 ≤ s ∧ s ≤ 9 * (n : Int)) 0 (V 0).toNat (by omega) (show (0 : Int) ≤ 0 ∧ (0 : Int) ≤ 9 * ((0 : Nat) : Int) from ⟨by decide, by decide⟩) (fun i s h1 h2 hq => ?_) (fun s hq => ?_)
  · have hp := h.2.2.1 i (by omega)
    have hb := (hw.2.2.2.2.2.2.2.1 i (by omega)).2.1
    rw [q_em_triesOneByOne_4, if_pos (by omega), h5, bit_is (by omega), w32s (x := s + 0) (by omega), Int.add_zero, if_pos (show (0 : Int) ≤ i ∧ (i : Int) < 6 by omega), Int.toNat_natCast, hp.2.1, w32s (x := s + V (15 + i)) (by omega), w32n (by omega)]
    cases bt (V 8) i
    · exact ⟨rfl, by rw [cond_false]; omega⟩
    · exact ⟨rfl, by rw [cond_true]; omega⟩
  · rw [q_em_triesOneByOne_4, if_neg (by omega)]
theorem em_once (h : Rl M e V) (hw : Wf V) (x : Int) : C2 d j_em_triesAtOnce [vR 1 e, vI x] M = some (some (vI (tPrd V x (V 0).toNat)), M) := by
  have hc := h.1
  have h7 := h.2.1.2.2.2.2.2.2.2.1
  unfold Wc at hc
  rw [q_em_triesAtOnce]
  refine up_loop (P := fun i => E2 d r_em_triesAtOnce 4 [(0, vR 1 e), (1, vI x), (2, vI (tPrd V x i)), (3, vI (i : Int))] [] M) (n := (V 0).toNat) (fun i h2 => ?_) ?_ 0 (by omega)
  · have hp := h.2.2.1 i (by omega)
    have hb := tPrd_c hw x i (by omega)
    have hb2 := tPrd_c hw x (i + 1) (by omega)
    have es : tPrd V x (i + 1) = bif bt x i then tPrd V x i else tPrd V x i * V (15 + i) := rfl
    rw [q_em_triesAtOnce_4, if_pos (by omega), bit_is (by omega), Int.mul_one, w32s (x := tPrd V x i) (by omega), if_pos (show (0 : Int) ≤ i ∧ (i : Int) < 6 by omega), Int.toNat_natCast, hp.2.1, w32n (by omega)]
    cases hx : bt x i
    · rw [hx, cond_false] at es
      rw [if_neg (by decide), ← es, w32s (by omega)]
    · rw [hx, cond_true] at es
      rw [if_pos (by decide), es]
  · rw [q_em_triesAtOnce_4, if_neg (by omega)]
theorem m_triesOf (hw : Wf (mV M)) (x : Int) (w : Bool) : C2 d j_m_triesOf [vR 12 179, vI x, vI (b01 w)] M = some (some (vL (bif w then tPrd (mV M) x (mV M 0).toNat else tSum (mV M) x (mV M 0).toNat)), M) := by
  have hc := hw.1
  have h7 : M.1 184 0 = mV M 0 := rfl
  unfold Wc at hc
  rw [q_m_triesOf]
  cases w
  · rw [if_pos b01_f, cond_false]
    refine up_loop (P := fun i => E2 d r_m_triesOf 8 [(0, vR 12 179), (1, vI x), (2, vI (b01 false)), (3, vL (tSum (mV M) x i)), (5, vI (i : Int))] [] M) (n := (mV M 0).toNat) (fun i h2 => ?_) ?_ 0 (by omega)
    · have hb2 := tSum_b hw x (i + 1) (by omega)
      have es : tSum (mV M) x (i + 1) = bif bt x i then tSum (mV M) x i else tSum (mV M) x i + mV M (15 + i) := rfl
      rw [q_m_triesOf_8, if_pos (by omega), m_has d x i (by omega), bI_k, if_pos b01_f, w32s (x := 15 + (i : Int)) (by omega), if_pos (show (0 : Int) ≤ 15 + i ∧ 15 + (i : Int) < 1725 by omega), show (15 + (i : Int)).toNat = 15 + i by omega, w32n (by omega)]
      cases hx : bt x i
      · rw [hx, cond_false] at es
        rw [if_pos b01_f]
        have e2 : w64 (tSum (mV M) x i + M.1 184 (15 + i)) = tSum (mV M) x (i + 1) := by
          rw [show M.1 184 (15 + i) = mV M (15 + i) from rfl, ← es, w64s (by omega)]
        rw [e2]
      · rw [hx, cond_true] at es
        rw [if_neg (by decide), es]
    · rw [q_m_triesOf_8, if_neg (by omega)]
  · rw [if_neg (by decide), cond_true]
    refine up_loop (P := fun i => E2 d r_m_triesOf 8 [(0, vR 12 179), (1, vI x), (2, vI (b01 true)), (3, vL (tPrd (mV M) x i)), (5, vI (i : Int))] [] M) (n := (mV M 0).toNat) (fun i h2 => ?_) ?_ 0 (by omega)
    · have hb2 := tPrd_c hw x (i + 1) (by omega)
      have es : tPrd (mV M) x (i + 1) = bif bt x i then tPrd (mV M) x i else tPrd (mV M) x i * mV M (15 + i) := rfl
      rw [q_m_triesOf_8, if_pos (by omega), m_has d x i (by omega), bI_k, if_neg (show ¬ b01 true = 0 by decide), w32s (x := 15 + (i : Int)) (by omega), if_pos (show (0 : Int) ≤ 15 + i ∧ 15 + (i : Int) < 1725 by omega), show (15 + (i : Int)).toNat = 15 + i by omega, w32n (by omega)]
      cases hx : bt x i
      · rw [hx, cond_false] at es
        rw [if_pos b01_f]
        have e2 : w64 (tPrd (mV M) x i * M.1 184 (15 + i)) = tPrd (mV M) x (i + 1) := by
          rw [show M.1 184 (15 + i) = mV M (15 + i) from rfl, ← es, w64s (by omega)]
        rw [e2]
      · rw [hx, cond_true] at es
        rw [if_neg (by decide), es]
    · rw [q_m_triesOf_8, if_neg (by omega)]
theorem o_tries (h : Inv M) (p : Int) : OpL d j_x_tries j_m_tries [vI p] M := by
  have h5 : M.1 11 5 = mV M 8 := h.rl.2.1.2.2.2.2.2.1
  have hJ : ∀ (s : Int), (putI (putI (putI M 0 0 s) 179 1 0) 179 0 0).1 184 8 = mV M 8 := fun s => congrFun mV_bg 8
  by_cases c0 : p = 0
  · subst c0
    refine opAL h (tSum (mV M) (mV M 8) (mV M 0).toNat) ?_ ?_
    · rw [q_x_tries, if_pos rfl, em_one d h.rl h.wf, bI_k, q_x_answer, bI_k]
    · have e := m_triesOf d (wfb h 0) (mV M 8) false
      rw [show b01 false = 0 from rfl] at e
      rw [q_m_tries, m_isIn, bI_k, if_pos (show (0 : Int) ≤ 0 ∧ (0 : Int) ≤ 1 by decide), if_neg (by decide), if_neg (by decide), hJ, e, bL_k, mV_bg]
      rfl
  · by_cases c1 : p = 1
    · subst c1
      refine opAL h (tPrd (mV M) (mV M 8) (mV M 0).toNat) ?_ ?_
      · rw [q_x_tries, if_neg (by decide), if_pos rfl, h5, em_once d h.rl h.wf, bI_k, q_x_answer, bI_k]
      · have e := m_triesOf d (wfb h 0) (mV M 8) true
        rw [show b01 true = 1 from rfl] at e
        rw [q_m_tries, m_isIn, bI_k, if_pos (show (0 : Int) ≤ 1 ∧ (1 : Int) ≤ 1 by decide), if_neg (by decide), if_pos rfl, hJ, e, bL_k, mV_bg]
        rfl
    · refine opRL h (-1) 5 ?_ ?_
      · rw [q_x_tries, if_neg c0, if_neg c1, q_x_refuse, bI_k]
      · rw [q_m_tries, m_isIn, bI_k, if_neg (show ¬ (0 ≤ p ∧ p ≤ 1) by omega), if_pos rfl, q_m_refuse, bI_k]
/-- whose capture leaves the fewest tries -/
def nW (V : Nat → Int) (k : Nat) : Int := tPrd V (xor32 (V 8) (V (49 + k))) (V 0).toNat
def fWo (V : Nat → Int) (k : Nat) (s : Int × Int) : Int × Int := bif decide (V (57 + k) = 0) && (decide (s.1 < 0) || decide (nW V k < s.2)) then ((k : Int), nW V k) else s
def qW (s : Int × Int) : Prop := s.1 = -1 ∨ 0 ≤ s.1
theorem fWo_q {k : Nat} {s : Int × Int} (h : qW s) : qW (fWo V k s) := by
  unfold fWo
  cases decide (V (57 + k) = 0) && (decide (s.1 < 0) || decide (nW V k < s.2))
  · exact h
  · exact Or.inr (by show (0 : Int) ≤ k; omega)
theorem em_worst (h : Rl M e V) (hw : Wf V) : C2 d j_em_worstToLose [vR 1 e] M = some (some (vI (itr (fWo V) (-1, 0) (V 1).toNat).1), M) := by
  have hc := h.1
  have h8 := h.2.1.2.2.2.2.2.2.2.2.1
  have h5 := h.2.1.2.2.2.2.2.1
  unfold Wc at hc
  rw [q_em_worstToLose]
  refine it_loop (P := fun i s => E2 d r_em_worstToLose 6 [(0, vR 1 e), (1, vI s.1), (2, vI s.2), (3, vI (i : Int))] [] M) (r := fun s => some (some (vI s.1), M)) (f := fWo V) (x := (-1, 0)) (fun _ s => qW s) 0 (V 1).toNat (by omega) (Or.inl rfl) (fun i s h1 h2 hq => ⟨?_, fWo_q hq⟩) (fun s hq => ?_)
  · have hh := h.2.2.2.1 i (by omega)
    rw [q_em_worstToLose_6, if_pos (by omega), if_pos (by omega), Int.toNat_natCast, h5, hh.2.2.1, em_once d h hw, bI_k, if_pos (by omega), hh.2.2.2, w32n (by omega)]
    unfold fWo nW
    by_cases c : V (57 + i) = 0
    · rw [if_pos c, decide_eq_true c, Bool.true_and]
      rcases hq with hq | hq
      · rw [if_pos hq, decide_eq_true (show s.1 < 0 by omega)]; rfl
      · rw [if_neg (by omega), decide_eq_false (show ¬ s.1 < 0 by omega), Bool.false_or]
        by_cases c2 : tPrd V (xor32 (V 8) (V (49 + i))) (V 0).toNat < s.2
        · rw [if_pos c2, decide_eq_true c2]; rfl
        · rw [if_neg c2, decide_eq_false c2]; rfl
    · rw [if_neg c, decide_eq_false c, Bool.false_and]; rfl
  · rw [q_em_worstToLose_6, if_neg (by omega)]
theorem m_worst (hw : Wf (mV M)) : E2 d r_m_worstLoss 12 [(0, vR 12 179), (1, vI (-1)), (2, vL 0), (4, vI 0)] [] M = if (itr (fWo (mV M)) (-1, 0) (mV M 1).toNat).1 < 0 then some (some (vI (-1)), putI M 179 0 8) else some (some (vI (itr (fWo (mV M)) (-1, 0) (mV M 1).toNat).1), M) := by
  have hc := hw.1
  have h8 : M.1 184 1 = mV M 1 := rfl
  have e8 : M.1 184 8 = mV M 8 := rfl
  unfold Wc at hc
  have e := fun x => m_triesOf (M := M) d hw x true
  rw [show b01 true = 1 from rfl] at e
  refine it_loop (P := fun i s => E2 d r_m_worstLoss 12 [(0, vR 12 179), (1, vI s.1), (2, vL s.2), (4, vI (i : Int))] [] M) (r := fun s => if s.1 < 0 then some (some (vI (-1)), putI M 179 0 8) else some (some (vI s.1), M)) (f := fWo (mV M)) (x := (-1, 0)) (fun _ s => qW s) 0 (mV M 1).toNat (by omega) (Or.inl rfl) (fun i s h1 h2 hq => ⟨?_, fWo_q hq⟩) (fun s hq => ?_)
  · rw [q_m_worstLoss_12, if_pos (by omega), w32s (x := 49 + (i : Int)) (by omega), if_pos (by omega), show (49 + (i : Int)).toNat = 49 + i by omega, e8, show M.1 184 (49 + i) = mV M (49 + i) from rfl, e, bL_k, m_lives d i (by omega), bI_k, w32n (by omega), cond_true]
    simp only [ycmp_lt]
    unfold fWo nW
    by_cases c : mV M (57 + i) = 0
    · rw [decide_eq_true c, Bool.true_and, if_neg (by decide)]
      rcases hq with hq | hq
      · rw [if_pos (show s.1 < 0 by omega), decide_eq_true (show s.1 < 0 by omega)]; rfl
      · rw [if_neg (by omega), decide_eq_false (show ¬ s.1 < 0 by omega), Bool.false_or]
        by_cases c2 : tPrd (mV M) (xor32 (mV M 8) (mV M (49 + i))) (mV M 0).toNat < s.2
        · rw [if_pos c2, decide_eq_true c2]; rfl
        · rw [if_neg c2, decide_eq_false c2]; rfl
    · rw [decide_eq_false c, Bool.false_and, if_pos b01_f]; rfl
  · rw [q_m_worstLoss_12, if_neg (by omega), m_refR]
theorem o_worstLoss (h : Inv M) : OpI d j_x_worstLoss j_m_worstLoss [] M := by
  have hq : qW (itr (fWo (mV M)) (-1, 0) (mV M 1).toNat) := itr_ind (P := fun _ s => qW s) (Or.inl rfl) _ (fun _ _ _ hs => fWo_q hs)
  rcases hq with c | c
  · refine opR h (-1) 8 ?_ ?_
    · rw [q_x_worstLoss, em_worst d h.rl h.wf, bI_k, x_answerOr, bI_k, if_pos c, c]
    · rw [q_m_worstLoss, m_worst d (wfb h 8), mV_bg, if_pos (by omega)]
  · refine opA h (itr (fWo (mV M)) (-1, 0) (mV M 1).toNat).1 ?_ ?_
    · rw [q_x_worstLoss, em_worst d h.rl h.wf, bI_k, x_answerOr, bI_k, if_neg (by omega)]
    · rw [q_m_worstLoss, m_worst d (wfb h 0), mV_bg, if_neg (by omega)]
end Ops6
