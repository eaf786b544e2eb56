/-! calls that do something -/
theorem up_dBr {V : Nat → Int} (hc : Wc V) {n : Int} {k : Nat} (hk : 73 ≤ k ∨ k < 5) : dBr V n k = V k := by
  unfold Wc at hc
  unfold dBr
  cases okBr V n
  · rfl
  · show sc _ _ k = V k
    rw [sc_n (by omega), up1_n (by omega), up1_n (by omega)]
theorem up_dSp {V : Nat → Int} (hc : Wc V) {k : Nat} (hk : 73 ≤ k ∨ k < 5) : dSp V k = V k := by
  unfold Wc at hc
  unfold dSp
  cases okSp V
  · rfl
  · show sc _ _ k = V k
    rw [sc_n (by omega), up1_n (by omega)]
theorem up_dT {V : Nat → Int} {a b p k : Nat} (hb : b < 8) (hk : 73 ≤ k ∨ k < 5) : dT V a b p k = V k := by
  unfold dT
  cases okT V a b p
  · rfl
  · exact up1_n (by omega)
theorem up_dN {V : Nat → Int} {p k : Nat} {w : Bool} (hb : p < 6) (hk : 73 ≤ k ∨ k < 5) : dN V p w k = V k := by
  unfold dN
  cases okN V p w
  · rfl
  · exact up1_n (by omega)
theorem up_dC {V : Nat → Int} {a k : Nat} (hb : a < 8) (hk : 73 ≤ k ∨ k < 5) : dC V a k = V k := by
  unfold dC
  cases okC' V a
  · rfl
  · show up1 _ 8 _ k = V k
    rw [up1_n (by omega), up1_n (by omega)]
section Ops3
variable {M : Mem} (d : Nat)
theorem mV_bf {M1 : Mem} (hf : Fe 11 M M1) (s : Int) : mV (putI (putI (putI M1 0 0 s) 179 1 0) 179 0 0) = mV M := mV_bg.trans (mV_fe hf)
theorem o_make (h : Inv M) (n : Int) : OpI d j_x_make j_m_make [vI n] M := by
  by_cases c : 1 ≤ n ∧ n ≤ 999
  · obtain ⟨M1, e1, e2, e3⟩ := em_brew d h.rl h.wf n c
    cases ck : okBr (mV M) n
    · rw [ck] at e1
      have e2' : Rl M1 11 (mV M) := by
        unfold dBr at e2; rw [ck] at e2; exact e2
      refine opDR h 9 e3 e2' (-1) ?_ ?_
      · rw [q_x_make, x_within, bI_k, if_pos c, if_neg (by decide), e1, bI_k, if_pos b01_f, q_x_refuse, bI_k]
      · rw [q_m_make, m_isIn, bI_k, if_pos c, if_neg (by decide), m_makes d (by rw [mV_bf e3]; exact h.wf) n c, bI_k, mV_bf e3, ck, if_pos b01_f, q_m_refuse, bI_k]
        unfold dBr
        rw [ck, cond_false, ← mV_bf e3 9, set_self]
    · rw [ck] at e1
      refine opD h (dBr (mV M) n) (fun k hk => up_dBr h.wc (Or.inl hk)) (up_dBr h.wc (by omega)) (up_dBr h.wc (by omega)) e3 e2 (wf_Br h.wf c.1) (dBr (mV M) n 5) ?_ ?_
      · rw [q_x_make, x_within, bI_k, if_pos c, if_neg (by decide), e1, bI_k, if_neg (by decide), q_x_answer, bI_k, e2.2.1.2.2.1]
      · rw [q_m_make, m_isIn, bI_k, if_pos c, if_neg (by decide), m_makes d (by rw [mV_bf e3]; exact h.wf) n c, bI_k, mV_bf e3, ck, if_neg (by decide), set_at]
  · refine opR h (-1) 5 ?_ ?_
    · rw [q_x_make, x_within, bI_k, if_neg c, if_pos rfl, q_x_refuse, bI_k]
    · rw [q_m_make, m_isIn, bI_k, if_neg c, if_pos rfl, q_m_refuse, bI_k]
theorem o_use (h : Inv M) : OpI d j_x_use j_m_use [] M := by
  obtain ⟨M1, e1, e2, e3⟩ := em_spend d h.rl h.wf
  cases ck : okSp (mV M)
  · rw [ck] at e1
    have e2' : Rl M1 11 (mV M) := by
      unfold dSp at e2; rw [ck] at e2; exact e2
    refine opDR h 9 e3 e2' (-1) ?_ ?_
    · rw [q_x_use, e1, bI_k, if_pos b01_f, q_x_refuse, bI_k]
    · rw [q_m_use, m_uses d (by rw [mV_bf e3]; exact h.wf), bI_k, mV_bf e3, ck, if_pos b01_f, q_m_refuse, bI_k]
      unfold dSp
      rw [ck, cond_false, ← mV_bf e3 9, set_self]
  · rw [ck] at e1
    refine opD h (dSp (mV M)) (fun k hk => up_dSp h.wc (Or.inl hk)) (up_dSp h.wc (by omega)) (up_dSp h.wc (by omega)) e3 e2 (wf_Sp h.wf) (dSp (mV M) 5) ?_ ?_
    · rw [q_x_use, e1, bI_k, if_neg (by decide), q_x_answer, bI_k, e2.2.1.2.2.1]
    · rw [q_m_use, m_uses d (by rw [mV_bf e3]; exact h.wf), bI_k, mV_bf e3, ck, if_neg (by decide), set_at]
theorem o_capture (h : Inv M) (p : Int) : OpI d j_x_capture j_m_capture [vI p] M := by
  have hc := h.wc
  unfold Wc at hc
  by_cases c : 0 ≤ p ∧ p < mV M 1
  · obtain ⟨a, rfl⟩ : ∃ a : Nat, p = (a : Int) := ⟨p.toNat, by omega⟩
    obtain ⟨M1, e1, e2, e3⟩ := em_seize d h.rl a c.2
    cases ck : okC' (mV M) a
    · rw [ck] at e1
      have e2' : Rl M1 11 (mV M) := by
        unfold dC at e2; rw [ck] at e2; exact e2
      refine opDR h 9 e3 e2' (-1) ?_ ?_
      · rw [q_x_capture, em_hasHand d h.rl, bI_k, if_pos c, if_neg (by decide), e1, bI_k, if_pos b01_f, q_x_refuse, bI_k]
      · rw [q_m_capture, m_isHandAt d (by rw [mV_bf e3]; exact h.wc), bI_k, mV_bf e3, if_pos c, if_neg (by decide), m_captures d (by rw [mV_bf e3]; exact h.wf) a (by rw [mV_bf e3]; exact c.2), bI_k, mV_bf e3, ck, if_pos b01_f, q_m_refuse, bI_k]
        unfold dC
        rw [ck, cond_false, ← mV_bf e3 9, set_self]
    · rw [ck] at e1
      refine opD h (dC (mV M) a) (fun k hk => up_dC (by omega) (Or.inl hk)) (up_dC (by omega) (by omega)) (up_dC (by omega) (by omega)) e3 e2 (wf_C h.wf c.2) (dC (mV M) a 8) ?_ ?_
      · rw [q_x_capture, em_hasHand d h.rl, bI_k, if_pos c, if_neg (by decide), e1, bI_k, if_neg (by decide), q_x_answer, bI_k, e2.2.1.2.2.2.2.2.1]
      · rw [q_m_capture, m_isHandAt d (by rw [mV_bf e3]; exact h.wc), bI_k, mV_bf e3, if_pos c, if_neg (by decide), m_captures d (by rw [mV_bf e3]; exact h.wf) a (by rw [mV_bf e3]; exact c.2), bI_k, mV_bf e3, ck, if_neg (by decide), set_at]
  · refine opR h (-1) 2 ?_ ?_
    · rw [q_x_capture, em_hasHand d h.rl, bI_k, if_neg c, if_pos rfl, q_x_refuse, bI_k]
    · rw [q_m_capture, m_isHandAt d (h.wb 2), bI_k, mV_bg, if_neg c, if_pos rfl, q_m_refuse, bI_k]
theorem o_teach (h : Inv M) (x y z : Int) : OpI d j_x_teach j_m_teach [vI x, vI y, vI z] M := by
  have hc := h.wc
  unfold Wc at hc
  by_cases c1 : 0 ≤ x ∧ x < mV M 1
  · by_cases c2 : 0 ≤ y ∧ y < mV M 1
    · by_cases c3 : 0 ≤ z ∧ z < mV M 0
      · obtain ⟨a, rfl⟩ : ∃ a : Nat, x = (a : Int) := ⟨x.toNat, by omega⟩
        obtain ⟨b, rfl⟩ : ∃ a : Nat, y = (a : Int) := ⟨y.toNat, by omega⟩
        obtain ⟨p, rfl⟩ : ∃ a : Nat, z = (a : Int) := ⟨z.toNat, by omega⟩
        obtain ⟨M1, e1, e2, e3⟩ := em_teach d h.rl a b p c1.2 c2.2 c3.2
        cases ck : okT (mV M) a b p
        · rw [ck] at e1
          have e2' : Rl M1 11 (mV M) := by
            unfold dT at e2; rw [ck] at e2; exact e2
          refine opDR h 9 e3 e2' (-1) ?_ ?_
          · rw [q_x_teach, em_hasHand d h.rl, bI_k, if_pos c1, if_neg (by decide), em_hasHand d h.rl, bI_k, if_pos c2, if_neg (by decide), em_hasPart d h.rl, bI_k, if_pos c3, if_neg (by decide), e1, bI_k, if_pos b01_f, q_x_refuse, bI_k]
          · have hw : Wf (mV (putI (putI (putI M1 0 0 9) 179 1 0) 179 0 0)) := by rw [mV_bf e3]; exact h.wf
            rw [q_m_teach, m_isHandAt d hw.1, bI_k, mV_bf e3, if_pos c1, if_neg (by decide), m_isHandAt d hw.1, bI_k, mV_bf e3, if_pos c2, if_neg (by decide), m_isPartAt d hw.1, bI_k, mV_bf e3, if_pos c3, if_neg (by decide), m_teaches d hw a b p (by rw [mV_bf e3]; exact c1.2) (by rw [mV_bf e3]; exact c2.2) (by rw [mV_bf e3]; exact c3.2), bI_k, mV_bf e3, ck, if_pos b01_f, q_m_refuse, bI_k]
            unfold dT
            rw [ck, cond_false, ← mV_bf e3 9, set_self]
        · rw [ck] at e1
          have h1 : dT (mV M) a b p 1 = mV M 1 := up_dT (by omega) (by omega)
          refine opD h (dT (mV M) a b p) (fun k hk => up_dT (by omega) (Or.inl hk)) (up_dT (by omega) (by omega)) h1 e3 e2 (wf_T h.wf c2.2 c3.2) (dT (mV M) a b p (49 + b)) ?_ ?_
          · rw [q_x_teach, em_hasHand d h.rl, bI_k, if_pos c1, if_neg (by decide), em_hasHand d h.rl, bI_k, if_pos c2, if_neg (by decide), em_hasPart d h.rl, bI_k, if_pos c3, if_neg (by decide), e1, bI_k, if_neg (by decide), if_pos (by omega), Int.toNat_natCast, q_x_answer, bI_k]
            exact congrArg (fun v => some (some (vI v), _)) (e2.2.2.2.1 b (by rw [h1]; exact c2.2)).2.2.1
          · have hw : Wf (mV (putI (putI (putI M1 0 0 0) 179 1 0) 179 0 0)) := by rw [mV_bf e3]; exact h.wf
            rw [q_m_teach, m_isHandAt d hw.1, bI_k, mV_bf e3, if_pos c1, if_neg (by decide), m_isHandAt d hw.1, bI_k, mV_bf e3, if_pos c2, if_neg (by decide), m_isPartAt d hw.1, bI_k, mV_bf e3, if_pos c3, if_neg (by decide), m_teaches d hw a b p (by rw [mV_bf e3]; exact c1.2) (by rw [mV_bf e3]; exact c2.2) (by rw [mV_bf e3]; exact c3.2), bI_k, mV_bf e3, ck, if_neg (by decide), w32s (x := 49 + (b : Int)) (by omega), if_pos (by omega), show (49 + (b : Int)).toNat = 49 + b by omega, set_at]
      · refine opR h (-1) 2 ?_ ?_
        · rw [q_x_teach, em_hasHand d h.rl, bI_k, if_pos c1, if_neg (by decide), em_hasHand d h.rl, bI_k, if_pos c2, if_neg (by decide), em_hasPart d h.rl, bI_k, if_neg c3, if_pos rfl, q_x_refuse, bI_k]
        · rw [q_m_teach, m_isHandAt d (h.wb 2), bI_k, mV_bg, if_pos c1, if_neg (by decide), m_isHandAt d (h.wb 2), bI_k, mV_bg, if_pos c2, if_neg (by decide), m_isPartAt d (h.wb 2), bI_k, mV_bg, if_neg c3, if_pos rfl, q_m_refuse, bI_k]
    · refine opR h (-1) 2 ?_ ?_
      · rw [q_x_teach, em_hasHand d h.rl, bI_k, if_pos c1, if_neg (by decide), em_hasHand d h.rl, bI_k, if_neg c2, if_pos rfl, q_x_refuse, bI_k]
      · rw [q_m_teach, m_isHandAt d (h.wb 2), bI_k, mV_bg, if_pos c1, if_neg (by decide), m_isHandAt d (h.wb 2), bI_k, mV_bg, if_neg c2, if_pos rfl, q_m_refuse, bI_k]
  · refine opR h (-1) 2 ?_ ?_
    · rw [q_x_teach, em_hasHand d h.rl, bI_k, if_neg c1, if_pos rfl, q_x_refuse, bI_k]
    · rw [q_m_teach, m_isHandAt d (h.wb 2), bI_k, mV_bg, if_neg c1, if_pos rfl, q_m_refuse, bI_k]
theorem o_note (h : Inv M) (z : Int) (w : Bool) : OpI d j_x_note j_m_note [vI z, vI (b01 w)] M := by
  have hc := h.wc
  unfold Wc at hc
  by_cases c3 : 0 ≤ z ∧ z < mV M 0
  · obtain ⟨p, rfl⟩ : ∃ a : Nat, z = (a : Int) := ⟨z.toNat, by omega⟩
    have key : ∃ M', (if b01 w = 0 then C2 d j_em_burnDown [vR 1 11, vI (p : Int)] M else C2 d j_em_writeDown [vR 1 11, vI (p : Int)] M) = some (some (vI (b01 (okN (mV M) p w))), M') ∧ Rl M' 11 (dN (mV M) p w) ∧ Fe 11 M M' := by
      cases w
      · exact em_burn d h.rl p c3.2
      · exact em_write d h.rl p c3.2
    obtain ⟨M1, e1, e2, e3⟩ := key
    have hx : C2 d j_x_note [vR 11 0, vI (p : Int), vI (b01 w)] M = (bI (if b01 w = 0 then C2 d j_em_burnDown [vR 1 11, vI (p : Int)] M else C2 d j_em_writeDown [vR 1 11, vI (p : Int)] M) fun x6 M5 => if x6 = 0 then (bI (C2 d j_x_deny [vR 11 0, vI 9] M5) fun x8 M7 => if x8 = 0 ∨ x8 = 1 then some (some (vI x8), M7) else none) else (bI (C2 d j_x_grant [vR 11 0] M5) fun x10 M9 => if x10 = 0 ∨ x10 = 1 then some (some (vI x10), M9) else none)) := by
      rw [q_x_note, em_hasPart d h.rl, bI_k, if_pos c3, if_neg (by decide)]
      cases w
      · rfl
      · rfl
    rw [e1, bI_k] at hx
    cases ck : okN (mV M) p w
    · rw [ck] at hx
      have e2' : Rl M1 11 (mV M) := by
        unfold dN at e2; rw [ck] at e2; exact e2
      refine opDR h 9 e3 e2' 0 ?_ ?_
      · rw [hx, if_pos b01_f, q_x_deny, bI_k, if_pos (by decide)]
      · have hw : Wf (mV (putI (putI (putI M1 0 0 9) 179 1 0) 179 0 0)) := by rw [mV_bf e3]; exact h.wf
        rw [q_m_note, m_isPartAt d hw.1, bI_k, mV_bf e3, if_pos c3, if_neg (by decide), m_notes d hw p (by rw [mV_bf e3]; exact c3.2), bI_k, mV_bf e3, ck, if_pos b01_f, q_m_no, bI_k, if_pos rfl]
        unfold dN
        rw [ck, cond_false, ← mV_bf e3 9, set_self]
    · rw [ck] at hx
      refine opD h (dN (mV M) p w) (fun k hk => up_dN (by omega) (Or.inl hk)) (up_dN (by omega) (by omega)) (up_dN (by omega) (by omega)) e3 e2 (wf_N h.wf c3.2) 1 ?_ ?_
      · rw [hx, if_neg (by decide), q_x_grant, bI_k, if_pos (by decide)]
      · have hw : Wf (mV (putI (putI (putI M1 0 0 0) 179 1 0) 179 0 0)) := by rw [mV_bf e3]; exact h.wf
        rw [q_m_note, m_isPartAt d hw.1, bI_k, mV_bf e3, if_pos c3, if_neg (by decide), m_notes d hw p (by rw [mV_bf e3]; exact c3.2), bI_k, mV_bf e3, ck, if_neg (by decide)]
  · refine opR h 0 2 ?_ ?_
    · rw [q_x_note, em_hasPart d h.rl, bI_k, if_neg c3, if_pos rfl, q_x_deny, bI_k, if_pos (by decide)]
    · rw [q_m_note, m_isPartAt d (h.wb 2), bI_k, mV_bg, if_neg c3, if_pos rfl, q_m_no, bI_k, if_pos (by decide)]
theorem o_supply (h : Inv M) (n : Int) (w : Bool) : OpI d j_x_supply j_m_supply [vI n, vI (b01 w)] M := by
  have h7 := h.wf.2.2.2.2.2.1
  have h5 := h.wf.2.2.2.1
  have hs := h.rl.2.1
  by_cases c : 1 ≤ n ∧ n ≤ 9999
  · cases w
    · refine opD h (up1 (mV M) 5 (min 9999 (mV M 5 + n))) (fun k hk => up1_n (by omega)) (up1_n (by omega)) (up1_n (by omega)) (Fe.p (by omega)) (h.rl.fld (k := 2) (by omega) _) (wf_upd h.wf (by unfold OkAt; omega)) (min 9999 (mV M 5 + n)) ?_ ?_
      · rw [q_x_supply, x_within, bI_k, if_pos c, if_neg (by decide), if_pos b01_f, mn_I, bI_k, q_x_answer, bI_k, hs.2.2.1, w32s (x := mV M 5 + n) (by omega)]
        exact congrArg (fun v => some (some (vI v), _)) (show up2 M.1 11 2 (min 9999 (mV M 5 + n)) 11 2 = _ from up2_same)
      · have e5 : (putI (putI (putI (putI M 11 2 (min 9999 (mV M 5 + n))) 0 0 0) 179 1 0) 179 0 0).1 184 5 = mV M 5 := congrFun (mV_bf (Fe.p (by omega)) 0) 5
        rw [q_m_supply, m_isIn, bI_k, if_pos c, if_neg (by decide), if_pos b01_f, mn_I, bI_k, e5, w32s (x := mV M 5 + n) (by omega), put_set0, set_at, up1_s, mV_bf (Fe.p (by omega))]
    · refine opD h (up1 (mV M) 7 (min 9999 (mV M 7 + n))) (fun k hk => up1_n (by omega)) (up1_n (by omega)) (up1_n (by omega)) (Fe.p (by omega)) (h.rl.fld (k := 4) (by omega) _) (wf_upd h.wf (by unfold OkAt; omega)) (min 9999 (mV M 7 + n)) ?_ ?_
      · rw [q_x_supply, x_within, bI_k, if_pos c, if_neg (by decide), if_neg (by decide), mn_I, bI_k, q_x_answer, bI_k, hs.2.2.2.2.1, w32s (x := mV M 7 + n) (by omega)]
        exact congrArg (fun v => some (some (vI v), _)) (show up2 M.1 11 4 (min 9999 (mV M 7 + n)) 11 4 = _ from up2_same)
      · have e5 : (putI (putI (putI (putI M 11 4 (min 9999 (mV M 7 + n))) 0 0 0) 179 1 0) 179 0 0).1 184 7 = mV M 7 := congrFun (mV_bf (Fe.p (by omega)) 0) 7
        rw [q_m_supply, m_isIn, bI_k, if_pos c, if_neg (by decide), if_neg (by decide), mn_I, bI_k, e5, w32s (x := mV M 7 + n) (by omega), put_set0, set_at, up1_s, mV_bf (Fe.p (by omega))]
  · refine opR h (-1) 5 ?_ ?_
    · rw [q_x_supply, x_within, bI_k, if_neg c, if_pos rfl, q_x_refuse, bI_k]
    · rw [q_m_supply, m_isIn, bI_k, if_neg c, if_pos rfl, q_m_refuse, bI_k]
theorem o_rule (h : Inv M) (p n : Int) : OpI d j_x_rule j_m_rule [vI p, vI n] M := by
  by_cases c0 : p = 0
  · subst c0
    by_cases c : 10 ≤ n ∧ n ≤ 99
    · refine opD h (up1 (mV M) 3 n) (fun k hk => up1_n (by omega)) (up1_n (by omega)) (up1_n (by omega)) (Fe.p (by omega)) (h.rl.fld (k := 0) (by omega) n) (wf_upd h.wf (by unfold OkAt; omega)) 1 ?_ ?_
      · rw [q_x_rule, if_pos rfl, x_within, bI_k, if_pos c, if_neg (by decide), q_x_grant, bI_k, if_pos (by decide)]
      · rw [q_m_rule, if_pos rfl, m_isIn, bI_k, if_pos c, if_neg (by decide), if_pos (by decide), show (w32 (3 + 0)).toNat = 3 by decide, put_set0, mV_bf (Fe.p (by omega))]
    · refine opR h 0 5 ?_ ?_
      · rw [q_x_rule, if_pos rfl, x_within, bI_k, if_neg c, if_pos rfl, if_neg (by decide), q_x_deny, bI_k, if_pos (by decide)]
      · rw [q_m_rule, if_pos rfl, m_isIn, bI_k, if_neg c, if_pos rfl, q_m_no, bI_k, if_pos (by decide)]
  · by_cases c1 : p = 1
    · subst c1
      by_cases c : 0 ≤ n ∧ n ≤ 999
      · refine opD h (up1 (mV M) 4 n) (fun k hk => up1_n (by omega)) (up1_n (by omega)) (up1_n (by omega)) (Fe.p (by omega)) (h.rl.fld (k := 1) (by omega) n) (wf_upd h.wf (by unfold OkAt; omega)) 1 ?_ ?_
        · rw [q_x_rule, if_neg (by decide), if_pos rfl, x_within, bI_k, if_pos c, if_neg (by decide), q_x_grant, bI_k, if_pos (by decide)]
        · rw [q_m_rule, if_neg (by decide), if_pos rfl, m_isIn, bI_k, if_pos c, if_neg (by decide), if_pos (by decide), show (w32 (3 + 1)).toNat = 4 by decide, put_set0, mV_bf (Fe.p (by omega))]
      · refine opR h 0 5 ?_ ?_
        · rw [q_x_rule, if_neg (by decide), if_pos rfl, x_within, bI_k, if_neg c, if_pos rfl, q_x_deny, bI_k, if_pos (by decide)]
        · rw [q_m_rule, if_neg (by decide), if_pos rfl, m_isIn, bI_k, if_neg c, if_pos rfl, q_m_no, bI_k, if_pos (by decide)]
    · refine opR h 0 5 ?_ ?_
      · rw [q_x_rule, if_neg c0, if_neg c1, q_x_deny, bI_k, if_pos (by decide)]
      · rw [q_m_rule, if_neg c0, if_neg c1, q_m_no, bI_k, if_pos (by decide)]
theorem o_leak (h : Inv M) (z : Int) (w : Bool) : OpI d j_x_leak j_m_leak [vI z, vI (b01 w)] M := by
  have hc := h.wc
  unfold Wc at hc
  have h8 := h.wf.2.2.2.2.2.2.1
  have hs : M.1 11 5 = mV M 8 := h.rl.2.1.2.2.2.2.2.1
  by_cases c3 : 0 ≤ z ∧ z < mV M 0
  · obtain ⟨p, rfl⟩ : ∃ a : Nat, z = (a : Int) := ⟨z.toNat, by omega⟩
    have ex := xx_63 h8 (one_63 p (by omega))
    by_cases ck : bt (mV M 8) p = w
    · refine opR h 0 9 ?_ ?_
      · rw [q_x_leak, em_hasPart d h.rl, bI_k, if_pos c3, if_neg (by decide), hs, bit_is (by omega), ck]
        cases w <;> simp [b01, q_x_deny, bI_k]
      · have e8 : (putI (putI (putI M 0 0 9) 179 1 0) 179 0 0).1 184 8 = mV M 8 := congrFun (mV_bg (M := M) (s := 9)) 8
        rw [q_m_leak, m_isPartAt d (h.wb 9), bI_k, mV_bg, if_pos c3, if_neg (by decide), m_has d _ p (by omega), bI_k, e8, ck, if_pos rfl, q_m_no, bI_k, if_pos (by decide)]
    · refine opD h (up1 (mV M) 8 (xxor (mV M 8) (xshl 1 (p : Int)))) (fun k hk => up1_n (by omega)) (up1_n (by omega)) (up1_n (by omega)) (Fe.p (by omega)) (h.rl.fld (k := 5) (by omega) _) (wf_upd h.wf (by unfold OkAt; omega)) 1 ?_ ?_
      · rw [q_x_leak, em_hasPart d h.rl, bI_k, if_pos c3, if_neg (by decide), hs, bit_is (by omega)]
        cases w
        · rw [show bt (mV M 8) p = true by revert ck; cases bt (mV M 8) p <;> simp]
          simp [b01, q_x_grant, bI_k]
        · rw [show bt (mV M 8) p = false by revert ck; cases bt (mV M 8) p <;> simp]
          simp [b01, q_x_grant, bI_k]
      · have e8 : (putI (putI (putI (putI M 11 5 (xxor (mV M 8) (xshl 1 (p : Int)))) 0 0 0) 179 1 0) 179 0 0).1 184 8 = mV M 8 := congrFun (mV_bf (Fe.p (by omega)) 0) 8
        rw [q_m_leak, m_isPartAt d (by rw [mV_bf (Fe.p (by omega))]; exact h.wc), bI_k, mV_bf (Fe.p (by omega)), if_pos c3, if_neg (by decide), m_has d _ p (by omega), bI_k, e8, if_neg (show ¬ b01 (bt (mV M 8) p) = b01 w by revert ck; cases bt (mV M 8) p <;> cases w <;> simp [b01]), put_set0, mV_bf (Fe.p (by omega))]
  · refine opR h 0 2 ?_ ?_
    · rw [q_x_leak, em_hasPart d h.rl, bI_k, if_neg c3, if_pos rfl, q_x_deny, bI_k, if_pos (by decide)]
    · rw [q_m_leak, m_isPartAt d (h.wb 2), bI_k, mV_bg, if_neg c3, if_pos rfl, q_m_no, bI_k, if_pos (by decide)]
end Ops3
