/-! years of the class -/
theorem sFad_c {V W : Nat → Int} (h0 : W 0 = V 0) (h : ∀ p : Nat, (p : Int) < V 0 → W (27 + p) = V (27 + p) ∧ W (9 + p) = V (9 + p)) (y : Int) : sFad W y = sFad V y := by
  unfold sFad
  rw [h0]
  apply un_congr
  · intro i hi; rw [(h i (by omega)).1, (h i (by omega)).2]
  · intros; rfl
def mx (V W : Nat → Int) (i : Nat) : Nat → Int := fun k => if (33 ≤ k ∧ k < 33 + i) ∨ (49 ≤ k ∧ k < 49 + i) ∨ (57 ≤ k ∧ k < 57 + i) then W k else V k
theorem mx_i {V W : Nat → Int} {i k : Nat} (h : (33 ≤ k ∧ k < 33 + i) ∨ (49 ≤ k ∧ k < 49 + i) ∨ (57 ≤ k ∧ k < 57 + i)) : mx V W i k = W k := if_pos h
theorem mx_n {V W : Nat → Int} {i k : Nat} (h : ¬ ((33 ≤ k ∧ k < 33 + i) ∨ (49 ≤ k ∧ k < 49 + i) ∨ (57 ≤ k ∧ k < 57 + i))) : mx V W i k = V k := if_neg h
theorem mx_s {V W : Nat → Int} {i : Nat} (hi : i < 8) : up1 (up1 (up1 (mx V W i) (33 + i) (W (33 + i))) (49 + i) (W (49 + i))) (57 + i) (W (57 + i)) = mx V W (i + 1) := by
  funext k
  by_cases c : k = 57 + i
  · subst c
    rw [up1_s, mx_i (by omega)]
  · rw [up1_n c]
    by_cases c1 : k = 49 + i
    · subst c1
      rw [up1_s, mx_i (by omega)]
    · rw [up1_n c1]
      by_cases c2 : k = 33 + i
      · subst c2
        rw [up1_s, mx_i (by omega)]
      · rw [up1_n c2]
        by_cases c3 : (33 ≤ k ∧ k < 33 + i) ∨ (49 ≤ k ∧ k < 49 + i) ∨ (57 ≤ k ∧ k < 57 + i)
        · rw [mx_i c3, mx_i (by omega)]
        · rw [mx_n c3, mx_n (by omega)]
theorem up1_c {X : Nat → Int} {j k : Nat} {v w : Int} (h : j ≠ k) : up1 (up1 X j v) k w = up1 (up1 X k w) j v := by
  funext i
  by_cases c : i = k
  · subst c
    rw [up1_s, up1_n (fun q => h q.symm), up1_s]
  · rw [up1_n c]
    by_cases c2 : i = j
    · subst c2
      rw [up1_s, up1_s]
    · rw [up1_n c2, up1_n c2, up1_n c]
def mr (W U : Nat → Int) (i : Nat) : Nat → Int := fun k => if 27 ≤ k ∧ k < 27 + i then W k else U k
theorem mr_i {W U : Nat → Int} {i k : Nat} (h : 27 ≤ k ∧ k < 27 + i) : mr W U i k = W k := if_pos h
theorem mr_n {W U : Nat → Int} {i k : Nat} (h : ¬ (27 ≤ k ∧ k < 27 + i)) : mr W U i k = U k := if_neg h
section YrC
variable {M : Mem} {e : Nat} {V : Nat → Int} (d : Nat)
theorem em_store (h : Rl M e V) (y : Int) : C2 d j_em_storeAfter [vR 1 e, vI y] M = some (some (vI (min 9999 (w32 (V 7 + w32 (y * flow V))))), M) := by
  have h0 := h
  obtain ⟨hc, hs, hp, hh, hq⟩ := h
  unfold Wc at hc
  rw [q_em_storeAfter]
  refine sm_loop (r := fun s => some (some (vI (min 9999 (w32 (V 7 + w32 (y * s))))), M)) (u := flow V) (P := fun i s => E2 d r_em_storeAfter 4 [(0, vR 1 e), (1, vI y), (2, vI s), (3, vI (i : Int))] [] M) rfl (fun i s hi hr => ?_) (fun s hr => ?_)
  · have h1 := hq i (by omega)
    rw [q_em_storeAfter_4, if_pos (by omega), if_pos (show (0 : Int) ≤ i ∧ (i : Int) < 4 by omega), Int.toNat_natCast, h1.1, h1.2, hs.2.1, w32n (by omega)]
    by_cases c : V 4 < V (65 + i)
    · rw [if_pos c, decide_eq_true c]; rfl
    · rw [if_neg c, decide_eq_false c, if_pos (by omega)]; rfl
  · rw [q_em_storeAfter_4, if_neg (by omega), mn_I, bI_k, hs.2.2.2.2.1]
theorem em_years (h : Rl M e V) (hw : Wf V) (n : Int) (hn : 1 ≤ n ∧ n ≤ 99) : ∃ M', C2 d j_em_passYears [vR 1 e, vI n] M = some (some (vI (sDie V n)), M') ∧ Rl M' e (vY V n) ∧ Fe e M M' := by
  have hc := hw.1
  unfold Wc at hc
  have hfl := flow_b hw
  have hpos : 0 ≤ n * flow V ∧ n * flow V ≤ 99 * 396 := ⟨Int.mul_nonneg (by omega) hfl.1, Int.mul_le_mul hn.2 hfl.2 hfl.1 (by omega)⟩
  rw [q_em_passYears, em_fadedWithin d h, bI_k]
  refine ex_loop (P := fun i (s : Mem × Int) => E2 d r_em_passYears 8 [(0, vR 1 e), (1, vI n), (2, vI (sFad V n)), (3, vI s.2), (4, vI (i : Int))] [] s.1) (R := fun r => ∃ M', r = some (some (vI (sDie V n)), M') ∧ Rl M' e (vY V n) ∧ Fe e M M') (fun i s => Rl s.1 e (mx V (vY V n) i) ∧ Fe e M s.1 ∧ s.2 = unB (fun h => decide (V (57 + h) = 0) && decide (sLeft V h ≤ n)) (fun h => xshl 1 (h : Int)) i) (V 1).toNat (fun i s hi hq => ?_) (fun s hq => ?_) (M, 0) ⟨by rw [show mx V (vY V n) 0 = V from funext fun k => mx_n (by omega)]; exact h, Fe.rfl, rfl⟩
  · obtain ⟨M1, dd⟩ := s
    obtain ⟨hr, hf, hd⟩ := hq
    have hd' : dd = _ := hd
    subst hd'
    show ∃ s', E2 d r_em_passYears 8 [(0, vR 1 e), (1, vI n), (2, vI (sFad V n)), (3, vI _), (4, vI (i : Int))] [] M1 = _ ∧ _
    have hr1 : Rl M1 e (mx V (vY V n) i) := hr
    have hh := hr1.2.2.2.1 i (by rw [mx_n (by omega)]; omega)
    rw [mx_n (by omega), mx_n (by omega), mx_n (by omega), mx_n (by omega)] at hh
    have h8 : M1.1 e 8 = V 1 := hr1.2.1.2.2.2.2.2.2.2.2.1.trans (mx_n (by omega))
    have hL : sLeft (mx V (vY V n) i) i = sLeft V i := by
      unfold sLeft
      rw [mx_n (by omega), mx_n (by omega)]
    have hb := hw.2.2.2.2.2.2.2.2.1 i (by omega)
    have hl3 := hw.2.1
    have hLw := left_w hw (h := i) (by omega)
    have ya := vY_a (n := n) hw.1 (h := i) (by omega)
    have yk := vY_k (n := n) hw.1 (h := i) (by omega)
    have ys := vY_s (n := n) hw.1 (h := i) (by omega)
    rw [q_em_passYears_8, if_pos (by omega), if_pos (by omega), Int.toNat_natCast, hh.2.2.2]
    by_cases c : V (57 + i) = 0
    · rw [if_pos c] at ya yk
      rw [if_pos c, em_yearsLeft d hr1 i (by rw [mx_n (by omega)]; omega), bI_k, hL, hh.2.2.2, if_pos c, w32n (by omega)]
      by_cases c2 : sLeft V i ≤ n
      · rw [if_pos c2] at ya yk
        rw [if_pos ⟨c, c2⟩] at ys
        have hfd : sFad (mx V (vY V n) i) (sLeft V i - 1) = sFad V (sLeft V i - 1) := sFad_c (mx_n (by omega)) (fun p hp => ⟨mx_n (by omega), mx_n (by omega)⟩) _
        rw [if_neg (by omega), q_em_layToRest, em_yearsLeft d hr1 i (by rw [mx_n (by omega)]; omega), bI_k, hL, w32s (x := sLeft V i - 1) (by omega), em_fadedWithin d hr1, bI_k, hfd, hh.2.2.1, pI_nk (by decide), hh.1, w32s (x := V (33 + i) + sLeft V i) (by omega), bV_k]
        refine ⟨(putI (putI (putI M1 ((e + 2) + 14 + 1 * i) 3 (xand (V (49 + i)) (xxor (sFad V (sLeft V i - 1)) (-1)))) ((e + 2) + 14 + 1 * i) 1 (V (33 + i) + sLeft V i)) ((e + 2) + 14 + 1 * i) 4 1, _), rfl, ?_, ?_, ?_⟩
        · rw [← mx_s (by omega), ya, yk, ys, up1_c (j := 33 + i) (k := 49 + i) (by omega)]
          have r1 := hr1.hnd (k := 3) (j := 49) (p := i) (by omega) (by rw [mx_n (by omega)]; omega) (xand (V (49 + i)) (xxor (sFad V (sLeft V i - 1)) (-1)))
          have r2 := r1.hnd (k := 1) (j := 33) (p := i) (by omega) (by rw [up1_n (by omega), mx_n (by omega)]; omega) (V (33 + i) + sLeft V i)
          exact r2.hnd (k := 4) (j := 57) (p := i) (by omega) (by rw [up1_n (by omega), up1_n (by omega), mx_n (by omega)]; omega) 1
        · exact hf.tr ((Fe.p (by omega)).tr ((Fe.p (by omega)).tr (Fe.p (by omega))))
        · rw [unB_s, decide_eq_true c, decide_eq_true c2]; rfl
      · rw [if_neg c2] at ya yk
        rw [if_neg (fun q => c2 q.2)] at ys
        rw [if_pos (by omega), hh.1, w32s (x := V (33 + i) + n) (by omega), pI_nk (by decide), hh.2.2.1]
        refine ⟨(putI (putI M1 ((e + 2) + 14 + 1 * i) 1 (V (33 + i) + n)) ((e + 2) + 14 + 1 * i) 3 (xand (V (49 + i)) (xxor (sFad V n) (-1))), _), rfl, ?_, ?_, ?_⟩
        · rw [← mx_s (by omega), ya, yk, ys, up1_id (X := up1 _ (49 + i) _) (by rw [up1_n (by omega), up1_n (by omega), mx_n (by omega)])]
          have r1 := hr1.hnd (k := 1) (j := 33) (p := i) (by omega) (by rw [mx_n (by omega)]; omega) (V (33 + i) + n)
          exact r1.hnd (k := 3) (j := 49) (p := i) (by omega) (by rw [up1_n (by omega), mx_n (by omega)]; omega) _
        · exact hf.tr ((Fe.p (by omega)).tr (Fe.p (by omega)))
        · rw [unB_s, decide_eq_true c, decide_eq_false c2]; rfl
    · rw [if_neg c] at ya yk
      rw [if_neg (fun q => c q.1)] at ys
      rw [if_neg c, if_neg c, w32n (by omega)]
      refine ⟨(M1, _), rfl, ?_, hf, ?_⟩
      · rw [← mx_s (by omega), ya, yk, ys, up1_id (X := mx _ _ _) (mx_n (by omega)), up1_id (X := mx _ _ _) (mx_n (by omega)), up1_id (X := mx _ _ _) (mx_n (by omega))]
        exact hr1
      · rw [unB_s, decide_eq_false c]; rfl
  · obtain ⟨M1, dd⟩ := s
    obtain ⟨hr, hf, hd⟩ := hq
    have hd' : dd = _ := hd
    subst hd'
    have hr1 : Rl M1 e (mx V (vY V n) (V 1).toNat) := hr
    have h8 : M1.1 e 8 = V 1 := hr1.2.1.2.2.2.2.2.2.2.2.1.trans (mx_n (by omega))
    have hst := hw.2.2.2.2.2.1
    have efl : flow (mx V (vY V n) (V 1).toNat) = flow V := flow_c (mx_n (by omega)) (mx_n (by omega)) (fun s _ => ⟨mx_n (by omega), mx_n (by omega)⟩)
    show ∃ M', E2 d r_em_passYears 8 [(0, vR 1 e), (1, vI n), (2, vI (sFad V n)), (3, vI (sDie V n)), (4, vI _)] [] M1 = _ ∧ _
    rw [q_em_passYears_8, if_neg (by omega), em_store d hr1, bI_k, efl, mx_n (by omega), w32s (x := n * flow V) (by omega), w32s (x := V 7 + n * flow V) (by omega)]
    have r2 := hr1.fld (k := 4) (j := 7) (by omega) (min 9999 (V 7 + n * flow V))
    refine ex_loop (P := fun i M' => E2 d r_em_passYears 61 [(0, vR 1 e), (1, vI n), (3, vI (sDie V n)), (4, vI (i : Int))] [] M') (R := fun r => ∃ M', r = some (some (vI (sDie V n)), M') ∧ Rl M' e (vY V n) ∧ Fe e M M') (fun i M' => Rl M' e (mr (vY V n) (up1 (mx V (vY V n) (V 1).toNat) 7 (min 9999 (V 7 + n * flow V))) i) ∧ Fe e M M') (V 0).toNat (fun i M' hi hq => ?_) (fun M' hq => ?_) _ ⟨?_, hf.tr (Fe.p (by omega))⟩
    · obtain ⟨q1, q2⟩ := hq
      have h7 : M'.1 e 7 = V 0 := by
        rw [q1.2.1.2.2.2.2.2.2.2.1, mr_n (by omega), up1_n (by omega), mx_n (by omega)]
      have hp := q1.2.2.1 i (by rw [mr_n (by omega), up1_n (by omega), mx_n (by omega)]; omega)
      rw [mr_n (k := 27 + i) (by omega), up1_n (j := 27 + i) (by omega), mx_n (k := 27 + i) (by omega)] at hp
      have hb := (hw.2.2.2.2.2.2.2.1 i (by omega)).2.2.2
      refine ⟨putI M' ((e + 1) + 9 + 1 * i) 3 (min 99 (V (27 + i) + n)), ?_, ?_, q2.tr (Fe.p (by omega))⟩
      · rw [q_em_passYears_61, if_pos (by omega), if_pos (by omega), if_pos (by omega), Int.toNat_natCast, hp.2.2, w32s (x := V (27 + i) + n) (by omega), mn_I, bI_k, w32n (by omega)]
      · refine (q1.rust (p := i) (by rw [mr_n (by omega), up1_n (by omega), mx_n (by omega)]; omega) (min 99 (V (27 + i) + n))).view fun k hk => ?_
        by_cases ck : k = 27 + i
        · subst ck
          rw [up1_s, mr_i (by omega), vY_r hw.1 (by omega)]
        · rw [up1_n ck]
          by_cases c2 : 27 ≤ k ∧ k < 27 + i
          · rw [mr_i c2, mr_i (by omega)]
          · rw [mr_n c2, mr_n (by omega)]
    · obtain ⟨q1, q2⟩ := hq
      have h7 : M'.1 e 7 = V 0 := by
        rw [q1.2.1.2.2.2.2.2.2.2.1, mr_n (by omega), up1_n (by omega), mx_n (by omega)]
      have h3 : M'.1 e 3 = V 6 := by
        rw [q1.2.1.2.2.2.1, mr_n (by omega), up1_n (by omega), mx_n (by omega)]
      have h6 := hw.2.2.2.2.1
      rw [q_em_passYears_61, if_neg (by omega), h3, w32s (by omega)]
      refine ⟨_, rfl, (q1.fld (k := 3) (j := 6) (by omega) (V 6 + n)).view fun k hk => ?_, q2.tr (Fe.p (by omega))⟩
      by_cases ck : k = 6
      · subst ck
        rw [up1_s, vY_6]
      · rw [up1_n ck]
        by_cases c2 : 27 ≤ k ∧ k < 27 + (V 0).toNat
        · rw [mr_i c2]
        · rw [mr_n c2]
          by_cases c7 : k = 7
          · subst c7
            rw [up1_s, vY_7]
          · rw [up1_n c7]
            by_cases c3 : (33 ≤ k ∧ k < 33 + (V 1).toNat) ∨ (49 ≤ k ∧ k < 49 + (V 1).toNat) ∨ (57 ≤ k ∧ k < 57 + (V 1).toNat)
            · rw [mx_i c3]
            · rw [mx_n c3, vY_o (by omega) (by omega) (by omega) c2 c7 ck]
    · refine r2.view fun k hk => ?_
      rw [mr_n (by omega)]
end YrC
section OpY
variable {M : Mem} (d : Nat)
theorem m_year32 (hw : Wf (mV M)) (n : Int) (hn : 1 ≤ n ∧ n ≤ 99) : E2 d r_m_year 32 [(0, vR 12 179), (1, vI n), (2, vI 0), (3, vI 0)] [] M = some (some (vI (sDie (mV M) n)), setC M (vY (mV M) n)) := by
  refine ex_loop (P := fun i (s : Mem × Int) => E2 d r_m_year 32 [(0, vR 12 179), (1, vI n), (2, vI s.2), (3, vI (i : Int))] [] s.1) (R := fun r => r = some (some (vI (sDie (mV M) n)), setC M (vY (mV M) n))) (fun i s => s = (setC M (vY (mV M) i), sDie (mV M) i)) n.toNat (fun i s hi hq => ?_) (fun s hq => ?_) (M, 0) (by rw [show (((0 : Nat) : Int)) = 0 from rfl, vY_0 hw, set_self, die_0])
  · subst hq
    refine ⟨_, ?_, rfl⟩
    show E2 d r_m_year 32 [(0, vR 12 179), (1, vI n), (2, vI (sDie (mV M) i)), (3, vI (i : Int))] [] (setC M (vY (mV M) i)) = E2 d r_m_year 32 [(0, vR 12 179), (1, vI n), (2, vI (sDie (mV M) ((i + 1 : Nat) : Int))), (3, vI ((i + 1 : Nat) : Int))] [] (setC M (vY (mV M) ((i + 1 : Nat) : Int)))
    rw [q_m_year_32, if_pos (by omega), m_goesYear d (W := vY (mV M) ((i : Int) + 1)) (by rw [mV_set]; exact wgY hw (by omega)) (by rw [mV_set]; exact stpY hw (by omega)), bI_k, mV_set, die_s hw (by omega), set_set, w32n (by omega), show ((i : Int) + 1) = ((i + 1 : Nat) : Int) by omega]
  · subst hq
    show E2 d r_m_year 32 [(0, vR 12 179), (1, vI n), (2, vI (sDie (mV M) (n.toNat : Int))), (3, vI (n.toNat : Int))] [] (setC M (vY (mV M) (n.toNat : Int))) = _
    rw [q_m_year_32, if_neg (by omega), show ((n.toNat : Nat) : Int) = n by omega]
theorem o_year (h : Inv M) (n : Int) : OpI d j_x_year j_m_year [vI n] M := by
  have h6 := h.wf.2.2.2.2.1
  have e6 : M.1 11 3 = mV M 6 := h.rl.2.1.2.2.2.1
  by_cases c : 1 ≤ n ∧ n ≤ 99
  · by_cases c2 : 9999 < mV M 6 + n
    · refine opR h (-1) 7 ?_ ?_
      · rw [q_x_year, x_within, bI_k, if_pos c, if_neg (by decide), q_em_hasTimeFor, e6, w32s (by omega), if_pos c2, bI_k, if_pos rfl, x_refR]
      · have hJ : (putI (putI (putI M 0 0 7) 179 1 0) 179 0 0).1 184 6 = mV M 6 := congrFun mV_bg 6
        rw [q_m_year, m_isIn, bI_k, if_pos c, if_neg (by decide), hJ, w32s (by omega), if_pos c2, m_refR]
    · obtain ⟨M1, e1, e2, e3⟩ := em_years d h.rl h.wf n c
      have hg := wgY (V := mV M) (n := n) h.wf (by omega)
      refine opD h (vY (mV M) n) (fun k hk => vY_l h.wc (Or.inl (by omega))) (vY_c (by omega)) (vY_c (by omega)) e3 e2 (hg.wf (by rw [vY_6]; omega)) (sDie (mV M) n) ?_ ?_
      · rw [q_x_year, x_within, bI_k, if_pos c, if_neg (by decide), q_em_hasTimeFor, e6, w32s (by omega), if_neg c2, bI_k, if_neg (by decide), e1, bI_k, x_ansR]
      · have hJ : (putI (putI (putI M1 0 0 0) 179 1 0) 179 0 0).1 184 6 = mV M 6 := congrFun (mV_bf e3 0) 6
        rw [q_m_year, m_isIn, bI_k, if_pos c, if_neg (by decide), hJ, w32s (by omega), if_neg c2, m_year32 d (by rw [mV_bf e3]; exact h.wf) n c, mV_bf e3]
  · refine opR h (-1) 5 ?_ ?_
    · rw [q_x_year, x_within, bI_k, if_neg c, if_pos rfl, x_refR]
    · rw [q_m_year, m_isIn, bI_k, if_neg c, if_pos rfl, m_refR]
end OpY
