/-! a year of the reference -/
theorem up1_id {X : Nat → Int} {j : Nat} {v : Int} (h : X j = v) : up1 X j v = X := by
  funext k
  by_cases c : k = j
  · subst c; rw [up1_s, h]
  · exact up1_n c
def X1 (V W : Nat → Int) (i : Nat) : Nat → Int := fun k => if (33 ≤ k ∧ k < 33 + i) ∨ (57 ≤ k ∧ k < 57 + i) then W k else V k
theorem X1_0 {V W : Nat → Int} : X1 V W 0 = V := funext fun k => if_neg (by omega)
theorem X1_i {V W : Nat → Int} {i k : Nat} (h : (33 ≤ k ∧ k < 33 + i) ∨ (57 ≤ k ∧ k < 57 + i)) : X1 V W i k = W k := if_pos h
theorem X1_n {V W : Nat → Int} {i k : Nat} (h : ¬ ((33 ≤ k ∧ k < 33 + i) ∨ (57 ≤ k ∧ k < 57 + i))) : X1 V W i k = V k := if_neg h
theorem X1_s {V W : Nat → Int} {i : Nat} (hi : i < 8) : up1 (up1 (X1 V W i) (33 + i) (W (33 + i))) (57 + i) (W (57 + i)) = X1 V W (i + 1) := by
  funext k
  by_cases c : k = 57 + i
  · subst c
    rw [up1_s, X1_i (by omega)]
  · rw [up1_n c]
    by_cases c2 : k = 33 + i
    · subst c2
      rw [up1_s, X1_i (by omega)]
    · rw [up1_n c2]
      by_cases c3 : (33 ≤ k ∧ k < 33 + i) ∨ (57 ≤ k ∧ k < 57 + i)
      · rw [X1_i c3, X1_i (by omega)]
      · rw [X1_n c3, X1_n (by omega)]
def kn (V W : Nat → Int) (i h : Nat) : Int := if W (57 + h) = 0 then xand (V (49 + h)) (xxor (fset V W i) (-1)) else V (49 + h)
def Xr (V W : Nat → Int) (i : Nat) : Nat → Int := fun k => if 49 ≤ k ∧ k < 49 + (V 1).toNat then kn V W i (k - 49) else if 27 ≤ k ∧ k < 27 + (V 0).toNat then (if k < 27 + i then W k else V k) else if k = 6 then V k else W k
def XX (V W : Nat → Int) (i j : Nat) : Nat → Int := fun k => if 49 ≤ k ∧ k < 49 + j then kn V W (i + 1) (k - 49) else up1 (Xr V W i) (27 + i) (W (27 + i)) k
section Yr
variable {M : Mem} (d : Nat)
theorem kn_s {V W : Nat → Int} {i h : Nat} (hi : i < 32) (c : W (57 + h) = 0) (c2 : ¬ W (27 + i) < V (9 + i)) : xand (kn V W i h) (xxor (xshl 1 (i : Int)) (-1)) = kn V W (i + 1) h := by
  unfold kn
  rw [if_pos c, if_pos c]
  refine bt_ext (rI_and _ _) (rI_and _ _) fun j hj => ?_
  rw [bt_and, bt_and, bt_and, bt_not hj, bt_not hj, bt_not hj, show fset V W (i + 1) = xor32 (fset V W i) (xshl 1 (i : Int)) from by
    unfold fset
    rw [unB_s, decide_eq_false c2]; rfl, bt_or]
  cases bt (V (49 + h)) j <;> cases bt (fset V W i) j <;> cases bt (xshl 1 (i : Int)) j <;> rfl
theorem kn_k {V W : Nat → Int} {i h : Nat} (c : W (27 + i) < V (9 + i)) : kn V W (i + 1) h = kn V W i h := by
  unfold kn
  rw [show fset V W (i + 1) = fset V W i from by
    unfold fset
    rw [unB_s, decide_eq_true c]; rfl]
theorem kn_d {V W : Nat → Int} {i h : Nat} (c : ¬ W (57 + h) = 0) : kn V W i h = V (49 + h) := if_neg c
theorem m_rusts (hg : Wg (mV M)) {W : Nat → Int} (hS : StY (mV M) W) (i : Nat) (hi : (i : Int) < mV M 0) : C2 d j_m_rusts [vR 12 179, vI (i : Int)] (setC M (Xr (mV M) W i)) = some (none, setC M (Xr (mV M) W (i + 1))) := by
  have hc := hg.1.1
  unfold Wc at hc
  rw [up1_n (by omega), up1_n (by omega), up1_n (by omega)] at hc
  have hp := hg.1.2.2.2.2.2.2.2.1 i (by rw [up1_n (by omega)]; exact hi)
  rw [up1_n (by omega), up1_n (by omega), up1_n (by omega), up1_n (by omega)] at hp
  have hr : W (27 + i) = min 99 (mV M (27 + i) + 1) := hS.2.1 i hi
  have x27 : Xr (mV M) W i (27 + i) = mV M (27 + i) := by
    unfold Xr
    rw [if_neg (by omega), if_pos (by omega), if_neg (by omega)]
  have x9 : Xr (mV M) W i (9 + i) = mV M (9 + i) := by
    unfold Xr
    rw [if_neg (by omega), if_neg (by omega), if_neg (by omega)]
    exact hS.2.2.2.2 _ (by omega) (by omega) (by omega) (by omega) (by omega) (by omega)
  have x1 : ∀ j, XX (mV M) W i j 1 = mV M 1 := by
    intro j
    unfold XX
    rw [if_neg (by omega), up1_n (by omega)]
    unfold Xr
    rw [if_neg (by omega), if_neg (by omega), if_neg (by omega)]
    exact hS.2.2.2.2 _ (by omega) (by omega) (by omega) (by omega) (by omega) (by omega)
  rw [q_m_rusts, w32s (x := 27 + (i : Int)) (by omega), if_pos (by omega), show (27 + (i : Int)).toNat = 27 + i by omega, set_at, x27, w32s (x := mV M (27 + i) + 1) (by omega), mn_I, bI_k, if_pos (by omega), if_pos (by omega), w32s (x := 9 + (i : Int)) (by omega), if_pos (by omega), show (9 + (i : Int)).toNat = 9 + i by omega, put_set, set_at, set_at, up1_s, up1_n (by omega), x9, ← hr]
  by_cases c : W (27 + i) < mV M (9 + i)
  · rw [if_pos c]
    congr 3
    funext k
    by_cases ck : k = 27 + i
    · subst ck
      rw [up1_s]
      unfold Xr
      rw [if_neg (by omega), if_pos (by omega), if_pos (by omega)]
    · rw [up1_n ck]
      unfold Xr
      by_cases c1 : 49 ≤ k ∧ k < 49 + (mV M 1).toNat
      · rw [if_pos c1, if_pos c1, kn_k c]
      · rw [if_neg c1, if_neg c1]
        by_cases c2 : 27 ≤ k ∧ k < 27 + (mV M 0).toNat
        · rw [if_pos c2, if_pos c2]
          by_cases c3 : k < 27 + i
          · rw [if_pos c3, if_pos (by omega)]
          · rw [if_neg c3, if_neg (by omega)]
        · rw [if_neg c2, if_neg c2]
  · rw [if_neg c]
    refine ex_loop (P := fun j M' => E2 d r_m_rusts 32 [(0, vR 12 179), (1, vI (i : Int)), (2, vI (j : Int))] [] M') (R := fun r => r = some (none, setC M (Xr (mV M) W (i + 1)))) (fun j M' => M' = setC M (XX (mV M) W i j)) (mV M 1).toNat (fun j M' hj hq => ?_) (fun M' hq => ?_) _ ?_
    · subst hq
      have x57 : XX (mV M) W i j (57 + j) = W (57 + j) := by
        unfold XX
        rw [if_neg (by omega), up1_n (by omega)]
        unfold Xr
        rw [if_neg (by omega), if_neg (by omega), if_neg (by omega)]
      have x49 : XX (mV M) W i j (49 + j) = kn (mV M) W i j := by
        unfold XX
        rw [if_neg (by omega), up1_n (by omega)]
        unfold Xr
        rw [if_pos (by omega), show 49 + j - 49 = j by omega]
      have step : up1 (XX (mV M) W i j) (49 + j) (kn (mV M) W (i + 1) j) = XX (mV M) W i (j + 1) := by
        funext k
        by_cases ck : k = 49 + j
        · subst ck
          rw [up1_s]
          unfold XX
          rw [if_pos (by omega), show 49 + j - 49 = j by omega]
        · rw [up1_n ck]
          unfold XX
          by_cases c3 : 49 ≤ k ∧ k < 49 + j
          · rw [if_pos c3, if_pos (by omega)]
          · rw [if_neg c3, if_neg (by omega)]
      refine ⟨_, ?_, rfl⟩
      rw [q_m_rusts_32, set_at, x1, if_pos (by omega), m_lives d j (by omega), bI_k, mV_set, x57, w32s (x := 49 + (j : Int)) (by omega), if_pos (show (0 : Int) ≤ 49 + j ∧ 49 + (j : Int) < 1725 by omega), show (49 + (j : Int)).toNat = 49 + j by omega, set_at, x49, put_set, w32n (by omega)]
      by_cases c2 : W (57 + j) = 0
      · rw [decide_eq_true c2, if_neg (by decide), if_pos (by omega), kn_s (by omega) c2 c, step]
      · rw [decide_eq_false c2, if_pos b01_f, ← step, up1_id (x49.trans (by rw [kn_d c2, kn_d c2]))]
    · subst hq
      rw [q_m_rusts_32, set_at, x1, if_neg (by omega)]
      congr 3
      funext k
      unfold XX
      by_cases c1 : 49 ≤ k ∧ k < 49 + (mV M 1).toNat
      · rw [if_pos c1]
        unfold Xr
        rw [if_pos c1]
      · rw [if_neg c1]
        by_cases ck : k = 27 + i
        · subst ck
          rw [up1_s]
          unfold Xr
          rw [if_neg (by omega), if_pos (by omega), if_pos (by omega)]
        · rw [up1_n ck]
          unfold Xr
          rw [if_neg c1, if_neg c1]
          by_cases c2 : 27 ≤ k ∧ k < 27 + (mV M 0).toNat
          · rw [if_pos c2, if_pos c2]
            by_cases c3 : k < 27 + i
            · rw [if_pos c3, if_pos (by omega)]
            · rw [if_neg c3, if_neg (by omega)]
          · rw [if_neg c2, if_neg c2]
    · congr 1
      funext k
      unfold XX
      rw [if_neg (by omega)]
theorem m_goesYear (hg : Wg (mV M)) {W : Nat → Int} (hS : StY (mV M) W) : C2 d j_m_goesYear [vR 12 179] M = some (some (vI (sDi1 (mV M))), setC M W) := by
  have hc := hg.1.1
  unfold Wc at hc
  rw [up1_n (by omega), up1_n (by omega), up1_n (by omega)] at hc
  have h6 := hg.2
  have h7 := hg.1.2.2.2.2.2.1
  rw [up1_n (by omega)] at h7
  have h3 := hg.1.2.1
  rw [up1_n (by omega)] at h3
  have hsp := hg.1.2.2.2.2.2.2.2.2.2
  have hO := hS.2.2.2.2
  rw [q_m_goesYear]
  -- hands
  refine ex_loop (P := fun i (s : Mem × Int) => E2 d r_m_goesYear 4 [(0, vR 12 179), (1, vI s.2), (2, vI (i : Int))] [] s.1) (R := fun r => r = some (some (vI (sDi1 (mV M))), setC M W)) (fun i s => s = (setC M (X1 (mV M) W i), unB (fun h => decide (mV M (57 + h) = 0) && !decide (mV M (33 + h) + 1 < mV M 3)) (fun h => xshl 1 (h : Int)) i)) (mV M 1).toNat (fun i s hi hq => ?_) (fun s hq => ?_) (M, 0) (by rw [X1_0, set_self]; rfl)
  · subst hq
    have hh := hS.1 i (by omega)
    have hb := hg.1.2.2.2.2.2.2.2.2.1 i (by rw [up1_n (by omega)]; omega)
    rw [up1_n (by omega), up1_n (by omega), up1_n (by omega), up1_n (by omega)] at hb
    refine ⟨_, ?_, rfl⟩
    show E2 d r_m_goesYear 4 [(0, vR 12 179), (1, vI _), (2, vI (i : Int))] [] (setC M (X1 (mV M) W i)) = E2 d r_m_goesYear 4 [(0, vR 12 179), (1, vI _), (2, vI ((i + 1 : Nat) : Int))] [] (setC M (X1 (mV M) W (i + 1)))
    rw [q_m_goesYear_4, set_at, X1_n (by omega), if_pos (by omega), m_lives d i (by omega), bI_k, mV_set, X1_n (by omega), w32n (by omega), unB_s, ← X1_s (by omega)]
    by_cases c : mV M (57 + i) = 0
    · rw [decide_eq_true c, if_neg (by decide), w32s (x := 33 + (i : Int)) (by omega), if_pos (by omega), show (33 + (i : Int)).toNat = 33 + i by omega, if_pos (by omega), if_pos (by omega), set_at, X1_n (by omega), w32s (x := mV M (33 + i) + 1) (by omega), put_set, set_at, set_at, up1_s, up1_n (by omega), X1_n (by omega), hh.1, if_pos c, hh.2.1]
      by_cases c2 : mV M (33 + i) + 1 < mV M 3
      · rw [if_pos c2, decide_eq_true c2, if_neg (by omega), up1_id (X := up1 _ _ _) (by rw [up1_n (by omega), X1_n (by omega)])]
        rfl
      · rw [if_neg c2, decide_eq_false c2, if_pos (show mV M (57 + i) = 0 ∧ ¬ mV M (33 + i) + 1 < mV M 3 from ⟨c, c2⟩), w32s (x := 57 + (i : Int)) (by omega), if_pos (by omega), show (57 + (i : Int)).toNat = 57 + i by omega, put_set]
        rfl
    · rw [decide_eq_false c, if_pos b01_f, hh.1, if_neg c, hh.2.1, if_neg (fun q => c q.1), up1_id (X := X1 _ _ _) (X1_n (by omega)), up1_id (X1_n (by omega))]
      rfl
  · subst hq
    show E2 d r_m_goesYear 4 [(0, vR 12 179), (1, vI (sDi1 (mV M))), (2, vI _)] [] (setC M (X1 (mV M) W (mV M 1).toNat)) = _
    rw [q_m_goesYear_4, set_at, X1_n (by omega), if_neg (by omega)]
    -- springs
    refine ex_loop (P := fun i M' => E2 d r_m_goesYear 54 [(0, vR 12 179), (1, vI (sDi1 (mV M))), (2, vI (i : Int))] [] M') (R := fun r => r = some (some (vI (sDi1 (mV M))), setC M W)) (fun i M' => M' = setC M (up1 (X1 (mV M) W (mV M 1).toNat) 7 (min 9999 (mV M 7 + smB (fun s => !decide (mV M 4 < mV M (65 + s))) (fun s => mV M (69 + s)) i))) ∧ 0 ≤ smB (fun s => !decide (mV M 4 < mV M (65 + s))) (fun s => mV M (69 + s)) i ∧ smB (fun s => !decide (mV M 4 < mV M (65 + s))) (fun s => mV M (69 + s)) i ≤ 99 * (i : Int)) (mV M 2).toNat (fun i M' hi hq => ?_) (fun M' hq => ?_) _ ⟨?_, ?_⟩
    · obtain ⟨hq1, hq2, hq3⟩ := hq
      subst hq1
      have hb := (hsp i (by rw [up1_n (by omega)]; omega)).2
      rw [up1_n (by omega)] at hb
      refine ⟨_, ?_, rfl, ?_⟩
      · rw [q_m_goesYear_54, set_at, up1_n (by omega), X1_n (by omega), if_pos (by omega), m_isOurs d i (by omega), bI_k, mV_set, up1_n (by omega), X1_n (by omega), up1_n (by omega), X1_n (by omega), set_at, up1_s, w32n (by omega), smB_s]
        by_cases c : mV M 4 < mV M (65 + i)
        · rw [if_pos c, if_pos rfl, decide_eq_true c, w32s (by omega), mn_I, bI_k, put_set]
          congr 2
          funext k
          by_cases ck : k = 7
          · subst ck
            rw [up1_s, up1_s, Int.add_zero, Bool.not_true, cond_false]
            omega
          · rw [up1_n ck, up1_n ck, up1_n ck]
        · rw [if_neg c, if_neg (by decide), decide_eq_false c, w32s (x := 69 + (i : Int)) (by omega), if_pos (by omega), show (69 + (i : Int)).toNat = 69 + i by omega, set_at, up1_n (by omega), X1_n (by omega), w32s (by omega), mn_I, bI_k, put_set]
          congr 2
          funext k
          by_cases ck : k = 7
          · subst ck
            rw [up1_s, up1_s]
            show min 9999 (min 9999 _ + _) = min 9999 (_ + w32 _)
            rw [w32s (by omega)]
            omega
          · rw [up1_n ck, up1_n ck, up1_n ck]
      · rw [smB_s]
        cases !decide (mV M 4 < mV M (65 + i))
        · rw [cond_false]; omega
        · rw [cond_true, w32s (by omega)]; omega
    · obtain ⟨hq1, hq2, hq3⟩ := hq
      subst hq1
      rw [q_m_goesYear_54, set_at, up1_n (by omega), X1_n (by omega), if_neg (by omega)]
      -- rust
      refine ex_loop (P := fun i M' => E2 d r_m_goesYear 87 [(0, vR 12 179), (1, vI (sDi1 (mV M))), (2, vI (i : Int))] [] M') (R := fun r => r = some (some (vI (sDi1 (mV M))), setC M W)) (fun i M' => M' = setC M (Xr (mV M) W i)) (mV M 0).toNat (fun i M' hi hq => ?_) (fun M' hq => ?_) _ ?_
      · subst hq
        refine ⟨_, ?_, rfl⟩
        have x0 : Xr (mV M) W i 0 = mV M 0 := by
          unfold Xr
          rw [if_neg (by omega), if_neg (by omega), if_neg (by omega)]
          exact hO _ (by omega) (by omega) (by omega) (by omega) (by omega) (by omega)
        rw [q_m_goesYear_87, set_at, x0, if_pos (by omega), m_rusts d hg hS i (by omega), bV_k, w32n (by omega)]
      · subst hq
        have x0 : Xr (mV M) W (mV M 0).toNat 0 = mV M 0 := by
          unfold Xr
          rw [if_neg (by omega), if_neg (by omega), if_neg (by omega)]
          exact hO _ (by omega) (by omega) (by omega) (by omega) (by omega) (by omega)
        have x6 : Xr (mV M) W (mV M 0).toNat 6 = mV M 6 := by
          unfold Xr
          rw [if_neg (by omega), if_neg (by omega), if_pos rfl]
        rw [q_m_goesYear_87, set_at, x0, if_neg (by omega), set_at, x6, w32s (by omega), put_set]
        congr 3
        funext k
        by_cases ck : k = 6
        · subst ck
          rw [up1_s, hS.2.2.2.1]
        · rw [up1_n ck]
          unfold Xr
          by_cases c1 : 49 ≤ k ∧ k < 49 + (mV M 1).toNat
          · obtain ⟨h, rfl⟩ : ∃ h, k = 49 + h := ⟨k - 49, by omega⟩
            rw [if_pos c1, show 49 + h - 49 = h by omega, (hS.1 h (by omega)).2.2]
            rfl
          · rw [if_neg c1]
            by_cases c2 : 27 ≤ k ∧ k < 27 + (mV M 0).toNat
            · rw [if_pos c2, if_pos (by omega)]
            · rw [if_neg c2, if_neg ck]
      · congr 1
        funext k
        by_cases ck : k = 7
        · subst ck
          rw [up1_s]
          unfold Xr
          rw [if_neg (by omega), if_neg (by omega), if_neg (by omega), hS.2.2.1]
          rfl
        · rw [up1_n ck]
          unfold Xr
          by_cases c1 : 49 ≤ k ∧ k < 49 + (mV M 1).toNat
          · obtain ⟨h, rfl⟩ : ∃ h, k = 49 + h := ⟨k - 49, by omega⟩
            have hb := (hg.1.2.2.2.2.2.2.2.2.1 h (by rw [up1_n (by omega)]; omega)).2.2.1
            rw [up1_n (by omega)] at hb
            rw [if_pos c1, X1_n (by omega), show 49 + h - 49 = h by omega]
            unfold kn
            by_cases c2 : W (57 + h) = 0
            · rw [if_pos c2, show fset (mV M) W 0 = 0 from rfl, and_m1 (show rI (mV M (49 + h)) by unfold rI; omega)]
            · rw [if_neg c2]
          · rw [if_neg c1]
            by_cases c2 : 27 ≤ k ∧ k < 27 + (mV M 0).toNat
            · rw [if_pos c2, if_neg (by omega), X1_n (by omega)]
            · rw [if_neg c2]
              by_cases c3 : (33 ≤ k ∧ k < 33 + (mV M 1).toNat) ∨ (57 ≤ k ∧ k < 57 + (mV M 1).toNat)
              · rw [X1_i c3, if_neg (by omega)]
              · rw [X1_n c3]
                by_cases c4 : k = 6
                · rw [if_pos c4]
                · rw [if_neg c4, hO k (by omega) c1 (by omega) c2 ck c4]
    · rw [up1_id]
      rw [X1_n (by omega)]
      show mV M 7 = min 9999 (mV M 7 + 0)
      omega
    · exact ⟨by show (0 : Int) ≤ 0; omega, by show (0 : Int) ≤ 99 * ((0 : Nat) : Int); omega⟩
end Yr
