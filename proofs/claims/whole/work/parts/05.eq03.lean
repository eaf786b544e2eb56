set_option maxRecDepth 100000 in
set_option maxHeartbeats 4000000 in
theorem q_x_wholeFor_2 (p1 : Int) (d : Nat) (M : Mem) : E2 d r_x_wholeFor 2 [(0, vR 11 0), (1, vI p1)] [] M = (if 200 < p1 then (bI (C2 d j_x_refuse [vR 11 0, vI 8] M) fun x2 M1 => some (some (vI x2), M1)) else (bI (C2 d j_em_isWholeAfter [vR 1 11, vI p1] M) fun x4 M3 => if x4 = 0 then (bI (C2 d j_x_answer [vR 11 0, vI p1] M3) fun x6 M5 => some (some (vI x6), M5)) else (E2 d r_x_wholeFor 2 [(0, vR 11 0), (1, vI (w32 (p1 + 1)))] [] M3))) :=
  (DD_ex GR2 MT 13 d r_x_wholeFor (r_x_wholeFor.drop 2) [(0, vR 11 0), (1, vI p1)] [] M).trans rfl
set_option maxRecDepth 100000 in
set_option maxHeartbeats 4000000 in
theorem q_x_knownIn (p1 : Int) (d : Nat) (M : Mem) : C2 d j_x_knownIn [vR 11 0, vI p1] M = (bI (C2 d j_x_within [vL p1, vI 0, vI 200] M) fun x2 M1 => if x2 = 0 then (bI (C2 d j_x_refuse [vR 11 0, vI 5] M1) fun x4 M3 => some (some (vI x4), M3)) else (bI (C2 d j_em_knownAfter [vR 1 11, vI p1] M1) fun x6 M5 => bI (C2 d j_x_answer [vR 11 0, vI x6] M5) fun x8 M7 => some (some (vI x8), M7))) :=
  (DD_ex GR2 MT 15 d r_x_knownIn r_x_knownIn [(0, vR 11 0), (1, vI p1)] [] M).trans rfl
set_option maxRecDepth 100000 in
set_option maxHeartbeats 4000000 in
theorem q_x_storeIn (p1 : Int) (d : Nat) (M : Mem) : C2 d j_x_storeIn [vR 11 0, vI p1] M = (bI (C2 d j_x_within [vL p1, vI 0, vI 200] M) fun x2 M1 => if x2 = 0 then (bI (C2 d j_x_refuse [vR 11 0, vI 5] M1) fun x4 M3 => some (some (vI x4), M3)) else (bI (C2 d j_em_storeAfter [vR 1 11, vI p1] M1) fun x6 M5 => bI (C2 d j_x_answer [vR 11 0, vI x6] M5) fun x8 M7 => some (some (vI x8), M7))) :=
  (DD_ex GR2 MT 15 d r_x_storeIn r_x_storeIn [(0, vR 11 0), (1, vI p1)] [] M).trans rfl
set_option maxRecDepth 100000 in
set_option maxHeartbeats 4000000 in
theorem q_x_pace (d : Nat) (M : Mem) : C2 d j_x_pace [vR 11 0] M = (if (M.1 11 7) = 0 then (bI (C2 d j_x_refuse [vR 11 0, vI 8] M) fun x2 M1 => some (some (vI x2), M1)) else (bI (C2 d j_em_yearsBetweenUses [vR 1 11] M) fun x4 M3 => bI (C2 d j_x_answer [vR 11 0, vI x4] M3) fun x6 M5 => some (some (vI x6), M5))) :=
  (DD_ex GR2 MT 11 d r_x_pace r_x_pace [(0, vR 11 0)] [] M).trans rfl
set_option maxRecDepth 100000 in
set_option maxHeartbeats 4000000 in
theorem q_em_yearsBetweenUses (p0 : Nat) (d : Nat) (M : Mem) : C2 d j_em_yearsBetweenUses [vR 1 p0] M = (E2 d r_em_yearsBetweenUses 4 [(0, vR 1 p0), (1, vI 99), (2, vI 0)] [] M) :=
  (DD_ex GR2 MT 6 d r_em_yearsBetweenUses r_em_yearsBetweenUses [(0, vR 1 p0)] [] M).trans rfl
set_option maxRecDepth 100000 in
set_option maxHeartbeats 4000000 in
theorem q_em_yearsBetweenUses_4 (a0 : Nat) (p1 : Int) (p2 : Int) (d : Nat) (M : Mem) : E2 d r_em_yearsBetweenUses 4 [(0, vR 1 a0), (1, vI p1), (2, vI p2)] [] M = (if p2 < (M.1 a0 7) then (if 0 ≤ p2 ∧ p2 < 6 then (bI (C2 d j_math_min_I [vI p1, vI (M.1 ((a0 + 1) + 9 + 1 * (p2).toNat) 1)] M) fun x2 M1 => E2 d r_em_yearsBetweenUses 4 [(0, vR 1 a0), (1, vI x2), (2, vI (w32 (p2 + 1)))] [] M1) else none) else (some (some (vI (w32 (p1 - 1))), M))) :=
  (DD_ex GR2 MT 16 d r_em_yearsBetweenUses (r_em_yearsBetweenUses.drop 4) [(0, vR 1 a0), (1, vI p1), (2, vI p2)] [] M).trans rfl
set_option maxRecDepth 100000 in
set_option maxHeartbeats 4000000 in
theorem q_x_jarsFor (p1 : Int) (d : Nat) (M : Mem) : C2 d j_x_jarsFor [vR 11 0, vI p1] M = (bI (C2 d j_x_within [vL p1, vI 0, vI 200] M) fun x2 M1 => if x2 = 0 then (bI (C2 d j_x_refuse [vR 11 0, vI 5] M1) fun x4 M3 => some (some (vI x4), M3)) else (if (M1.1 11 7) = 0 then (bI (C2 d j_x_refuse [vR 11 0, vI 8] M1) fun x6 M5 => some (some (vI x6), M5)) else (bI (C2 d j_em_usesNeeded [vR 1 11, vI p1] M1) fun x8 M7 => bI (C2 d j_x_answerOrNothing [vR 11 0, vI x8] M7) fun x10 M9 => some (some (vI x10), M9)))) :=
  (DD_ex GR2 MT 18 d r_x_jarsFor r_x_jarsFor [(0, vR 11 0), (1, vI p1)] [] M).trans rfl
set_option maxRecDepth 100000 in
set_option maxHeartbeats 4000000 in
theorem q_em_usesNeeded (p0 : Nat) (p1 : Int) (d : Nat) (M : Mem) : C2 d j_em_usesNeeded [vR 1 p0, vI p1] M = (E2 d r_em_usesNeeded 4 [(0, vR 1 p0), (1, vI p1), (2, vI p1), (3, vI 0)] [] M) :=
  (DD_ex GR2 MT 6 d r_em_usesNeeded r_em_usesNeeded [(0, vR 1 p0), (1, vI p1)] [] M).trans rfl
set_option maxRecDepth 100000 in
set_option maxHeartbeats 4000000 in
theorem q_em_usesNeeded_4 (a0 : Nat) (p1 : Int) (p2 : Int) (p3 : Int) (d : Nat) (M : Mem) : E2 d r_em_usesNeeded 4 [(0, vR 1 a0), (1, vI p1), (2, vI p2), (3, vI p3)] [] M = (if p3 < (M.1 a0 7) then (if 0 ≤ p3 ∧ p3 < 6 then (if 0 ≤ p3 ∧ p3 < 6 then (bI (C2 d j_math_min_I [vI p2, vI (w32 ((w32 ((M.1 ((a0 + 1) + 9 + 1 * (p3).toNat) 1) - 1)) - (M.1 ((a0 + 1) + 9 + 1 * (p3).toNat) 3)))] M) fun x2 M1 => E2 d r_em_usesNeeded 4 [(0, vR 1 a0), (1, vI p1), (2, vI x2), (3, vI (w32 (p3 + 1)))] [] M1) else none) else none) else (bI (C2 d j_math_max_I [vI 0, vI p2] M) fun x4 M3 => bI (C2 d j_em_yearsBetweenUses [vR 1 a0] M3) fun x6 M5 => if (w32 (p1 - x4)) = 0 then (some (some (vI 0), M5)) else (if 0 < x6 then (if x6 = 0 then none else some (some (vI (xdiv (w32 ((w32 ((w32 (p1 - x4)) + x6)) - 1)) x6)), M5)) else (some (some (vI (-1)), M5))))) :=
  (DD_ex GR2 MT 27 d r_em_usesNeeded (r_em_usesNeeded.drop 4) [(0, vR 1 a0), (1, vI p1), (2, vI p2), (3, vI p3)] [] M).trans rfl
set_option maxRecDepth 100000 in
set_option maxHeartbeats 4000000 in
theorem q_x_dies (p1 : Int) (d : Nat) (M : Mem) : C2 d j_x_dies [vR 11 0, vI p1] M = (bI (C2 d j_em_hasHand [vR 1 11, vI p1] M) fun x2 M1 => if x2 = 0 then (bI (C2 d j_x_refuse [vR 11 0, vI 2] M1) fun x4 M3 => some (some (vI x4), M3)) else (if 0 ≤ p1 ∧ p1 < 8 then (if (M1.1 (13 + 14 + 1 * (p1).toNat) 4) = 0 then (bI (C2 d j_em_yearsLeft [vR 1 11, vR 3 (13 + 14 + 1 * (p1).toNat)] M1) fun x6 M5 => bI (C2 d j_x_answer [vR 11 0, vI x6] M5) fun x8 M7 => some (some (vI x8), M7)) else (bI (C2 d j_x_refuse [vR 11 0, vI 8] M1) fun x10 M9 => some (some (vI x10), M9))) else none)) :=
  (DD_ex GR2 MT 23 d r_x_dies r_x_dies [(0, vR 11 0), (1, vI p1)] [] M).trans rfl
set_option maxRecDepth 100000 in
set_option maxHeartbeats 4000000 in
theorem q_x_battle (p1 : Int) (p2 : Int) (p3 : Int) (p4 : Int) (d : Nat) (M : Mem) : C2 d j_x_battle [vR 11 0, vI p1, vI p2, vI p3, vI p4] M = (bI (C2 d j_x_battleTrouble [vR 11 0, vI p1, vI p2, vI p3, vI p4] M) fun x2 M1 => if x2 = 0 then (if 0 ≤ p1 ∧ p1 < 4 then (bV (C2 d j_bt_foresee [vR 0 68, vR 23 ((1 + 86 + 2 * (p1).toNat) + 1), vI p2, vI 0] M1) fun M3 => if 0 ≤ p3 ∧ p3 < 13 then (if 0 ≤ p4 ∧ p4 < 13 then (bV (C2 d j_x_tellFraction [vR 11 0, vL (M3.2.1 (69 + 1 + 1 * (p3).toNat) (p4).toNat), vL (M3.2.1 68 1)] M3) fun M4 => bI (C2 d j_x_grant [vR 11 0] M4) fun x6 M5 => if x6 = 0 ∨ x6 = 1 then some (some (vI x6), M5) else none) else none) else none) else none) else (bI (C2 d j_x_deny [vR 11 0, vI x2] M1) fun x8 M7 => if x8 = 0 ∨ x8 = 1 then some (some (vI x8), M7) else none)) :=
  (DD_ex GR2 MT 35 d r_x_battle r_x_battle [(0, vR 11 0), (1, vI p1), (2, vI p2), (3, vI p3), (4, vI p4)] [] M).trans rfl
set_option maxRecDepth 100000 in
set_option maxHeartbeats 4000000 in
theorem q_x_battleTrouble (p1 : Int) (p2 : Int) (p3 : Int) (p4 : Int) (d : Nat) (M : Mem) : C2 d j_x_battleTrouble [vR 11 0, vI p1, vI p2, vI p3, vI p4] M = (bI (C2 d j_x_windTrouble [vR 11 0, vI p1, vI p2] M) fun x2 M1 => if x2 = 0 then (bI (C2 d j_x_within [vL p3, vI 0, vI 12] M1) fun x4 M3 => if x4 = 0 then (some (some (vI 5), M3)) else (bI (C2 d j_x_within [vL p4, vI 0, vI 12] M3) fun x6 M5 => if x6 = 0 then (some (some (vI 5), M5)) else (some (some (vI 0), M5)))) else (some (some (vI x2), M1))) :=
  (DD_ex GR2 MT 28 d r_x_battleTrouble r_x_battleTrouble [(0, vR 11 0), (1, vI p1), (2, vI p2), (3, vI p3), (4, vI p4)] [] M).trans rfl
set_option maxRecDepth 100000 in
set_option maxHeartbeats 4000000 in
theorem q_x_windTrouble (p1 : Int) (p2 : Int) (d : Nat) (M : Mem) : C2 d j_x_windTrouble [vR 11 0, vI p1, vI p2] M = (bI (C2 d j_x_trayTrouble [vR 11 0, vI p1, vL p2] M) fun x2 M1 => if x2 = 0 then (bI (C2 d j_x_within [vL p2, vI 0, vI 12] M1) fun x4 M3 => if x4 = 0 then (some (some (vI 5), M3)) else (E2 d r_x_windTrouble 20 [(0, vR 11 0), (1, vI p1), (2, vI p2), (4, vI 0)] [] M3)) else (some (some (vI x2), M1))) :=
  (DD_ex GR2 MT 18 d r_x_windTrouble r_x_windTrouble [(0, vR 11 0), (1, vI p1), (2, vI p2)] [] M).trans rfl
set_option maxRecDepth 100000 in
set_option maxHeartbeats 4000000 in
theorem q_x_windTrouble_20 (p1 : Int) (p2 : Int) (p4 : Int) (d : Nat) (M : Mem) : E2 d r_x_windTrouble 20 [(0, vR 11 0), (1, vI p1), (2, vI p2), (4, vI p4)] [] M = (if p4 < p2 then (if 0 ≤ p1 ∧ p1 < 4 then (if 0 ≤ p4 ∧ p4 < 60 then (bI (C2 d j_x_within [vL (M.2.1 ((1 + 86 + 2 * (p1).toNat) + 1) (p4).toNat), vI 0, vI 16] M) fun x2 M1 => if x2 = 0 then (some (some (vI 5), M1)) else (E2 d r_x_windTrouble 20 [(0, vR 11 0), (1, vI p1), (2, vI p2), (4, vI (w32 (p4 + 1)))] [] M1)) else none) else none) else (some (some (vI 0), M))) :=
  (DD_ex GR2 MT 18 d r_x_windTrouble (r_x_windTrouble.drop 20) [(0, vR 11 0), (1, vI p1), (2, vI p2), (4, vI p4)] [] M).trans rfl
set_option maxRecDepth 100000 in
set_option maxHeartbeats 4000000 in
theorem q_bt_foresee (p1 : Nat) (p2 : Int) (p3 : Int) (d : Nat) (M : Mem) : C2 d j_bt_foresee [vR 0 68, vR 23 p1, vI p2, vI p3] M = (E2 d r_bt_foresee 5 [(0, vR 0 68), (1, vR 23 p1), (2, vI p2), (3, vI p3), (4, vI 0)] [] (putL M 68 1 1)) :=
  (DD_ex GR2 MT 7 d r_bt_foresee r_bt_foresee [(0, vR 0 68), (1, vR 23 p1), (2, vI p2), (3, vI p3)] [] M).trans rfl
set_option maxRecDepth 100000 in
set_option maxHeartbeats 4000000 in
theorem q_bt_foresee_5 (a1 : Nat) (p2 : Int) (p3 : Int) (p4 : Int) (d : Nat) (M : Mem) : E2 d r_bt_foresee 5 [(0, vR 0 68), (1, vR 23 a1), (2, vI p2), (3, vI p3), (4, vI p4)] [] M = (if 12 < p4 then (E2 d r_bt_foresee 32 [(0, vR 0 68), (1, vR 23 a1), (3, vI p3), (4, vI (w32 (p2 - 1)))] [] M) else (E2 d r_bt_foresee 10 [(0, vR 0 68), (1, vR 23 a1), (2, vI p2), (3, vI p3), (4, vI p4), (5, vI 0)] [] M)) :=
  (DD_ex GR2 MT 9 d r_bt_foresee (r_bt_foresee.drop 5) [(0, vR 0 68), (1, vR 23 a1), (2, vI p2), (3, vI p3), (4, vI p4)] [] M).trans rfl
set_option maxRecDepth 100000 in
set_option maxHeartbeats 4000000 in
theorem q_bt_foresee_10 (a1 : Nat) (p2 : Int) (p3 : Int) (p4 : Int) (p5 : Int) (d : Nat) (M : Mem) : E2 d r_bt_foresee 10 [(0, vR 0 68), (1, vR 23 a1), (2, vI p2), (3, vI p3), (4, vI p4), (5, vI p5)] [] M = (if 12 < p5 then (E2 d r_bt_foresee 5 [(0, vR 0 68), (1, vR 23 a1), (2, vI p2), (3, vI p3), (4, vI (w32 (p4 + 1)))] [] M) else (if 0 ≤ p4 ∧ p4 < 13 then (if p5 = 0 then (if 0 ≤ p5 ∧ p5 < 13 then (E2 d r_bt_foresee 10 [(0, vR 0 68), (1, vR 23 a1), (2, vI p2), (3, vI p3), (4, vI p4), (5, vI (w32 (p5 + 1)))] [] (putL M (69 + 1 + 1 * (p4).toNat) (p5).toNat 1)) else none) else (if 0 ≤ p5 ∧ p5 < 13 then (E2 d r_bt_foresee 10 [(0, vR 0 68), (1, vR 23 a1), (2, vI p2), (3, vI p3), (4, vI p4), (5, vI (w32 (p5 + 1)))] [] (putL M (69 + 1 + 1 * (p4).toNat) (p5).toNat 0)) else none)) else none)) :=
  (DD_ex GR2 MT 17 d r_bt_foresee (r_bt_foresee.drop 10) [(0, vR 0 68), (1, vR 23 a1), (2, vI p2), (3, vI p3), (4, vI p4), (5, vI p5)] [] M).trans rfl
set_option maxRecDepth 100000 in
set_option maxHeartbeats 4000000 in
theorem q_bt_foresee_32 (a1 : Nat) (p3 : Int) (p4 : Int) (d : Nat) (M : Mem) : E2 d r_bt_foresee 32 [(0, vR 0 68), (1, vR 23 a1), (3, vI p3), (4, vI p4)] [] M = (if p4 < p3 then (some (none, M)) else (if 0 ≤ p4 ∧ p4 < 60 then (bV (C2 d j_bt_foreseeTurn [vR 0 68, vL (M.2.1 a1 (p4).toNat)] M) fun M1 => E2 d r_bt_foresee 32 [(0, vR 0 68), (1, vR 23 a1), (3, vI p3), (4, vI (w32 (p4 + (-1))))] [] (putL M1 68 1 (w64 ((M1.2.1 68 1) * 16)))) else none)) :=
  (DD_ex GR2 MT 18 d r_bt_foresee (r_bt_foresee.drop 32) [(0, vR 0 68), (1, vR 23 a1), (3, vI p3), (4, vI p4)] [] M).trans rfl
set_option maxRecDepth 100000 in
set_option maxHeartbeats 4000000 in
theorem q_bt_foreseeTurn (p1 : Int) (d : Nat) (M : Mem) : C2 d j_bt_foreseeTurn [vR 0 68, vL p1] M = (E2 d r_bt_foreseeTurn 2 [(0, vR 0 68), (1, vL p1), (3, vI 12)] [] M) :=
  (DD_ex GR2 MT 4 d r_bt_foreseeTurn r_bt_foreseeTurn [(0, vR 0 68), (1, vL p1)] [] M).trans rfl
set_option maxRecDepth 100000 in
set_option maxHeartbeats 4000000 in
theorem q_bt_foreseeTurn_2 (p1 : Int) (p3 : Int) (d : Nat) (M : Mem) : E2 d r_bt_foreseeTurn 2 [(0, vR 0 68), (1, vL p1), (3, vI p3)] [] M = (if p3 < 0 then (some (none, M)) else (E2 d r_bt_foreseeTurn 6 [(0, vR 0 68), (1, vL p1), (3, vI p3), (4, vI 12)] [] M)) :=
  (DD_ex GR2 MT 6 d r_bt_foreseeTurn (r_bt_foreseeTurn.drop 2) [(0, vR 0 68), (1, vL p1), (3, vI p3)] [] M).trans rfl
set_option maxRecDepth 100000 in
set_option maxHeartbeats 4000000 in
theorem q_bt_foreseeTurn_6 (p1 : Int) (p3 : Int) (p4 : Int) (d : Nat) (M : Mem) : E2 d r_bt_foreseeTurn 6 [(0, vR 0 68), (1, vL p1), (3, vI p3), (4, vI p4)] [] M = (if p4 < 0 then (E2 d r_bt_foreseeTurn 2 [(0, vR 0 68), (1, vL p1), (3, vI (w32 (p3 + (-1))))] [] M) else (if 0 ≤ p3 ∧ p3 < 13 then (bL (C2 d j_bt_kept [vR 0 68, vI p3, vI p4] M) fun x2 M1 => bL (C2 d j_bt_thrown [vR 0 68, vL p1, vI p3, vI p4] M1) fun x4 M3 => bL (C2 d j_math_max_J [vL x2, vL x4] M3) fun x6 M5 => if 0 ≤ p4 ∧ p4 < 13 then (E2 d r_bt_foreseeTurn 6 [(0, vR 0 68), (1, vL p1), (3, vI p3), (4, vI (w32 (p4 + (-1))))] [] (putL M5 (69 + 1 + 1 * (p3).toNat) (p4).toNat x6)) else none) else none)) :=
  (DD_ex GR2 MT 22 d r_bt_foreseeTurn (r_bt_foreseeTurn.drop 6) [(0, vR 0 68), (1, vL p1), (3, vI p3), (4, vI p4)] [] M).trans rfl
set_option maxRecDepth 100000 in
set_option maxHeartbeats 4000000 in
theorem q_bt_kept (p1 : Int) (p2 : Int) (d : Nat) (M : Mem) : C2 d j_bt_kept [vR 0 68, vI p1, vI p2] M = (if 0 ≤ p1 ∧ p1 < 13 then (if 0 ≤ p2 ∧ p2 < 13 then (some (some (vL (w64 (16 * (M.2.1 (69 + 1 + 1 * (p1).toNat) (p2).toNat)))), M)) else none) else none) :=
  (DD_ex GR2 MT 10 d r_bt_kept r_bt_kept [(0, vR 0 68), (1, vI p1), (2, vI p2)] [] M).trans rfl
set_option maxRecDepth 100000 in
set_option maxHeartbeats 4000000 in
theorem q_bt_thrown (p1 : Int) (p2 : Int) (p3 : Int) (d : Nat) (M : Mem) : C2 d j_bt_thrown [vR 0 68, vL p1, vI p2, vI p3] M = (if 0 < p2 then (if 0 < p3 then (if 0 ≤ (w32 (p2 - 1)) ∧ (w32 (p2 - 1)) < 13 then (if 0 ≤ (w32 (p3 - 1)) ∧ (w32 (p3 - 1)) < 13 then (if 0 ≤ (w32 (p2 - 1)) ∧ (w32 (p2 - 1)) < 13 then (if 0 ≤ p3 ∧ p3 < 13 then (some (some (vL (w64 ((w64 (p1 * (M.2.1 (69 + 1 + 1 * (w32 (p2 - 1)).toNat) (w32 (p3 - 1)).toNat))) + (w64 ((w64 (16 - p1)) * (M.2.1 (69 + 1 + 1 * (w32 (p2 - 1)).toNat) (p3).toNat)))))), M)) else none) else none) else none) else none) else (bL (C2 d j_bt_kept [vR 0 68, vI p2, vI p3] M) fun x2 M1 => some (some (vL x2), M1))) else (bL (C2 d j_bt_kept [vR 0 68, vI p2, vI p3] M) fun x4 M3 => some (some (vL x4), M3))) :=
  (DD_ex GR2 MT 31 d r_bt_thrown r_bt_thrown [(0, vR 0 68), (1, vL p1), (3, vI p2), (4, vI p3)] [] M).trans rfl
set_option maxRecDepth 100000 in
set_option maxHeartbeats 4000000 in
theorem q_math_max_J (p0 : Int) (p1 : Int) (d : Nat) (M : Mem) : C2 d j_math_max_J [vL p0, vL p1] M = (if (ycmp p0 p1) < 0 then (some (some (vL p1), M)) else (some (some (vL p0), M))) :=
  (DD_ex GR2 MT 8 d r_math_max_J r_math_max_J [(0, vL p0), (2, vL p1)] [] M).trans rfl
set_option maxRecDepth 100000 in
set_option maxHeartbeats 4000000 in
theorem q_x_tellFraction (p1 : Int) (p2 : Int) (d : Nat) (M : Mem) : C2 d j_x_tellFraction [vR 11 0, vL p1, vL p2] M = (bL (C2 d j_x_commonDivisor [vL p1, vL p2] M) fun x2 M1 => if (ycmp x2 0) = 0 then (if (ycmp x2 0) = 0 then (some (none, (putL (putL M1 0 1 0) 0 2 1))) else (if x2 = 0 then none else some (none, (putL (putL M1 0 1 0) 0 2 (ydiv p2 x2))))) else (if x2 = 0 then none else if (ycmp x2 0) = 0 then (some (none, (putL (putL M1 0 1 (ydiv p1 x2)) 0 2 1))) else (if x2 = 0 then none else some (none, (putL (putL M1 0 1 (ydiv p1 x2)) 0 2 (ydiv p2 x2)))))) :=
  (DD_ex GR2 MT 24 d r_x_tellFraction r_x_tellFraction [(0, vR 11 0), (1, vL p1), (3, vL p2)] [] M).trans rfl
set_option maxRecDepth 100000 in
set_option maxHeartbeats 4000000 in
theorem q_x_commonDivisor (p0 : Int) (p1 : Int) (d : Nat) (M : Mem) : C2 d j_x_commonDivisor [vL p0, vL p1] M = (E2 d r_x_commonDivisor 2 [(0, vL p0), (2, vL p1), (4, vI 0)] [] M) :=
  (DD_ex GR2 MT 4 d r_x_commonDivisor r_x_commonDivisor [(0, vL p0), (2, vL p1)] [] M).trans rfl
set_option maxRecDepth 100000 in
set_option maxHeartbeats 4000000 in
theorem q_x_commonDivisor_2 (p0 : Int) (p2 : Int) (p4 : Int) (d : Nat) (M : Mem) : E2 d r_x_commonDivisor 2 [(0, vL p0), (2, vL p2), (4, vI p4)] [] M = (if p4 < 200 then (if (ycmp p2 0) = 0 then (some (some (vL p0), M)) else (if p2 = 0 then none else E2 d r_x_commonDivisor 2 [(0, vL p2), (2, vL (yrem p0 p2)), (4, vI (w32 (p4 + 1)))] [] M)) else (some (some (vL p0), M))) :=
  (DD_ex GR2 MT 19 d r_x_commonDivisor (r_x_commonDivisor.drop 2) [(0, vL p0), (2, vL p2), (4, vI p4)] [] M).trans rfl
set_option maxRecDepth 100000 in
set_option maxHeartbeats 4000000 in
theorem q_x_throwFirst (p1 : Int) (p2 : Int) (p3 : Int) (p4 : Int) (d : Nat) (M : Mem) : C2 d j_x_throwFirst [vR 11 0, vI p1, vI p2, vI p3, vI p4] M = (bI (C2 d j_x_battleTrouble [vR 11 0, vI p1, vI p2, vI p3, vI p4] M) fun x2 M1 => if x2 = 0 then (if p2 = 0 then (bI (C2 d j_x_refuse [vR 11 0, vI 5] M1) fun x4 M3 => some (some (vI x4), M3)) else (if 0 ≤ p1 ∧ p1 < 4 then (bV (C2 d j_bt_foresee [vR 0 68, vR 23 ((1 + 86 + 2 * (p1).toNat) + 1), vI p2, vI 1] M1) fun M5 => if 0 ≤ p1 ∧ p1 < 4 then (bL (C2 d j_bt_thrown [vR 0 68, vL (M5.2.1 ((1 + 86 + 2 * (p1).toNat) + 1) 0), vI p3, vI p4] M5) fun x7 M6 => bL (C2 d j_bt_kept [vR 0 68, vI p3, vI p4] M6) fun x9 M8 => if 0 < (ycmp x7 x9) then (bI (C2 d j_x_answerIf [vR 11 0, vI 1] M8) fun x11 M10 => some (some (vI x11), M10)) else (bI (C2 d j_x_answerIf [vR 11 0, vI 0] M8) fun x13 M12 => some (some (vI x13), M12))) else none) else none)) else (bI (C2 d j_x_refuse [vR 11 0, vI x2] M1) fun x15 M14 => some (some (vI x15), M14))) :=
  (DD_ex GR2 MT 48 d r_x_throwFirst r_x_throwFirst [(0, vR 11 0), (1, vI p1), (2, vI p2), (3, vI p3), (4, vI p4)] [] M).trans rfl
set_option maxRecDepth 100000 in
set_option maxHeartbeats 4000000 in
theorem q_x_jarsToWin (p1 : Int) (p2 : Int) (p3 : Int) (p4 : Int) (d : Nat) (M : Mem) : C2 d j_x_jarsToWin [vR 11 0, vI p1, vI p2, vI p3, vI p4] M = (bI (C2 d j_x_battleTrouble [vR 11 0, vI p1, vI p2, vI 0, vI p3] M) fun x2 M1 => if x2 = 0 then (bI (C2 d j_x_within [vL p4, vI 0, vI 16] M1) fun x4 M3 => if x4 = 0 then (bI (C2 d j_x_refuse [vR 11 0, vI 5] M3) fun x6 M5 => some (some (vI x6), M5)) else (if 0 ≤ p1 ∧ p1 < 4 then (bV (C2 d j_bt_foresee [vR 0 68, vR 23 ((1 + 86 + 2 * (p1).toNat) + 1), vI p2, vI 0] M3) fun M7 => E2 d r_x_jarsToWin 35 [(0, vR 11 0), (3, vI p3), (4, vI p4), (6, vI 0)] [] M7) else none)) else (bI (C2 d j_x_refuse [vR 11 0, vI x2] M1) fun x9 M8 => some (some (vI x9), M8))) :=
  (DD_ex GR2 MT 29 d r_x_jarsToWin r_x_jarsToWin [(0, vR 11 0), (1, vI p1), (2, vI p2), (3, vI p3), (4, vI p4)] [] M).trans rfl
set_option maxRecDepth 100000 in
set_option maxHeartbeats 4000000 in
theorem q_x_jarsToWin_35 (p3 : Int) (p4 : Int) (p6 : Int) (d : Nat) (M : Mem) : E2 d r_x_jarsToWin 35 [(0, vR 11 0), (3, vI p3), (4, vI p4), (6, vI p6)] [] M = (if 12 < p6 then (bI (C2 d j_x_refuse [vR 11 0, vI 8] M) fun x2 M1 => some (some (vI x2), M1)) else (if 0 ≤ p6 ∧ p6 < 13 then (if 0 ≤ p3 ∧ p3 < 13 then (if (ycmp (w64 ((M.2.1 (69 + 1 + 1 * (p6).toNat) (p3).toNat) * 16)) (w64 ((M.2.1 68 1) * p4))) < 0 then (E2 d r_x_jarsToWin 35 [(0, vR 11 0), (3, vI p3), (4, vI p4), (6, vI (w32 (p6 + 1)))] [] M) else (bI (C2 d j_x_answer [vR 11 0, vI p6] M) fun x4 M3 => some (some (vI x4), M3))) else none) else none)) :=
  (DD_ex GR2 MT 25 d r_x_jarsToWin (r_x_jarsToWin.drop 35) [(0, vR 11 0), (3, vI p3), (4, vI p4), (6, vI p6)] [] M).trans rfl
set_option maxRecDepth 100000 in
set_option maxHeartbeats 4000000 in
theorem q_x_tries (p1 : Int) (d : Nat) (M : Mem) : C2 d j_x_tries [vR 11 0, vI p1] M = (if p1 = 0 then (bI (C2 d j_em_triesOneByOne [vR 1 11] M) fun x2 M1 => bI (C2 d j_x_answer [vR 11 0, vI x2] M1) fun x4 M3 => some (some (vL x4), M3)) else if p1 = 1 then (bI (C2 d j_em_triesAtOnce [vR 1 11, vI (M.1 11 5)] M) fun x6 M5 => bI (C2 d j_x_answer [vR 11 0, vI x6] M5) fun x8 M7 => some (some (vL x8), M7)) else (bI (C2 d j_x_refuse [vR 11 0, vI 5] M) fun x10 M9 => some (some (vL x10), M9))) :=
  (DD_ex GR2 MT 13 d r_x_tries r_x_tries [(0, vR 11 0), (1, vI p1)] [] M).trans rfl
set_option maxRecDepth 100000 in
set_option maxHeartbeats 4000000 in
theorem q_em_triesOneByOne (p0 : Nat) (d : Nat) (M : Mem) : C2 d j_em_triesOneByOne [vR 1 p0] M = (E2 d r_em_triesOneByOne 4 [(0, vR 1 p0), (1, vI 0), (2, vI 0)] [] M) :=
  (DD_ex GR2 MT 6 d r_em_triesOneByOne r_em_triesOneByOne [(0, vR 1 p0)] [] M).trans rfl
set_option maxRecDepth 100000 in
set_option maxHeartbeats 4000000 in
theorem q_em_triesOneByOne_4 (a0 : Nat) (p1 : Int) (p2 : Int) (d : Nat) (M : Mem) : E2 d r_em_triesOneByOne 4 [(0, vR 1 a0), (1, vI p1), (2, vI p2)] [] M = (if p2 < (M.1 a0 7) then (if (xand (xshr (M.1 a0 5) p2) 1) = 1 then (E2 d r_em_triesOneByOne 4 [(0, vR 1 a0), (1, vI (w32 (p1 + 0))), (2, vI (w32 (p2 + 1)))] [] M) else (if 0 ≤ p2 ∧ p2 < 6 then (E2 d r_em_triesOneByOne 4 [(0, vR 1 a0), (1, vI (w32 (p1 + (M.1 ((a0 + 1) + 9 + 1 * (p2).toNat) 2)))), (2, vI (w32 (p2 + 1)))] [] M) else none)) else (some (some (vI p1), M))) :=
  (DD_ex GR2 MT 24 d r_em_triesOneByOne (r_em_triesOneByOne.drop 4) [(0, vR 1 a0), (1, vI p1), (2, vI p2)] [] M).trans rfl
set_option maxRecDepth 100000 in
set_option maxHeartbeats 4000000 in
theorem q_em_triesAtOnce (p0 : Nat) (p1 : Int) (d : Nat) (M : Mem) : C2 d j_em_triesAtOnce [vR 1 p0, vI p1] M = (E2 d r_em_triesAtOnce 4 [(0, vR 1 p0), (1, vI p1), (2, vI 1), (3, vI 0)] [] M) :=
  (DD_ex GR2 MT 6 d r_em_triesAtOnce r_em_triesAtOnce [(0, vR 1 p0), (1, vI p1)] [] M).trans rfl
set_option maxRecDepth 100000 in
set_option maxHeartbeats 4000000 in
theorem q_em_triesAtOnce_4 (a0 : Nat) (p1 : Int) (p2 : Int) (p3 : Int) (d : Nat) (M : Mem) : E2 d r_em_triesAtOnce 4 [(0, vR 1 a0), (1, vI p1), (2, vI p2), (3, vI p3)] [] M = (if p3 < (M.1 a0 7) then (if (xand (xshr p1 p3) 1) = 1 then (E2 d r_em_triesAtOnce 4 [(0, vR 1 a0), (1, vI p1), (2, vI (w32 (p2 * 1))), (3, vI (w32 (p3 + 1)))] [] M) else (if 0 ≤ p3 ∧ p3 < 6 then (E2 d r_em_triesAtOnce 4 [(0, vR 1 a0), (1, vI p1), (2, vI (w32 (p2 * (M.1 ((a0 + 1) + 9 + 1 * (p3).toNat) 2)))), (3, vI (w32 (p3 + 1)))] [] M) else none)) else (some (some (vI p2), M))) :=
  (DD_ex GR2 MT 23 d r_em_triesAtOnce (r_em_triesAtOnce.drop 4) [(0, vR 1 a0), (1, vI p1), (2, vI p2), (3, vI p3)] [] M).trans rfl
set_option maxRecDepth 100000 in
set_option maxHeartbeats 4000000 in
theorem q_x_worstLoss (d : Nat) (M : Mem) : C2 d j_x_worstLoss [vR 11 0] M = (bI (C2 d j_em_worstToLose [vR 1 11] M) fun x2 M1 => bI (C2 d j_x_answerOrNothing [vR 11 0, vI x2] M1) fun x4 M3 => some (some (vI x4), M3)) :=
  (DD_ex GR2 MT 7 d r_x_worstLoss r_x_worstLoss [(0, vR 11 0)] [] M).trans rfl
set_option maxRecDepth 100000 in
set_option maxHeartbeats 4000000 in
theorem q_em_worstToLose (p0 : Nat) (d : Nat) (M : Mem) : C2 d j_em_worstToLose [vR 1 p0] M = (E2 d r_em_worstToLose 6 [(0, vR 1 p0), (1, vI (-1)), (2, vI 0), (3, vI 0)] [] M) :=
  (DD_ex GR2 MT 8 d r_em_worstToLose r_em_worstToLose [(0, vR 1 p0)] [] M).trans rfl
set_option maxRecDepth 100000 in
set_option maxHeartbeats 4000000 in
theorem q_em_worstToLose_6 (a0 : Nat) (p1 : Int) (p2 : Int) (p3 : Int) (d : Nat) (M : Mem) : E2 d r_em_worstToLose 6 [(0, vR 1 a0), (1, vI p1), (2, vI p2), (3, vI p3)] [] M = (if p3 < (M.1 a0 8) then (if 0 ≤ p3 ∧ p3 < 8 then (bI (C2 d j_em_triesAtOnce [vR 1 a0, vI (xor32 (M.1 a0 5) (M.1 ((a0 + 2) + 14 + 1 * (p3).toNat) 3))] M) fun x2 M1 => if 0 ≤ p3 ∧ p3 < 8 then (if (M1.1 ((a0 + 2) + 14 + 1 * (p3).toNat) 4) = 0 then (if p1 = (-1) then (E2 d r_em_worstToLose 6 [(0, vR 1 a0), (1, vI p3), (2, vI x2), (3, vI (w32 (p3 + 1)))] [] M1) else (if x2 < p2 then (E2 d r_em_worstToLose 6 [(0, vR 1 a0), (1, vI p3), (2, vI x2), (3, vI (w32 (p3 + 1)))] [] M1) else (E2 d r_em_worstToLose 6 [(0, vR 1 a0), (1, vI p1), (2, vI p2), (3, vI (w32 (p3 + 1)))] [] M1))) else (E2 d r_em_worstToLose 6 [(0, vR 1 a0), (1, vI p1), (2, vI p2), (3, vI (w32 (p3 + 1)))] [] M1)) else none) else none) else (some (some (vI p1), M))) :=
  (DD_ex GR2 MT 35 d r_em_worstToLose (r_em_worstToLose.drop 6) [(0, vR 1 a0), (1, vI p1), (2, vI p2), (3, vI p3)] [] M).trans rfl
set_option maxRecDepth 100000 in
set_option maxHeartbeats 4000000 in
theorem q_x_needed (p1 : Int) (p2 : Int) (d : Nat) (M : Mem) : C2 d j_x_needed [vR 11 0, vI p1, vI p2] M = (bI (C2 d j_x_toldTrouble [vR 11 0, vI p1, vI p2] M) fun x2 M1 => if x2 = 0 then (if 0 ≤ p1 ∧ p1 < 4 then (bL (C2 d j_em_waysNeeded [vR 1 11, vR 23 ((1 + 86 + 2 * (p1).toNat) + 1), vI p2] M1) fun x4 M3 => bI (C2 d j_long_bitCount [vL x4] M3) fun x6 M5 => bI (C2 d j_x_answer [vR 11 0, vI x6] M5) fun x8 M7 => some (some (vI x8), M7)) else none) else (bI (C2 d j_x_refuse [vR 11 0, vI x2] M1) fun x10 M9 => some (some (vI x10), M9))) :=
  (DD_ex GR2 MT 21 d r_x_needed r_x_needed [(0, vR 11 0), (1, vI p1), (2, vI p2)] [] M).trans rfl
set_option maxRecDepth 100000 in
set_option maxHeartbeats 4000000 in
theorem q_x_toldTrouble (p1 : Int) (p2 : Int) (d : Nat) (M : Mem) : C2 d j_x_toldTrouble [vR 11 0, vI p1, vI p2] M = (bI (C2 d j_x_trayTrouble [vR 11 0, vI p1, vL (w64 (2 * p2))] M) fun x2 M1 => if x2 = 0 then (bI (C2 d j_x_within [vL p2, vI 0, vI 20] M1) fun x4 M3 => if x4 = 0 then (some (some (vI 5), M3)) else (if 0 ≤ p1 ∧ p1 < 4 then (E2 d r_x_toldTrouble 28 [(0, vR 11 0), (2, vI p2), (4, vR 23 ((1 + 86 + 2 * (p1).toNat) + 1)), (5, vI 0)] [] M3) else none)) else (some (some (vI x2), M1))) :=
  (DD_ex GR2 MT 26 d r_x_toldTrouble r_x_toldTrouble [(0, vR 11 0), (1, vI p1), (2, vI p2)] [] M).trans rfl
set_option maxRecDepth 100000 in
set_option maxHeartbeats 4000000 in
theorem q_x_toldTrouble_28 (p2 : Int) (a4 : Nat) (p5 : Int) (d : Nat) (M : Mem) : E2 d r_x_toldTrouble 28 [(0, vR 11 0), (2, vI p2), (4, vR 23 a4), (5, vI p5)] [] M = (if p5 < p2 then (if 0 ≤ (w32 (2 * p5)) ∧ (w32 (2 * p5)) < 60 then (bI (C2 d j_em_isHandSet [vR 1 11, vL (M.2.1 a4 (w32 (2 * p5)).toNat)] M) fun x2 M1 => if x2 = 0 then (some (some (vI 5), M1)) else (if 0 ≤ (w32 ((w32 (2 * p5)) + 1)) ∧ (w32 ((w32 (2 * p5)) + 1)) < 60 then (bI (C2 d j_x_within [vL (M1.2.1 a4 (w32 ((w32 (2 * p5)) + 1)).toNat), vI 0, vI 1] M1) fun x4 M3 => if x4 = 0 then (some (some (vI 5), M3)) else (E2 d r_x_toldTrouble 28 [(0, vR 11 0), (2, vI p2), (4, vR 23 a4), (5, vI (w32 (p5 + 1)))] [] M3)) else none)) else none) else (some (some (vI 0), M))) :=
  (DD_ex GR2 MT 27 d r_x_toldTrouble (r_x_toldTrouble.drop 28) [(0, vR 11 0), (2, vI p2), (4, vR 23 a4), (5, vI p5)] [] M).trans rfl
set_option maxRecDepth 100000 in
set_option maxHeartbeats 4000000 in
theorem q_em_waysNeeded (p0 : Nat) (p1 : Nat) (p2 : Int) (d : Nat) (M : Mem) : C2 d j_em_waysNeeded [vR 1 p0, vR 23 p1, vI p2] M = (bI (C2 d j_em_allParts [vR 1 p0] M) fun x2 M1 => bL (C2 d j_em_waysWithin [vL (-2), vI x2] M1) fun x4 M3 => E2 d r_em_waysNeeded 7 [(0, vR 1 p0), (1, vR 23 p1), (2, vI p2), (3, vL x4), (5, vI 0)] [] M3) :=
  (DD_ex GR2 MT 9 d r_em_waysNeeded r_em_waysNeeded [(0, vR 1 p0), (1, vR 23 p1), (2, vI p2)] [] M).trans rfl
set_option maxRecDepth 100000 in
set_option maxHeartbeats 4000000 in
theorem q_em_waysNeeded_7 (a0 : Nat) (a1 : Nat) (p2 : Int) (p3 : Int) (p5 : Int) (d : Nat) (M : Mem) : E2 d r_em_waysNeeded 7 [(0, vR 1 a0), (1, vR 23 a1), (2, vI p2), (3, vL p3), (5, vI p5)] [] M = (if p5 < p2 then (if 0 ≤ (w32 (2 * p5)) ∧ (w32 (2 * p5)) < 60 then (bI (C2 d j_em_knowledgeOf [vR 1 a0, vI (w32 (M.2.1 a1 (w32 (2 * p5)).toNat))] M) fun x2 M1 => bL (C2 d j_em_waysWithin [vL p3, vI x2] M1) fun x4 M3 => if 0 ≤ (w32 ((w32 (2 * p5)) + 1)) ∧ (w32 ((w32 (2 * p5)) + 1)) < 60 then (if (ycmp (M3.2.1 a1 (w32 ((w32 (2 * p5)) + 1)).toNat) 1) = 0 then (E2 d r_em_waysNeeded 7 [(0, vR 1 a0), (1, vR 23 a1), (2, vI p2), (3, vL x4), (5, vI (w32 (p5 + 1)))] [] M3) else (E2 d r_em_waysNeeded 7 [(0, vR 1 a0), (1, vR 23 a1), (2, vI p2), (3, vL (yand p3 (yxor x4 (-1)))), (5, vI (w32 (p5 + 1)))] [] M3)) else none) else none) else (some (some (vL p3), M))) :=
  (DD_ex GR2 MT 34 d r_em_waysNeeded (r_em_waysNeeded.drop 7) [(0, vR 1 a0), (1, vR 23 a1), (2, vI p2), (3, vL p3), (5, vI p5)] [] M).trans rfl
set_option maxRecDepth 100000 in
set_option maxHeartbeats 4000000 in
theorem q_em_waysWithin (p0 : Int) (p1 : Int) (d : Nat) (M : Mem) : C2 d j_em_waysWithin [vL p0, vI p1] M = (E2 d r_em_waysWithin 4 [(2, vI p1), (3, vL p0), (5, vI 0)] [] M) :=
  (DD_ex GR2 MT 6 d r_em_waysWithin r_em_waysWithin [(0, vL p0), (2, vI p1)] [] M).trans rfl
set_option maxRecDepth 100000 in
set_option maxHeartbeats 4000000 in
theorem q_em_waysWithin_4 (p2 : Int) (p3 : Int) (p5 : Int) (d : Nat) (M : Mem) : E2 d r_em_waysWithin 4 [(2, vI p2), (3, vL p3), (5, vI p5)] [] M = (if p5 < 6 then (if (xand (xshr p2 p5) 1) = 0 then (if 0 ≤ p5 ∧ p5 < 6 then (E2 d r_em_waysWithin 4 [(2, vI p2), (3, vL (yand p3 (yxor (setsF.getD (p5).toNat 0) (-1)))), (5, vI (w32 (p5 + 1)))] [] M) else none) else (E2 d r_em_waysWithin 4 [(2, vI p2), (3, vL p3), (5, vI (w32 (p5 + 1)))] [] M)) else (some (some (vL p3), M))) :=
  (DD_ex GR2 MT 21 d r_em_waysWithin (r_em_waysWithin.drop 4) [(2, vI p2), (3, vL p3), (5, vI p5)] [] M).trans rfl
set_option maxRecDepth 100000 in
set_option maxHeartbeats 4000000 in
theorem q_long_bitCount (p0 : Int) (d : Nat) (M : Mem) : C2 d j_long_bitCount [vL p0] M = (some (some (vI (xand (w32 (w64 ((w64 ((w64 ((yand (w64 ((w64 ((yand (w64 (p0 - (yand (yushr p0 1) 6148914691236517205))) 3689348814741910323) + (yand (yushr (w64 (p0 - (yand (yushr p0 1) 6148914691236517205))) 2) 3689348814741910323))) + (yushr (w64 ((yand (w64 (p0 - (yand (yushr p0 1) 6148914691236517205))) 3689348814741910323) + (yand (yushr (w64 (p0 - (yand (yushr p0 1) 6148914691236517205))) 2) 3689348814741910323))) 4))) 1085102592571150095) + (yushr (yand (w64 ((w64 ((yand (w64 (p0 - (yand (yushr p0 1) 6148914691236517205))) 3689348814741910323) + (yand (yushr (w64 (p0 - (yand (yushr p0 1) 6148914691236517205))) 2) 3689348814741910323))) + (yushr (w64 ((yand (w64 (p0 - (yand (yushr p0 1) 6148914691236517205))) 3689348814741910323) + (yand (yushr (w64 (p0 - (yand (yushr p0 1) 6148914691236517205))) 2) 3689348814741910323))) 4))) 1085102592571150095) 8))) + (yushr (w64 ((yand (w64 ((w64 ((yand (w64 (p0 - (yand (yushr p0 1) 6148914691236517205))) 3689348814741910323) + (yand (yushr (w64 (p0 - (yand (yushr p0 1) 6148914691236517205))) 2) 3689348814741910323))) + (yushr (w64 ((yand (w64 (p0 - (yand (yushr p0 1) 6148914691236517205))) 3689348814741910323) + (yand (yushr (w64 (p0 - (yand (yushr p0 1) 6148914691236517205))) 2) 3689348814741910323))) 4))) 1085102592571150095) + (yushr (yand (w64 ((w64 ((yand (w64 (p0 - (yand (yushr p0 1) 6148914691236517205))) 3689348814741910323) + (yand (yushr (w64 (p0 - (yand (yushr p0 1) 6148914691236517205))) 2) 3689348814741910323))) + (yushr (w64 ((yand (w64 (p0 - (yand (yushr p0 1) 6148914691236517205))) 3689348814741910323) + (yand (yushr (w64 (p0 - (yand (yushr p0 1) 6148914691236517205))) 2) 3689348814741910323))) 4))) 1085102592571150095) 8))) 16))) + (yushr (w64 ((w64 ((yand (w64 ((w64 ((yand (w64 (p0 - (yand (yushr p0 1) 6148914691236517205))) 3689348814741910323) + (yand (yushr (w64 (p0 - (yand (yushr p0 1) 6148914691236517205))) 2) 3689348814741910323))) + (yushr (w64 ((yand (w64 (p0 - (yand (yushr p0 1) 6148914691236517205))) 3689348814741910323) + (yand (yushr (w64 (p0 - (yand (yushr p0 1) 6148914691236517205))) 2) 3689348814741910323))) 4))) 1085102592571150095) + (yushr (yand (w64 ((w64 ((yand (w64 (p0 - (yand (yushr p0 1) 6148914691236517205))) 3689348814741910323) + (yand (yushr (w64 (p0 - (yand (yushr p0 1) 6148914691236517205))) 2) 3689348814741910323))) + (yushr (w64 ((yand (w64 (p0 - (yand (yushr p0 1) 6148914691236517205))) 3689348814741910323) + (yand (yushr (w64 (p0 - (yand (yushr p0 1) 6148914691236517205))) 2) 3689348814741910323))) 4))) 1085102592571150095) 8))) + (yushr (w64 ((yand (w64 ((w64 ((yand (w64 (p0 - (yand (yushr p0 1) 6148914691236517205))) 3689348814741910323) + (yand (yushr (w64 (p0 - (yand (yushr p0 1) 6148914691236517205))) 2) 3689348814741910323))) + (yushr (w64 ((yand (w64 (p0 - (yand (yushr p0 1) 6148914691236517205))) 3689348814741910323) + (yand (yushr (w64 (p0 - (yand (yushr p0 1) 6148914691236517205))) 2) 3689348814741910323))) 4))) 1085102592571150095) + (yushr (yand (w64 ((w64 ((yand (w64 (p0 - (yand (yushr p0 1) 6148914691236517205))) 3689348814741910323) + (yand (yushr (w64 (p0 - (yand (yushr p0 1) 6148914691236517205))) 2) 3689348814741910323))) + (yushr (w64 ((yand (w64 (p0 - (yand (yushr p0 1) 6148914691236517205))) 3689348814741910323) + (yand (yushr (w64 (p0 - (yand (yushr p0 1) 6148914691236517205))) 2) 3689348814741910323))) 4))) 1085102592571150095) 8))) 16))) 32)))) 127)), M)) :=
  (DD_ex GR2 MT 50 d r_long_bitCount r_long_bitCount [(0, vL p0)] [] M).trans rfl
set_option maxRecDepth 100000 in
set_option maxHeartbeats 4000000 in
theorem q_x_sure (p1 : Int) (p2 : Int) (d : Nat) (M : Mem) : C2 d j_x_sure [vR 11 0, vI p1, vI p2] M = (bI (C2 d j_x_toldTrouble [vR 11 0, vI p1, vI p2] M) fun x2 M1 => if x2 = 0 then (if 0 ≤ p1 ∧ p1 < 4 then (bL (C2 d j_em_waysNeeded [vR 1 11, vR 23 ((1 + 86 + 2 * (p1).toNat) + 1), vI p2] M1) fun x4 M3 => if (ycmp x4 0) = 0 then (bI (C2 d j_x_refuse [vR 11 0, vI 8] M3) fun x6 M5 => some (some (vI x6), M5)) else (bI (C2 d j_em_commonParts [vR 1 11, vL x4] M3) fun x8 M7 => bI (C2 d j_x_answer [vR 11 0, vI x8] M7) fun x10 M9 => some (some (vI x10), M9))) else none) else (bI (C2 d j_x_refuse [vR 11 0, vI x2] M1) fun x12 M11 => some (some (vI x12), M11))) :=
  (DD_ex GR2 MT 29 d r_x_sure r_x_sure [(0, vR 11 0), (1, vI p1), (2, vI p2)] [] M).trans rfl
set_option maxRecDepth 100000 in
set_option maxHeartbeats 4000000 in
theorem q_em_commonParts (p0 : Nat) (p1 : Int) (d : Nat) (M : Mem) : C2 d j_em_commonParts [vR 1 p0, vL p1] M = (E2 d r_em_commonParts 4 [(0, vR 1 p0), (1, vL p1), (3, vI 0), (4, vI 0)] [] M) :=
  (DD_ex GR2 MT 6 d r_em_commonParts r_em_commonParts [(0, vR 1 p0), (1, vL p1)] [] M).trans rfl
set_option maxRecDepth 100000 in
set_option maxHeartbeats 4000000 in
theorem q_em_commonParts_4 (a0 : Nat) (p1 : Int) (p3 : Int) (p4 : Int) (d : Nat) (M : Mem) : E2 d r_em_commonParts 4 [(0, vR 1 a0), (1, vL p1), (3, vI p3), (4, vI p4)] [] M = (if p4 < (M.1 a0 7) then (if 0 ≤ p4 ∧ p4 < 6 then (if (ycmp (yand p1 (yxor (setsF.getD (p4).toNat 0) (-1))) 0) = 0 then (E2 d r_em_commonParts 4 [(0, vR 1 a0), (1, vL p1), (3, vI (xor32 p3 (xshl 1 p4))), (4, vI (w32 (p4 + 1)))] [] M) else (E2 d r_em_commonParts 4 [(0, vR 1 a0), (1, vL p1), (3, vI p3), (4, vI (w32 (p4 + 1)))] [] M)) else none) else (some (some (vI p3), M))) :=
  (DD_ex GR2 MT 24 d r_em_commonParts (r_em_commonParts.drop 4) [(0, vR 1 a0), (1, vL p1), (3, vI p3), (4, vI p4)] [] M).trans rfl
set_option maxRecDepth 100000 in
set_option maxHeartbeats 4000000 in
theorem q_x_ask (p1 : Int) (p2 : Int) (d : Nat) (M : Mem) : C2 d j_x_ask [vR 11 0, vI p1, vI p2] M = (bI (C2 d j_x_toldTrouble [vR 11 0, vI p1, vI p2] M) fun x2 M1 => if x2 = 0 then (if 0 ≤ p1 ∧ p1 < 4 then (bL (C2 d j_em_waysNeeded [vR 1 11, vR 23 ((1 + 86 + 2 * (p1).toNat) + 1), vI p2] M1) fun x4 M3 => bI (C2 d j_long_bitCount [vL x4] M3) fun x6 M5 => if x6 < 2 then (bI (C2 d j_x_refuse [vR 11 0, vI 8] M5) fun x8 M7 => some (some (vI x8), M7)) else (if (M5.1 11 8) = 0 then (bI (C2 d j_x_refuse [vR 11 0, vI 8] M5) fun x10 M9 => some (some (vI x10), M9)) else (bI (C2 d j_em_bestToAsk [vR 1 11, vL x4] M5) fun x12 M11 => bI (C2 d j_x_answer [vR 11 0, vI x12] M11) fun x14 M13 => some (some (vI x14), M13)))) else none) else (bI (C2 d j_x_refuse [vR 11 0, vI x2] M1) fun x16 M15 => some (some (vI x16), M15))) :=
  (DD_ex GR2 MT 33 d r_x_ask r_x_ask [(0, vR 11 0), (1, vI p1), (2, vI p2)] [] M).trans rfl
set_option maxRecDepth 100000 in
set_option maxHeartbeats 4000000 in
theorem q_em_bestToAsk (p0 : Nat) (p1 : Int) (d : Nat) (M : Mem) : C2 d j_em_bestToAsk [vR 1 p0, vL p1] M = (E2 d r_em_bestToAsk 6 [(0, vR 1 p0), (1, vL p1), (3, vI (-1)), (4, vI 0), (5, vI 1)] [] M) :=
  (DD_ex GR2 MT 8 d r_em_bestToAsk r_em_bestToAsk [(0, vR 1 p0), (1, vL p1)] [] M).trans rfl
set_option maxRecDepth 100000 in
set_option maxHeartbeats 4000000 in
theorem q_em_bestToAsk_6 (a0 : Nat) (p1 : Int) (p3 : Int) (p4 : Int) (p5 : Int) (d : Nat) (M : Mem) : E2 d r_em_bestToAsk 6 [(0, vR 1 a0), (1, vL p1), (3, vI p3), (4, vI p4), (5, vI p5)] [] M = (bI (C2 d j_em_allHands [vR 1 a0] M) fun x2 M1 => if x2 < p5 then (some (some (vI p3), M1)) else (bI (C2 d j_em_knowledgeOf [vR 1 a0, vI p5] M1) fun x4 M3 => bL (C2 d j_em_waysWithin [vL p1, vI x4] M3) fun x6 M5 => bI (C2 d j_long_bitCount [vL x6] M5) fun x8 M7 => bI (C2 d j_long_bitCount [vL p1] M7) fun x10 M9 => bI (C2 d j_math_max_I [vI x8, vI (w32 (x10 - x8))] M9) fun x12 M11 => if p3 = (-1) then (E2 d r_em_bestToAsk 6 [(0, vR 1 a0), (1, vL p1), (3, vI p5), (4, vI x12), (5, vI (w32 (p5 + 1)))] [] M11) else (if x12 < p4 then (E2 d r_em_bestToAsk 6 [(0, vR 1 a0), (1, vL p1), (3, vI p5), (4, vI x12), (5, vI (w32 (p5 + 1)))] [] M11) else (E2 d r_em_bestToAsk 6 [(0, vR 1 a0), (1, vL p1), (3, vI p3), (4, vI p4), (5, vI (w32 (p5 + 1)))] [] M11)))) :=
  (DD_ex GR2 MT 32 d r_em_bestToAsk (r_em_bestToAsk.drop 6) [(0, vR 1 a0), (1, vL p1), (3, vI p3), (4, vI p4), (5, vI p5)] [] M).trans rfl
set_option maxRecDepth 100000 in
set_option maxHeartbeats 4000000 in
theorem q_x_live (p1 : Int) (d : Nat) (M : Mem) : C2 d j_x_live [vR 11 0, vI p1] M = (bI (C2 d j_x_within [vL p1, vI 0, vI 9999] M) fun x2 M1 => if x2 = 0 then (bI (C2 d j_x_refuse [vR 11 0, vI 5] M1) fun x4 M3 => some (some (vI x4), M3)) else (if (M1.1 15 7) = 0 then (bI (C2 d j_x_refuse [vR 11 0, vI 8] M1) fun x6 M5 => some (some (vI x6), M5)) else (bV (C2 d j_lf_pursue [vR 4 83, vR 1 11, vI p1] M1) fun M7 => bI (C2 d j_x_answer [vR 11 0, vI ((putI M7 0 18 1).1 83 0)] (putI M7 0 18 1)) fun x9 M8 => some (some (vI x9), M8)))) :=
  (DD_ex GR2 MT 27 d r_x_live r_x_live [(0, vR 11 0), (1, vI p1)] [] M).trans rfl
set_option maxRecDepth 100000 in
set_option maxHeartbeats 4000000 in
theorem q_lf_pursue (p0 : Nat) (p1 : Nat) (p2 : Int) (d : Nat) (M : Mem) : C2 d j_lf_pursue [vR 4 p0, vR 1 p1, vI p2] M = (E2 d r_lf_pursue 28 [(0, vR 4 p0), (1, vR 1 p1), (3, vR 6 (p1 + 4)), (4, vI 0), (5, vI 0)] [] (putI (putI (putI (putI (putI (putI (putI M p0 0 0) p0 1 0) p0 2 0) p0 3 0) p0 4 0) p0 5 0) p0 6 p2)) :=
  (DD_ex GR2 MT 30 d r_lf_pursue r_lf_pursue [(0, vR 4 p0), (1, vR 1 p1), (2, vI p2)] [] M).trans rfl
set_option maxRecDepth 100000 in
set_option maxHeartbeats 4000000 in
theorem q_lf_pursue_28 (a0 : Nat) (a1 : Nat) (a3 : Nat) (p4 : Int) (p5 : Int) (d : Nat) (M : Mem) : E2 d r_lf_pursue 28 [(0, vR 4 a0), (1, vR 1 a1), (3, vR 6 a3), (4, vI p4), (5, vI p5)] [] M = (if p5 < 1000000 then (if p4 < (M.1 a3 5) then (if (M.1 a0 5) = 0 then (if 0 ≤ p4 ∧ p4 < 60 then (if (M.1 (a3 + 1) (p4).toNat) = 26 then (bI (C2 d j_lf_behindEnd [vR 4 a0, vR 6 a3, vI p4] M) fun x2 M1 => E2 d r_lf_pursue 28 [(0, vR 4 a0), (1, vR 1 a1), (3, vR 6 a3), (4, vI x2), (5, vI (w32 (p5 + 1)))] [] M1) else (if (M.1 a0 0) < 300 then (if 0 ≤ p4 ∧ p4 < 60 then (bI (C2 d j_lf_isTurning [vI (M.1 (a3 + 1) (p4).toNat)] M) fun x4 M3 => if x4 = 0 then (bI (C2 d j_lf_achieve [vR 4 a0, vR 1 a1, vI p4] (putI M3 a0 0 (w32 ((M3.1 a0 0) + 1)))) fun x6 M5 => if x6 = 0 then (E2 d r_lf_pursue 28 [(0, vR 4 a0), (1, vR 1 a1), (3, vR 6 a3), (4, vI (w32 (p4 + 1))), (5, vI (w32 (p5 + 1)))] [] (putI M5 a0 1 (w32 (((putI M3 a0 0 (w32 ((M3.1 a0 0) + 1))).1 a0 1) + 1)))) else (E2 d r_lf_pursue 28 [(0, vR 4 a0), (1, vR 1 a1), (3, vR 6 a3), (4, vI (w32 (p4 + 1))), (5, vI (w32 (p5 + 1)))] [] (putI M5 a0 1 (w32 (((putI M3 a0 0 (w32 ((M3.1 a0 0) + 1))).1 a0 1) + 0))))) else (bI (C2 d j_lf_behindTurning [vR 4 a0, vR 1 a1, vI p4] (putI M3 a0 0 (w32 ((M3.1 a0 0) + 1)))) fun x8 M7 => E2 d r_lf_pursue 28 [(0, vR 4 a0), (1, vR 1 a1), (3, vR 6 a3), (4, vI x8), (5, vI (w32 (p5 + 1)))] [] M7)) else none) else (E2 d r_lf_pursue 28 [(0, vR 4 a0), (1, vR 1 a1), (3, vR 6 a3), (4, vI p4), (5, vI (w32 (p5 + 1)))] [] (putI M a0 5 1)))) else none) else (some (none, M))) else (some (none, M))) else (some (none, M))) :=
  (DD_ex GR2 MT 49 d r_lf_pursue (r_lf_pursue.drop 28) [(0, vR 4 a0), (1, vR 1 a1), (3, vR 6 a3), (4, vI p4), (5, vI p5)] [] M).trans rfl
set_option maxRecDepth 100000 in
set_option maxHeartbeats 4000000 in
theorem q_lf_behindEnd (p0 : Nat) (p1 : Nat) (p2 : Int) (d : Nat) (M : Mem) : C2 d j_lf_behindEnd [vR 4 p0, vR 6 p1, vI p2] M = (if 0 ≤ p2 ∧ p2 < 60 then (if 0 ≤ (M.1 (p1 + 5) (p2).toNat) ∧ (M.1 (p1 + 5) (p2).toNat) < 60 then (if 0 ≤ (M.1 (p1 + 5) (p2).toNat) ∧ (M.1 (p1 + 5) (p2).toNat) < 60 then (if 0 ≤ (M.1 (p1 + 5) (p2).toNat) ∧ (M.1 (p1 + 5) (p2).toNat) < 60 then (if 0 < ((putI M (p0 + 1) (M.1 (p1 + 5) (p2).toNat).toNat (w32 ((M.1 (p0 + 1) (M.1 (p1 + 5) (p2).toNat).toNat) - 1))).1 (p0 + 1) (M.1 (p1 + 5) (p2).toNat).toNat) then (some (some (vI (w32 ((M.1 (p1 + 5) (p2).toNat) + 1))), (putI M (p0 + 1) (M.1 (p1 + 5) (p2).toNat).toNat (w32 ((M.1 (p0 + 1) (M.1 (p1 + 5) (p2).toNat).toNat) - 1))))) else (some (some (vI (w32 (p2 + 1))), (putI M (p0 + 1) (M.1 (p1 + 5) (p2).toNat).toNat (w32 ((M.1 (p0 + 1) (M.1 (p1 + 5) (p2).toNat).toNat) - 1)))))) else none) else none) else none) else none) :=
  (DD_ex GR2 MT 24 d r_lf_behindEnd r_lf_behindEnd [(0, vR 4 p0), (1, vR 6 p1), (2, vI p2)] [] M).trans rfl
set_option maxRecDepth 100000 in
set_option maxHeartbeats 4000000 in
theorem q_lf_isTurning (p0 : Int) (d : Nat) (M : Mem) : C2 d j_lf_isTurning [vI p0] M = (if p0 = 22 then (some (some (vI 1), M)) else (if p0 = 25 then (some (some (vI 1), M)) else (if p0 = 27 then (some (some (vI 1), M)) else (some (some (vI 0), M))))) :=
  (DD_ex GR2 MT 13 d r_lf_isTurning r_lf_isTurning [(0, vI p0)] [] M).trans rfl
set_option maxRecDepth 100000 in
set_option maxHeartbeats 4000000 in
theorem q_lf_behindTurning (p0 : Nat) (p1 : Nat) (p2 : Int) (d : Nat) (M : Mem) : C2 d j_lf_behindTurning [vR 4 p0, vR 1 p1, vI p2] M = (if 0 ≤ p2 ∧ p2 < 60 then (if 0 ≤ p2 ∧ p2 < 60 then (if (M.1 ((p1 + 4) + 1) (p2).toNat) = 27 then (some (some (vI (M.1 (p1 + 4) 5)), M)) else (if 0 ≤ p2 ∧ p2 < 60 then (if (M.1 ((p1 + 4) + 1) (p2).toNat) = 22 then (if 0 ≤ p2 ∧ p2 < 60 then (bI (C2 d j_lf_holds [vR 1 p1, vI p2] (putI M (p0 + 1) (p2).toNat 1)) fun x2 M1 => if x2 = 0 then (some (some (vI (w32 ((M.1 ((p1 + 4) + 5) (p2).toNat) + 1))), M1)) else (some (some (vI (w32 (p2 + 1))), M1))) else none) else (if (M.1 ((p1 + 4) + 5) (p2).toNat) = (w32 (p2 + 1)) then (if 0 ≤ p2 ∧ p2 < 60 then (some (some (vI (w32 (p2 + 1))), (putI M (p0 + 1) (p2).toNat 1))) else none) else (if 0 ≤ p2 ∧ p2 < 60 then (if 0 ≤ p2 ∧ p2 < 60 then (some (some (vI (w32 (p2 + 1))), (putI M (p0 + 1) (p2).toNat (M.1 ((p1 + 4) + 2) (p2).toNat)))) else none) else none))) else none)) else none) else none) :=
  (DD_ex GR2 MT 38 d r_lf_behindTurning r_lf_behindTurning [(0, vR 4 p0), (1, vR 1 p1), (2, vI p2)] [] M).trans rfl
set_option maxRecDepth 100000 in
set_option maxHeartbeats 4000000 in
theorem q_lf_holds (p0 : Nat) (p1 : Int) (d : Nat) (M : Mem) : C2 d j_lf_holds [vR 1 p0, vI p1] M = (if 0 ≤ p1 ∧ p1 < 60 then (if (M.1 ((p0 + 4) + 2) (p1).toNat) = 23 then (bI (C2 d j_em_knownAfter [vR 1 p0, vI 0] M) fun x2 M1 => if 0 ≤ p1 ∧ p1 < 60 then (if (xand (xshr x2 (M1.1 ((p0 + 4) + 3) (p1).toNat)) 1) = 1 then (some (some (vI 1), M1)) else (some (some (vI 0), M1))) else none) else if (M.1 ((p0 + 4) + 2) (p1).toNat) = 24 then (bI (C2 d j_em_isWholeAfter [vR 1 p0, vI 0] M) fun x4 M3 => if x4 = 0 ∨ x4 = 1 then some (some (vI x4), M3) else none) else (if 0 ≤ p1 ∧ p1 < 60 then (if 0 ≤ p1 ∧ p1 < 60 then (bI (C2 d j_lf_compares [vI (M.1 p0 2), vI (M.1 ((p0 + 4) + 3) (p1).toNat), vI (M.1 ((p0 + 4) + 4) (p1).toNat)] M) fun x6 M5 => if x6 = 0 ∨ x6 = 1 then some (some (vI x6), M5) else none) else none) else none)) else none) :=
  (DD_ex GR2 MT 24 d r_lf_holds r_lf_holds [(0, vR 1 p0), (1, vI p1)] [] M).trans rfl
set_option maxRecDepth 100000 in
set_option maxHeartbeats 4000000 in
theorem q_lf_compares (p0 : Int) (p1 : Int) (p2 : Int) (d : Nat) (M : Mem) : C2 d j_lf_compares [vI p0, vI p1, vI p2] M = (if p1 = 60 then (if p0 < p2 then (some (some (vI 1), M)) else (some (some (vI 0), M))) else if p1 = 62 then (if p2 < p0 then (some (some (vI 1), M)) else (some (some (vI 0), M))) else (if p0 = p2 then (some (some (vI 1), M)) else (some (some (vI 0), M)))) :=
  (DD_ex GR2 MT 9 d r_lf_compares r_lf_compares [(0, vI p0), (1, vI p1), (2, vI p2)] [] M).trans rfl
set_option maxRecDepth 100000 in
set_option maxHeartbeats 4000000 in
theorem q_lf_achieve (p0 : Nat) (p1 : Nat) (p2 : Int) (d : Nat) (M : Mem) : C2 d j_lf_achieve [vR 4 p0, vR 1 p1, vI p2] M = (if 0 ≤ p2 ∧ p2 < 60 then (if 0 ≤ p2 ∧ p2 < 60 then (if (M.1 ((p1 + 4) + 1) (p2).toNat) = 14 then (bI (C2 d j_lf_age [vR 4 p0, vR 1 p1, vI (M.1 ((p1 + 4) + 2) (p2).toNat)] M) fun x2 M1 => if x2 = 0 ∨ x2 = 1 then some (some (vI x2), M1) else none) else if (M.1 ((p1 + 4) + 1) (p2).toNat) = 15 then (bI (C2 d j_em_brew [vR 1 p1, vI (M.1 ((p1 + 4) + 2) (p2).toNat)] M) fun x4 M3 => bI (C2 d j_lf_countMade [vR 4 p0, vI x4, vI (M.1 ((p1 + 4) + 2) (p2).toNat)] M3) fun x6 M5 => if x6 = 0 ∨ x6 = 1 then some (some (vI x6), M5) else none) else if (M.1 ((p1 + 4) + 1) (p2).toNat) = 16 then (bI (C2 d j_em_spend [vR 1 p1] M) fun x8 M7 => if x8 = 0 ∨ x8 = 1 then some (some (vI x8), M7) else none) else if (M.1 ((p1 + 4) + 1) (p2).toNat) = 17 then (if 0 ≤ p2 ∧ p2 < 60 then (if 0 ≤ p2 ∧ p2 < 60 then (bI (C2 d j_em_instruct [vR 1 p1, vI (M.1 ((p1 + 4) + 2) (p2).toNat), vI (M.1 ((p1 + 4) + 3) (p2).toNat), vI (M.1 ((p1 + 4) + 4) (p2).toNat)] M) fun x10 M9 => if x10 = 0 ∨ x10 = 1 then some (some (vI x10), M9) else none) else none) else none) else if (M.1 ((p1 + 4) + 1) (p2).toNat) = 18 then (bI (C2 d j_em_writeDown [vR 1 p1, vI (M.1 ((p1 + 4) + 2) (p2).toNat)] M) fun x12 M11 => if x12 = 0 ∨ x12 = 1 then some (some (vI x12), M11) else none) else if (M.1 ((p1 + 4) + 1) (p2).toNat) = 19 then (bI (C2 d j_em_burnDown [vR 1 p1, vI (M.1 ((p1 + 4) + 2) (p2).toNat)] M) fun x14 M13 => if x14 = 0 ∨ x14 = 1 then some (some (vI x14), M13) else none) else if (M.1 ((p1 + 4) + 1) (p2).toNat) = 20 then (bI (C2 d j_em_seize [vR 1 p1, vI (M.1 ((p1 + 4) + 2) (p2).toNat)] M) fun x16 M15 => bI (C2 d j_lf_countGone [vR 4 p0, vI x16] M15) fun x18 M17 => if x18 = 0 ∨ x18 = 1 then some (some (vI x18), M17) else none) else if (M.1 ((p1 + 4) + 1) (p2).toNat) = 21 then (if 0 < (M.1 p1 8) then (bI (C2 d j_lf_draw [vR 4 p0, vI (M.1 p1 8)] M) fun x20 M19 => bI (C2 d j_em_seize [vR 1 p1, vI x20] M19) fun x22 M21 => bI (C2 d j_lf_countGone [vR 4 p0, vI x22] M21) fun x24 M23 => if x24 = 0 then (some (some (vI 0), M23)) else (some (some (vI 1), M23))) else (some (some (vI 0), M))) else (if 0 < (M.1 p1 8) then (bI (C2 d j_lf_draw [vR 4 p0, vI (M.1 p1 8)] M) fun x26 M25 => bI (C2 d j_em_seize [vR 1 p1, vI x26] M25) fun x28 M27 => bI (C2 d j_lf_countGone [vR 4 p0, vI x28] M27) fun x30 M29 => if x30 = 0 then (some (some (vI 0), M29)) else (some (some (vI 1), M29))) else (some (some (vI 0), M)))) else none) else none) :=
  (DD_ex GR2 MT 29 d r_lf_achieve r_lf_achieve [(0, vR 4 p0), (1, vR 1 p1), (2, vI p2)] [] M).trans rfl
set_option maxRecDepth 100000 in
set_option maxHeartbeats 4000000 in
theorem q_lf_age (p0 : Nat) (p1 : Nat) (p2 : Int) (d : Nat) (M : Mem) : C2 d j_lf_age [vR 4 p0, vR 1 p1, vI p2] M = (bI (C2 d j_em_hasTimeFor [vR 1 p1, vI p2] M) fun x2 M1 => if x2 = 0 then (some (some (vI 0), M1)) else (bI (C2 d j_em_passYears [vR 1 p1, vI p2] M1) fun x4 M3 => bI (C2 d j_int_bitCount [vI x4] M3) fun x6 M5 => some (some (vI 1), (putI (putI M5 p0 4 (w32 ((M1.1 p0 4) + x6))) p0 2 (w32 (((putI M5 p0 4 (w32 ((M1.1 p0 4) + x6))).1 p0 2) + p2)))))) :=
  (DD_ex GR2 MT 22 d r_lf_age r_lf_age [(0, vR 4 p0), (1, vR 1 p1), (2, vI p2)] [] M).trans rfl
set_option maxRecDepth 100000 in
set_option maxHeartbeats 4000000 in
theorem q_lf_countMade (p0 : Nat) (p1 : Int) (p2 : Int) (d : Nat) (M : Mem) : C2 d j_lf_countMade [vR 4 p0, vI p1, vI p2] M = (if p1 = 0 then (if p1 = 0 ∨ p1 = 1 then some (some (vI p1), (putI M p0 3 (w32 ((M.1 p0 3) + 0)))) else none) else (if p1 = 0 ∨ p1 = 1 then some (some (vI p1), (putI M p0 3 (w32 ((M.1 p0 3) + p2)))) else none)) :=
  (DD_ex GR2 MT 12 d r_lf_countMade r_lf_countMade [(0, vR 4 p0), (1, vI p1), (2, vI p2)] [] M).trans rfl
