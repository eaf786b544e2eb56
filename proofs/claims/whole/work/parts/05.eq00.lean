set_option maxRecDepth 100000 in
set_option maxHeartbeats 4000000 in
theorem q_rd_isLetter (p0 : Int) (d : Nat) (M : Mem) : C2 d j_rd_isLetter [vI p0] M = (if p0 < 97 then (some (some (vI 0), M)) else (if 122 < p0 then (some (some (vI 0), M)) else (some (some (vI 1), M)))) :=
  (DD_ex GR2 MT 10 d r_rd_isLetter r_rd_isLetter [(0, vI p0)] [] M).trans rfl
set_option maxRecDepth 100000 in
set_option maxHeartbeats 4000000 in
theorem q_rd_withLetter (p0 : Int) (p1 : Int) (d : Nat) (M : Mem) : C2 d j_rd_withLetter [vL p0, vI p1] M = (some (some (vL (yor (yshl p0 5) (w32 ((w32 (p1 - 97)) + 1)))), M)) :=
  (DD_ex GR2 MT 12 d r_rd_withLetter r_rd_withLetter [(0, vL p0), (2, vI p1)] [] M).trans rfl
set_option maxRecDepth 100000 in
set_option maxHeartbeats 4000000 in
theorem q_em_clear (p0 : Nat) (d : Nat) (M : Mem) : C2 d j_em_clear [vR 1 p0] M = (bV (C2 d j_pl_clear [vR 6 (p0 + 4)] (putI (putI (putI (putI (putI (putI (putI (putI (putI (putI M p0 0 70) p0 1 100) p0 2 0) p0 3 0) p0 4 0) p0 5 0) p0 6 0) p0 7 0) p0 8 0) p0 9 0)) fun M1 => some (none, M1)) :=
  (DD_ex GR2 MT 35 d r_em_clear r_em_clear [(0, vR 1 p0)] [] M).trans rfl
set_option maxRecDepth 100000 in
set_option maxHeartbeats 4000000 in
theorem q_pl_clear (p0 : Nat) (d : Nat) (M : Mem) : C2 d j_pl_clear [vR 6 p0] M = (some (none, (putI (putI (putI M p0 5 0) p0 6 0) p0 7 0))) :=
  (DD_ex GR2 MT 11 d r_pl_clear r_pl_clear [(0, vR 6 p0)] [] M).trans rfl
set_option maxRecDepth 100000 in
set_option maxHeartbeats 4000000 in
theorem q_x_status (d : Nat) (M : Mem) : C2 d j_x_status [vR 11 0] M = (some (some (vI (M.1 0 0)), M)) :=
  (DD_ex GR2 MT 4 d r_x_status r_x_status [(0, vR 11 0)] [] M).trans rfl
set_option maxRecDepth 100000 in
set_option maxHeartbeats 4000000 in
theorem q_x_top (d : Nat) (M : Mem) : C2 d j_x_top [vR 11 0] M = (some (some (vL (M.2.1 0 1)), M)) :=
  (DD_ex GR2 MT 4 d r_x_top r_x_top [(0, vR 11 0)] [] M).trans rfl
set_option maxRecDepth 100000 in
set_option maxHeartbeats 4000000 in
theorem q_x_bottom (d : Nat) (M : Mem) : C2 d j_x_bottom [vR 11 0] M = (some (some (vL (M.2.1 0 2)), M)) :=
  (DD_ex GR2 MT 4 d r_x_bottom r_x_bottom [(0, vR 11 0)] [] M).trans rfl
set_option maxRecDepth 100000 in
set_option maxHeartbeats 4000000 in
theorem q_x_tray (p1 : Int) (p2 : Int) (p3 : Int) (d : Nat) (M : Mem) : C2 d j_x_tray [vR 11 0, vI p1, vI p2, vI p3] M = (bI (C2 d j_x_isTray [vI p1] M) fun x2 M1 => if x2 = 0 then (bI (C2 d j_x_deny [vR 11 0, vI 1] M1) fun x4 M3 => if x4 = 0 ∨ x4 = 1 then some (some (vI x4), M3) else none) else (bI (C2 d j_x_within [vL p2, vI 0, vI 3] M1) fun x6 M5 => if x6 = 0 then (bI (C2 d j_x_deny [vR 11 0, vI 1] M5) fun x8 M7 => if x8 = 0 ∨ x8 = 1 then some (some (vI x8), M7) else none) else (if 60 < p3 then (bI (C2 d j_x_deny [vR 11 0, vI 5] M5) fun x10 M9 => if x10 = 0 ∨ x10 = 1 then some (some (vI x10), M9) else none) else (if p3 < 0 then (bI (C2 d j_x_deny [vR 11 0, vI 6] M5) fun x12 M11 => if x12 = 0 ∨ x12 = 1 then some (some (vI x12), M11) else none) else (if 0 ≤ p1 ∧ p1 < 4 then (bV (C2 d j_ty_lay [vR 10 (1 + 86 + 2 * (p1).toNat), vI p2, vI p3] M5) fun M13 => bI (C2 d j_x_grant [vR 11 0] M13) fun x15 M14 => if x15 = 0 ∨ x15 = 1 then some (some (vI x15), M14) else none) else none))))) :=
  (DD_ex GR2 MT 25 d r_x_tray r_x_tray [(0, vR 11 0), (1, vI p1), (2, vI p2), (3, vI p3)] [] M).trans rfl
set_option maxRecDepth 100000 in
set_option maxHeartbeats 4000000 in
theorem q_x_isTray (p0 : Int) (d : Nat) (M : Mem) : C2 d j_x_isTray [vI p0] M = (bI (C2 d j_x_within [vL p0, vI 0, vI 3] M) fun x2 M1 => if x2 = 0 ∨ x2 = 1 then some (some (vI x2), M1) else none) :=
  (DD_ex GR2 MT 7 d r_x_isTray r_x_isTray [(0, vI p0)] [] M).trans rfl
set_option maxRecDepth 100000 in
set_option maxHeartbeats 4000000 in
theorem q_x_within (p0 : Int) (p1 : Int) (p2 : Int) (d : Nat) (M : Mem) : C2 d j_x_within [vL p0, vI p1, vI p2] M = (if (ycmp p0 p1) < 0 then (some (some (vI 0), M)) else (if 0 < (ycmp p0 p2) then (some (some (vI 0), M)) else (some (some (vI 1), M)))) :=
  (DD_ex GR2 MT 14 d r_x_within r_x_within [(0, vL p0), (2, vI p1), (3, vI p2)] [] M).trans rfl
set_option maxRecDepth 100000 in
set_option maxHeartbeats 4000000 in
theorem q_x_deny (p1 : Int) (d : Nat) (M : Mem) : C2 d j_x_deny [vR 11 0, vI p1] M = (some (some (vI 0), (putI M 0 0 p1))) :=
  (DD_ex GR2 MT 6 d r_x_deny r_x_deny [(0, vR 11 0), (1, vI p1)] [] M).trans rfl
set_option maxRecDepth 100000 in
set_option maxHeartbeats 4000000 in
theorem q_ty_lay (p0 : Nat) (p1 : Int) (p2 : Int) (d : Nat) (M : Mem) : C2 d j_ty_lay [vR 10 p0, vI p1, vI p2] M = (E2 d r_ty_lay 8 [(0, vR 10 p0), (3, vI 0)] [] (putI (putI M p0 1 p1) p0 2 p2)) :=
  (DD_ex GR2 MT 10 d r_ty_lay r_ty_lay [(0, vR 10 p0), (1, vI p1), (2, vI p2)] [] M).trans rfl
set_option maxRecDepth 100000 in
set_option maxHeartbeats 4000000 in
theorem q_ty_lay_8 (a0 : Nat) (p3 : Int) (d : Nat) (M : Mem) : E2 d r_ty_lay 8 [(0, vR 10 a0), (3, vI p3)] [] M = (if p3 < 60 then (if 0 ≤ p3 ∧ p3 < 60 then (E2 d r_ty_lay 8 [(0, vR 10 a0), (3, vI (w32 (p3 + 1)))] [] (putL M (a0 + 1) (p3).toNat 0)) else none) else (some (none, M))) :=
  (DD_ex GR2 MT 12 d r_ty_lay (r_ty_lay.drop 8) [(0, vR 10 a0), (3, vI p3)] [] M).trans rfl
set_option maxRecDepth 100000 in
set_option maxHeartbeats 4000000 in
theorem q_x_grant (d : Nat) (M : Mem) : C2 d j_x_grant [vR 11 0] M = (some (some (vI 1), (putI M 0 0 0))) :=
  (DD_ex GR2 MT 6 d r_x_grant r_x_grant [(0, vR 11 0)] [] M).trans rfl
set_option maxRecDepth 100000 in
set_option maxHeartbeats 4000000 in
theorem q_x_write (p1 : Int) (p2 : Int) (p3 : Int) (d : Nat) (M : Mem) : C2 d j_x_write [vR 11 0, vI p1, vI p2, vL p3] M = (bI (C2 d j_x_placeTrouble [vR 11 0, vI p1, vI p2] M) fun x2 M1 => if x2 = 0 then (if 0 ≤ p1 ∧ p1 < 4 then (bV (C2 d j_ty_put [vR 10 (1 + 86 + 2 * (p1).toNat), vI p2, vL p3] M1) fun M3 => bI (C2 d j_x_grant [vR 11 0] M3) fun x5 M4 => if x5 = 0 ∨ x5 = 1 then some (some (vI x5), M4) else none) else none) else (bI (C2 d j_x_deny [vR 11 0, vI x2] M1) fun x7 M6 => if x7 = 0 ∨ x7 = 1 then some (some (vI x7), M6) else none)) :=
  (DD_ex GR2 MT 18 d r_x_write r_x_write [(0, vR 11 0), (1, vI p1), (2, vI p2), (3, vL p3)] [] M).trans rfl
set_option maxRecDepth 100000 in
set_option maxHeartbeats 4000000 in
theorem q_x_placeTrouble (p1 : Int) (p2 : Int) (d : Nat) (M : Mem) : C2 d j_x_placeTrouble [vR 11 0, vI p1, vI p2] M = (bI (C2 d j_x_trayTrouble [vR 11 0, vI p1, vL 0] M) fun x2 M1 => if x2 = 0 then (if 0 ≤ p1 ∧ p1 < 4 then (bI (C2 d j_x_within [vL p2, vI 0, vI (w32 ((M1.1 (1 + 86 + 2 * (p1).toNat) 2) - 1))] M1) fun x4 M3 => if x4 = 0 then (some (some (vI 4), M3)) else (some (some (vI 0), M3))) else none) else (some (some (vI x2), M1))) :=
  (DD_ex GR2 MT 23 d r_x_placeTrouble r_x_placeTrouble [(0, vR 11 0), (1, vI p1), (2, vI p2)] [] M).trans rfl
set_option maxRecDepth 100000 in
set_option maxHeartbeats 4000000 in
theorem q_x_trayTrouble (p1 : Int) (p2 : Int) (d : Nat) (M : Mem) : C2 d j_x_trayTrouble [vR 11 0, vI p1, vL p2] M = (bI (C2 d j_x_isTray [vI p1] M) fun x2 M1 => if x2 = 0 then (some (some (vI 1), M1)) else (if 0 ≤ p1 ∧ p1 < 4 then (bI (C2 d j_ty_isMissing [vR 10 (1 + 86 + 2 * (p1).toNat)] M1) fun x4 M3 => if x4 = 0 then (if 0 ≤ p1 ∧ p1 < 4 then (if 0 < (ycmp p2 (M3.1 (1 + 86 + 2 * (p1).toNat) 2)) then (some (some (vI 4), M3)) else (some (some (vI 0), M3))) else none) else (some (some (vI 3), M3))) else none)) :=
  (DD_ex GR2 MT 22 d r_x_trayTrouble r_x_trayTrouble [(0, vR 11 0), (1, vI p1), (2, vL p2)] [] M).trans rfl
set_option maxRecDepth 100000 in
set_option maxHeartbeats 4000000 in
theorem q_ty_isMissing (p0 : Nat) (d : Nat) (M : Mem) : C2 d j_ty_isMissing [vR 10 p0] M = (if (M.1 p0 1) = (-1) then (some (some (vI 1), M)) else (some (some (vI 0), M))) :=
  (DD_ex GR2 MT 8 d r_ty_isMissing r_ty_isMissing [(0, vR 10 p0)] [] M).trans rfl
set_option maxRecDepth 100000 in
set_option maxHeartbeats 4000000 in
theorem q_ty_put (p0 : Nat) (p1 : Int) (p2 : Int) (d : Nat) (M : Mem) : C2 d j_ty_put [vR 10 p0, vI p1, vL p2] M = (bL (C2 d j_ty_cutToSort [vR 10 p0, vL p2] M) fun x2 M1 => if 0 ≤ p1 ∧ p1 < 60 then (some (none, (putL M1 (p0 + 1) (p1).toNat x2))) else none) :=
  (DD_ex GR2 MT 9 d r_ty_put r_ty_put [(0, vR 10 p0), (1, vI p1), (2, vL p2)] [] M).trans rfl
set_option maxRecDepth 100000 in
set_option maxHeartbeats 4000000 in
theorem q_ty_cutToSort (p0 : Nat) (p1 : Int) (d : Nat) (M : Mem) : C2 d j_ty_cutToSort [vR 10 p0, vL p1] M = (if (M.1 p0 1) = 0 then (some (some (vL (x8 (w32 p1))), M)) else if (M.1 p0 1) = 1 then (some (some (vL (x16 (w32 p1))), M)) else if (M.1 p0 1) = 2 then (some (some (vL (w32 p1)), M)) else (some (some (vL p1), M))) :=
  (DD_ex GR2 MT 9 d r_ty_cutToSort r_ty_cutToSort [(0, vR 10 p0), (1, vL p1)] [] M).trans rfl
set_option maxRecDepth 100000 in
set_option maxHeartbeats 4000000 in
theorem q_x_read (p1 : Int) (p2 : Int) (d : Nat) (M : Mem) : C2 d j_x_read [vR 11 0, vI p1, vI p2] M = (bI (C2 d j_x_placeTrouble [vR 11 0, vI p1, vI p2] M) fun x2 M1 => if x2 = 0 then (if 0 ≤ p1 ∧ p1 < 4 then (if 0 ≤ p2 ∧ p2 < 60 then (some (some (vL ((putI M1 0 0 0).2.1 ((1 + 86 + 2 * (p1).toNat) + 1) (p2).toNat)), (putI M1 0 0 0))) else none) else none) else (bI (C2 d j_x_refuse [vR 11 0, vI x2] M1) fun x4 M3 => some (some (vL x4), M3))) :=
  (DD_ex GR2 MT 19 d r_x_read r_x_read [(0, vR 11 0), (1, vI p1), (2, vI p2)] [] M).trans rfl
set_option maxRecDepth 100000 in
set_option maxHeartbeats 4000000 in
theorem q_x_refuse (p1 : Int) (d : Nat) (M : Mem) : C2 d j_x_refuse [vR 11 0, vI p1] M = (some (some (vI (-1)), (putI M 0 0 p1))) :=
  (DD_ex GR2 MT 6 d r_x_refuse r_x_refuse [(0, vR 11 0), (1, vI p1)] [] M).trans rfl
set_option maxRecDepth 100000 in
set_option maxHeartbeats 4000000 in
theorem q_x_pour (p1 : Int) (p2 : Int) (p3 : Int) (p4 : Int) (p5 : Int) (d : Nat) (M : Mem) : C2 d j_x_pour [vR 11 0, vI p1, vI p2, vI p3, vI p4, vI p5] M = (bI (C2 d j_x_isTray [vI p1] M) fun x2 M1 => if x2 = 0 then (bI (C2 d j_x_deny [vR 11 0, vI 1] M1) fun x4 M3 => if x4 = 0 ∨ x4 = 1 then some (some (vI x4), M3) else none) else (bI (C2 d j_x_isTray [vI p3] M1) fun x6 M5 => if x6 = 0 then (bI (C2 d j_x_deny [vR 11 0, vI 1] M5) fun x8 M7 => if x8 = 0 ∨ x8 = 1 then some (some (vI x8), M7) else none) else (if 0 ≤ p1 ∧ p1 < 4 then (if 0 ≤ p3 ∧ p3 < 4 then (bI (C2 d j_ty_isMissing [vR 10 (1 + 86 + 2 * (p1).toNat)] M5) fun x10 M9 => if x10 = 0 then (bI (C2 d j_ty_isMissing [vR 10 (1 + 86 + 2 * (p3).toNat)] M9) fun x12 M11 => if x12 = 0 then (if (M11.1 (1 + 86 + 2 * (p1).toNat) 1) = (M11.1 (1 + 86 + 2 * (p3).toNat) 1) then (if p5 < 0 then (bI (C2 d j_x_deny [vR 11 0, vI 6] M11) fun x14 M13 => if x14 = 0 ∨ x14 = 1 then some (some (vI x14), M13) else none) else (bI (C2 d j_ty_hasRun [vR 10 (1 + 86 + 2 * (p1).toNat), vI p2, vI p5] M11) fun x16 M15 => if x16 = 0 then (bI (C2 d j_x_deny [vR 11 0, vI 4] M15) fun x18 M17 => if x18 = 0 ∨ x18 = 1 then some (some (vI x18), M17) else none) else (bI (C2 d j_ty_hasRun [vR 10 (1 + 86 + 2 * (p3).toNat), vI p4, vI p5] M15) fun x20 M19 => if x20 = 0 then (bI (C2 d j_x_deny [vR 11 0, vI 4] M19) fun x22 M21 => if x22 = 0 ∨ x22 = 1 then some (some (vI x22), M21) else none) else (if (0 : Int) ≤ p2 ∧ (0 : Int) ≤ p4 ∧ (0 : Int) ≤ p5 ∧ (p2 : Int) + p5 ≤ 60 ∧ (p4 : Int) + p5 ≤ 60 then (bI (C2 d j_x_grant [vR 11 0] ((M19.1, fun b j => if b = ((1 + 86 + 2 * (p3).toNat) + 1) ∧ (p4).toNat ≤ j ∧ j < (p4).toNat + (p5).toNat then M19.2.1 ((1 + 86 + 2 * (p1).toNat) + 1) ((p2).toNat + (j - (p4).toNat)) else M19.2.1 b j, M19.2.2) : Mem)) fun x24 M23 => if x24 = 0 ∨ x24 = 1 then some (some (vI x24), M23) else none) else none)))) else (bI (C2 d j_x_deny [vR 11 0, vI 11] M11) fun x26 M25 => if x26 = 0 ∨ x26 = 1 then some (some (vI x26), M25) else none)) else (bI (C2 d j_x_deny [vR 11 0, vI 3] M11) fun x28 M27 => if x28 = 0 ∨ x28 = 1 then some (some (vI x28), M27) else none)) else (bI (C2 d j_x_deny [vR 11 0, vI 3] M9) fun x30 M29 => if x30 = 0 ∨ x30 = 1 then some (some (vI x30), M29) else none)) else none) else none))) :=
  (DD_ex GR2 MT 51 d r_x_pour r_x_pour [(0, vR 11 0), (1, vI p1), (2, vI p2), (3, vI p3), (4, vI p4), (5, vI p5)] [] M).trans rfl
set_option maxRecDepth 100000 in
set_option maxHeartbeats 4000000 in
theorem q_ty_hasRun (p0 : Nat) (p1 : Int) (p2 : Int) (d : Nat) (M : Mem) : C2 d j_ty_hasRun [vR 10 p0, vI p1, vI p2] M = (bI (C2 d j_x_within [vL p1, vI 0, vI (M.1 p0 2)] M) fun x2 M1 => if x2 = 0 then (some (some (vI 0), M1)) else (if (w32 ((M1.1 p0 2) - p1)) < p2 then (some (some (vI 0), M1)) else (some (some (vI 1), M1)))) :=
  (DD_ex GR2 MT 17 d r_ty_hasRun r_ty_hasRun [(0, vR 10 p0), (1, vI p1), (2, vI p2)] [] M).trans rfl
set_option maxRecDepth 100000 in
set_option maxHeartbeats 4000000 in
theorem q_x_feed (p1 : Int) (p2 : Int) (p3 : Int) (p4 : Int) (p5 : Int) (d : Nat) (M : Mem) : C2 d j_x_feed [vR 11 0, vI p1, vI p2, vI p3, vI p4, vI p5] M = (if 880 < (M.1 0 5) then (some (some (vI (-1)), M)) else (bV (C2 d j_x_feedFour [vR 11 0, vI p1] M) fun M1 => bV (C2 d j_x_feedFour [vR 11 0, vI p2] M1) fun M2 => bV (C2 d j_x_feedFour [vR 11 0, vI p3] M2) fun M3 => bV (C2 d j_x_feedFour [vR 11 0, vI p4] M3) fun M4 => bV (C2 d j_x_feedFour [vR 11 0, vI p5] M4) fun M5 => some (some (vI (M5.1 0 5)), M5))) :=
  (DD_ex GR2 MT 23 d r_x_feed r_x_feed [(0, vR 11 0), (1, vI p1), (2, vI p2), (3, vI p3), (4, vI p4), (5, vI p5)] [] M).trans rfl
set_option maxRecDepth 100000 in
set_option maxHeartbeats 4000000 in
theorem q_x_feedFour (p1 : Int) (d : Nat) (M : Mem) : C2 d j_x_feedFour [vR 11 0, vI p1] M = (E2 d r_x_feedFour 2 [(0, vR 11 0), (1, vI p1), (2, vI 24)] [] M) :=
  (DD_ex GR2 MT 4 d r_x_feedFour r_x_feedFour [(0, vR 11 0), (1, vI p1)] [] M).trans rfl
set_option maxRecDepth 100000 in
set_option maxHeartbeats 4000000 in
theorem q_x_feedFour_2 (p1 : Int) (p2 : Int) (d : Nat) (M : Mem) : E2 d r_x_feedFour 2 [(0, vR 11 0), (1, vI p1), (2, vI p2)] [] M = (if p2 < 0 then (some (none, M)) else (if (M.1 0 5) < 900 then (if 0 ≤ (M.1 0 5) ∧ (M.1 0 5) < 900 then (E2 d r_x_feedFour 2 [(0, vR 11 0), (1, vI p1), (2, vI (w32 (p2 + (-8))))] [] (putI (putI M 2 (M.1 0 5).toNat (x8 (x8 (xshr p1 p2)))) 0 5 (w32 (((putI M 2 (M.1 0 5).toNat (x8 (x8 (xshr p1 p2)))).1 0 5) + 1)))) else none) else (some (none, M)))) :=
  (DD_ex GR2 MT 25 d r_x_feedFour (r_x_feedFour.drop 2) [(0, vR 11 0), (1, vI p1), (2, vI p2)] [] M).trans rfl
set_option maxRecDepth 100000 in
set_option maxHeartbeats 4000000 in
theorem q_x_empire (p1 : Int) (d : Nat) (M : Mem) : C2 d j_x_empire [vR 11 0, vI p1] M = (bI (C2 d j_x_within [vL p1, vI 0, vI (M.1 0 5)] M) fun x2 M1 => if x2 = 0 then (bI (C2 d j_x_refuse [vR 11 0, vI 5] M1) fun x4 M3 => some (some (vI x4), M3)) else (bV (C2 d j_rd_begin [vR 8 3, vR 21 2, vI p1] (putI M1 0 5 0)) fun M5 => bI (C2 d j_er_parse [vR 2 8, vR 8 3, vR 1 39] M5) fun x7 M6 => bV (C2 d j_x_keepFault [vR 11 0] M6) fun M8 => if x7 = 0 then (bI (C2 d j_x_refuse [vR 11 0, vI 10] M8) fun x10 M9 => some (some (vI x10), M9)) else (bV (C2 d j_em_copyFrom [vR 1 11, vR 1 39] M8) fun M11 => bI (C2 d j_x_answer [vR 11 0, vI (M11.1 11 8)] M11) fun x13 M12 => some (some (vI x13), M12)))) :=
  (DD_ex GR2 MT 40 d r_x_empire r_x_empire [(0, vR 11 0), (1, vI p1)] [] M).trans rfl
set_option maxRecDepth 100000 in
set_option maxHeartbeats 4000000 in
theorem q_rd_begin (p2 : Int) (d : Nat) (M : Mem) : C2 d j_rd_begin [vR 8 3, vR 21 2, vI p2] M = (bI (C2 d j_math_min_I [vI 900, vI 900] M) fun x2 M1 => bI (C2 d j_math_min_I [vI p2, vI x2] M1) fun x4 M3 => bI (C2 d j_math_max_I [vI 0, vI x4] M3) fun x6 M5 => E2 d r_rd_begin 17 [(0, vR 8 3), (1, vR 21 2), (3, vI 0), (4, vI 0)] [] (putI (putI M5 3 6 x6) 3 4 0)) :=
  (DD_ex GR2 MT 19 d r_rd_begin r_rd_begin [(0, vR 8 3), (1, vR 21 2), (2, vI p2)] [] M).trans rfl
set_option maxRecDepth 100000 in
set_option maxHeartbeats 4000000 in
theorem q_rd_begin_17 (p3 : Int) (p4 : Int) (d : Nat) (M : Mem) : E2 d r_rd_begin 17 [(0, vR 8 3), (1, vR 21 2), (3, vI p3), (4, vI p4)] [] M = (if p4 < (M.1 3 6) then (if p3 < (M.1 3 6) then (if 0 ≤ p3 ∧ p3 < 900 then (bI (C2 d j_rd_isBlank [vI (M.1 2 (p3).toNat)] M) fun x2 M1 => if x2 = 0 then (bI (C2 d j_rd_scanToken [vR 8 3, vR 21 2, vI p3] M1) fun x4 M3 => E2 d r_rd_begin 17 [(0, vR 8 3), (1, vR 21 2), (3, vI x4), (4, vI (w32 (p4 + 1)))] [] M3) else (E2 d r_rd_begin 17 [(0, vR 8 3), (1, vR 21 2), (3, vI (w32 (p3 + 1))), (4, vI (w32 (p4 + 1)))] [] M1)) else none) else (if 0 ≤ (M.1 3 4) ∧ (M.1 3 4) < 901 then (if 0 ≤ ((putI M 5 (M.1 3 4).toNat 0).1 3 4) ∧ ((putI M 5 (M.1 3 4).toNat 0).1 3 4) < 901 then (if 0 ≤ ((putI (putI M 5 (M.1 3 4).toNat 0) 6 ((putI M 5 (M.1 3 4).toNat 0).1 3 4).toNat ((putI M 5 (M.1 3 4).toNat 0).1 3 6)).1 3 4) ∧ ((putI (putI M 5 (M.1 3 4).toNat 0) 6 ((putI M 5 (M.1 3 4).toNat 0).1 3 4).toNat ((putI M 5 (M.1 3 4).toNat 0).1 3 6)).1 3 4) < 901 then (bV (C2 d j_rd_advance [vR 8 3] (putI (putI (putI (putL (putI (putI M 5 (M.1 3 4).toNat 0) 6 ((putI M 5 (M.1 3 4).toNat 0).1 3 4).toNat ((putI M 5 (M.1 3 4).toNat 0).1 3 6)) 7 ((putI (putI M 5 (M.1 3 4).toNat 0) 6 ((putI M 5 (M.1 3 4).toNat 0).1 3 4).toNat ((putI M 5 (M.1 3 4).toNat 0).1 3 6)).1 3 4).toNat 0) 3 12 0) 3 13 (-1)) 3 5 (-1))) fun M5 => some (none, M5)) else none) else none) else none)) else (if 0 ≤ (M.1 3 4) ∧ (M.1 3 4) < 901 then (if 0 ≤ ((putI M 5 (M.1 3 4).toNat 0).1 3 4) ∧ ((putI M 5 (M.1 3 4).toNat 0).1 3 4) < 901 then (if 0 ≤ ((putI (putI M 5 (M.1 3 4).toNat 0) 6 ((putI M 5 (M.1 3 4).toNat 0).1 3 4).toNat ((putI M 5 (M.1 3 4).toNat 0).1 3 6)).1 3 4) ∧ ((putI (putI M 5 (M.1 3 4).toNat 0) 6 ((putI M 5 (M.1 3 4).toNat 0).1 3 4).toNat ((putI M 5 (M.1 3 4).toNat 0).1 3 6)).1 3 4) < 901 then (bV (C2 d j_rd_advance [vR 8 3] (putI (putI (putI (putL (putI (putI M 5 (M.1 3 4).toNat 0) 6 ((putI M 5 (M.1 3 4).toNat 0).1 3 4).toNat ((putI M 5 (M.1 3 4).toNat 0).1 3 6)) 7 ((putI (putI M 5 (M.1 3 4).toNat 0) 6 ((putI M 5 (M.1 3 4).toNat 0).1 3 4).toNat ((putI M 5 (M.1 3 4).toNat 0).1 3 6)).1 3 4).toNat 0) 3 12 0) 3 13 (-1)) 3 5 (-1))) fun M6 => some (none, M6)) else none) else none) else none)) :=
  (DD_ex GR2 MT 40 d r_rd_begin (r_rd_begin.drop 17) [(0, vR 8 3), (1, vR 21 2), (3, vI p3), (4, vI p4)] [] M).trans rfl
set_option maxRecDepth 100000 in
set_option maxHeartbeats 4000000 in
theorem q_math_min_I (p0 : Int) (p1 : Int) (d : Nat) (M : Mem) : C2 d j_math_min_I [vI p0, vI p1] M = (if p1 < p0 then (some (some (vI p1), M)) else (some (some (vI p0), M))) :=
  (DD_ex GR2 MT 7 d r_math_min_I r_math_min_I [(0, vI p0), (1, vI p1)] [] M).trans rfl
set_option maxRecDepth 100000 in
set_option maxHeartbeats 4000000 in
theorem q_math_max_I (p0 : Int) (p1 : Int) (d : Nat) (M : Mem) : C2 d j_math_max_I [vI p0, vI p1] M = (if p0 < p1 then (some (some (vI p1), M)) else (some (some (vI p0), M))) :=
  (DD_ex GR2 MT 7 d r_math_max_I r_math_max_I [(0, vI p0), (1, vI p1)] [] M).trans rfl
set_option maxRecDepth 100000 in
set_option maxHeartbeats 4000000 in
theorem q_rd_isBlank (p0 : Int) (d : Nat) (M : Mem) : C2 d j_rd_isBlank [vI p0] M = (if p0 = 10 then (some (some (vI 1), M)) else (if p0 = 32 then (some (some (vI 1), M)) else (some (some (vI 0), M)))) :=
  (DD_ex GR2 MT 10 d r_rd_isBlank r_rd_isBlank [(0, vI p0)] [] M).trans rfl
set_option maxRecDepth 100000 in
set_option maxHeartbeats 4000000 in
theorem q_rd_scanToken (p2 : Int) (d : Nat) (M : Mem) : C2 d j_rd_scanToken [vR 8 3, vR 21 2, vI p2] M = (if 0 ≤ (M.1 3 4) ∧ (M.1 3 4) < 901 then (if 0 ≤ p2 ∧ p2 < 900 then (bI (C2 d j_rd_isLetter [vI ((putI M 6 (M.1 3 4).toNat p2).1 2 (p2).toNat)] (putI M 6 (M.1 3 4).toNat p2)) fun x2 M1 => if x2 = 0 then (if 0 ≤ p2 ∧ p2 < 900 then (bI (C2 d j_rd_isDigit [vI (M1.1 2 (p2).toNat)] M1) fun x4 M3 => if x4 = 0 then (if 0 ≤ p2 ∧ p2 < 900 then (bI (C2 d j_rd_isSign [vI (M3.1 2 (p2).toNat)] M3) fun x6 M5 => if x6 = 0 then (if 0 ≤ (M3.1 3 4) ∧ (M3.1 3 4) < 901 then (if 0 ≤ p2 ∧ p2 < 900 then (if 0 ≤ ((putI M5 5 (M3.1 3 4).toNat 4).1 3 4) ∧ ((putI M5 5 (M3.1 3 4).toNat 4).1 3 4) < 901 then (some (some (vI (w32 (p2 + 1))), (putI (putL (putI M5 5 (M3.1 3 4).toNat 4) 7 ((putI M5 5 (M3.1 3 4).toNat 4).1 3 4).toNat ((putI M5 5 (M3.1 3 4).toNat 4).1 2 (p2).toNat)) 3 4 (w32 (((putL (putI M5 5 (M3.1 3 4).toNat 4) 7 ((putI M5 5 (M3.1 3 4).toNat 4).1 3 4).toNat ((putI M5 5 (M3.1 3 4).toNat 4).1 2 (p2).toNat)).1 3 4) + 1))))) else none) else none) else none) else (if 0 ≤ (M3.1 3 4) ∧ (M3.1 3 4) < 901 then (if 0 ≤ p2 ∧ p2 < 900 then (if 0 ≤ ((putI M5 5 (M3.1 3 4).toNat 3).1 3 4) ∧ ((putI M5 5 (M3.1 3 4).toNat 3).1 3 4) < 901 then (some (some (vI (w32 (p2 + 1))), (putI (putL (putI M5 5 (M3.1 3 4).toNat 3) 7 ((putI M5 5 (M3.1 3 4).toNat 3).1 3 4).toNat ((putI M5 5 (M3.1 3 4).toNat 3).1 2 (p2).toNat)) 3 4 (w32 (((putL (putI M5 5 (M3.1 3 4).toNat 3) 7 ((putI M5 5 (M3.1 3 4).toNat 3).1 3 4).toNat ((putI M5 5 (M3.1 3 4).toNat 3).1 2 (p2).toNat)).1 3 4) + 1))))) else none) else none) else none)) else none) else (bI (C2 d j_rd_scanNumber [vR 8 3, vR 21 2, vI p2] M3) fun x8 M7 => some (some (vI x8), (putI M7 3 4 (w32 ((M7.1 3 4) + 1)))))) else none) else (bI (C2 d j_rd_scanWord [vR 8 3, vR 21 2, vI p2] M1) fun x10 M9 => some (some (vI x10), (putI M9 3 4 (w32 ((M9.1 3 4) + 1)))))) else none) else none) :=
  (DD_ex GR2 MT 50 d r_rd_scanToken r_rd_scanToken [(0, vR 8 3), (1, vR 21 2), (2, vI p2)] [] M).trans rfl
set_option maxRecDepth 100000 in
set_option maxHeartbeats 4000000 in
theorem q_rd_scanWord (p2 : Int) (d : Nat) (M : Mem) : C2 d j_rd_scanWord [vR 8 3, vR 21 2, vI p2] M = (E2 d r_rd_scanWord 4 [(0, vR 8 3), (1, vR 21 2), (2, vI p2), (3, vI p2), (4, vL 0)] [] M) :=
  (DD_ex GR2 MT 6 d r_rd_scanWord r_rd_scanWord [(0, vR 8 3), (1, vR 21 2), (2, vI p2)] [] M).trans rfl
set_option maxRecDepth 100000 in
set_option maxHeartbeats 4000000 in
theorem q_rd_scanWord_4 (p2 : Int) (p3 : Int) (p4 : Int) (d : Nat) (M : Mem) : E2 d r_rd_scanWord 4 [(0, vR 8 3), (1, vR 21 2), (2, vI p2), (3, vI p3), (4, vL p4)] [] M = (if p3 < (M.1 3 6) then (if 0 ≤ p3 ∧ p3 < 900 then (bI (C2 d j_rd_isLetter [vI (M.1 2 (p3).toNat)] M) fun x2 M1 => if x2 = 0 then (if 0 ≤ (M1.1 3 4) ∧ (M1.1 3 4) < 901 then (if 8 < (w32 (p3 - p2)) then (if 0 ≤ ((putI M1 5 (M1.1 3 4).toNat 1).1 3 4) ∧ ((putI M1 5 (M1.1 3 4).toNat 1).1 3 4) < 901 then (some (some (vI p3), (putL (putI M1 5 (M1.1 3 4).toNat 1) 7 ((putI M1 5 (M1.1 3 4).toNat 1).1 3 4).toNat 0))) else none) else (if 0 ≤ ((putI M1 5 (M1.1 3 4).toNat 1).1 3 4) ∧ ((putI M1 5 (M1.1 3 4).toNat 1).1 3 4) < 901 then (some (some (vI p3), (putL (putI M1 5 (M1.1 3 4).toNat 1) 7 ((putI M1 5 (M1.1 3 4).toNat 1).1 3 4).toNat p4))) else none)) else none) else (if 0 ≤ p3 ∧ p3 < 900 then (bL (C2 d j_rd_withLetter [vL p4, vI (M1.1 2 (p3).toNat)] M1) fun x4 M3 => E2 d r_rd_scanWord 4 [(0, vR 8 3), (1, vR 21 2), (2, vI p2), (3, vI (w32 (p3 + 1))), (4, vL x4)] [] M3) else none)) else none) else (if 0 ≤ (M.1 3 4) ∧ (M.1 3 4) < 901 then (if 8 < (w32 (p3 - p2)) then (if 0 ≤ ((putI M 5 (M.1 3 4).toNat 1).1 3 4) ∧ ((putI M 5 (M.1 3 4).toNat 1).1 3 4) < 901 then (some (some (vI p3), (putL (putI M 5 (M.1 3 4).toNat 1) 7 ((putI M 5 (M.1 3 4).toNat 1).1 3 4).toNat 0))) else none) else (if 0 ≤ ((putI M 5 (M.1 3 4).toNat 1).1 3 4) ∧ ((putI M 5 (M.1 3 4).toNat 1).1 3 4) < 901 then (some (some (vI p3), (putL (putI M 5 (M.1 3 4).toNat 1) 7 ((putI M 5 (M.1 3 4).toNat 1).1 3 4).toNat p4))) else none)) else none)) :=
  (DD_ex GR2 MT 30 d r_rd_scanWord (r_rd_scanWord.drop 4) [(0, vR 8 3), (1, vR 21 2), (2, vI p2), (3, vI p3), (4, vL p4)] [] M).trans rfl
set_option maxRecDepth 100000 in
set_option maxHeartbeats 4000000 in
theorem q_rd_isDigit (p0 : Int) (d : Nat) (M : Mem) : C2 d j_rd_isDigit [vI p0] M = (if p0 < 48 then (some (some (vI 0), M)) else (if 57 < p0 then (some (some (vI 0), M)) else (some (some (vI 1), M)))) :=
  (DD_ex GR2 MT 10 d r_rd_isDigit r_rd_isDigit [(0, vI p0)] [] M).trans rfl
set_option maxRecDepth 100000 in
set_option maxHeartbeats 4000000 in
theorem q_rd_scanNumber (p2 : Int) (d : Nat) (M : Mem) : C2 d j_rd_scanNumber [vR 8 3, vR 21 2, vI p2] M = (E2 d r_rd_scanNumber 4 [(0, vR 8 3), (1, vR 21 2), (2, vI p2), (3, vI p2), (4, vI 0)] [] M) :=
  (DD_ex GR2 MT 6 d r_rd_scanNumber r_rd_scanNumber [(0, vR 8 3), (1, vR 21 2), (2, vI p2)] [] M).trans rfl
set_option maxRecDepth 100000 in
set_option maxHeartbeats 4000000 in
theorem q_rd_scanNumber_4 (p2 : Int) (p3 : Int) (p4 : Int) (d : Nat) (M : Mem) : E2 d r_rd_scanNumber 4 [(0, vR 8 3), (1, vR 21 2), (2, vI p2), (3, vI p3), (4, vI p4)] [] M = (if p3 < (M.1 3 6) then (if 0 ≤ p3 ∧ p3 < 900 then (bI (C2 d j_rd_isDigit [vI (M.1 2 (p3).toNat)] M) fun x2 M1 => if x2 = 0 then (if 4 < (w32 (p3 - p2)) then (if 0 ≤ (M1.1 3 4) ∧ (M1.1 3 4) < 901 then (if 0 ≤ ((putI M1 5 (M1.1 3 4).toNat 4).1 3 4) ∧ ((putI M1 5 (M1.1 3 4).toNat 4).1 3 4) < 901 then (some (some (vI p3), (putL (putI M1 5 (M1.1 3 4).toNat 4) 7 ((putI M1 5 (M1.1 3 4).toNat 4).1 3 4).toNat p4))) else none) else none) else (if 0 ≤ (M1.1 3 4) ∧ (M1.1 3 4) < 901 then (if 0 ≤ ((putI M1 5 (M1.1 3 4).toNat 2).1 3 4) ∧ ((putI M1 5 (M1.1 3 4).toNat 2).1 3 4) < 901 then (some (some (vI p3), (putL (putI M1 5 (M1.1 3 4).toNat 2) 7 ((putI M1 5 (M1.1 3 4).toNat 2).1 3 4).toNat p4))) else none) else none)) else (if (w32 (p3 - p2)) < 4 then (if 0 ≤ p3 ∧ p3 < 900 then (E2 d r_rd_scanNumber 4 [(0, vR 8 3), (1, vR 21 2), (2, vI p2), (3, vI (w32 (p3 + 1))), (4, vI (w32 ((w32 ((w32 (10 * p4)) + (M1.1 2 (p3).toNat))) - 48)))] [] M1) else none) else (E2 d r_rd_scanNumber 4 [(0, vR 8 3), (1, vR 21 2), (2, vI p2), (3, vI (w32 (p3 + 1))), (4, vI 0)] [] M1))) else none) else (if 4 < (w32 (p3 - p2)) then (if 0 ≤ (M.1 3 4) ∧ (M.1 3 4) < 901 then (if 0 ≤ ((putI M 5 (M.1 3 4).toNat 4).1 3 4) ∧ ((putI M 5 (M.1 3 4).toNat 4).1 3 4) < 901 then (some (some (vI p3), (putL (putI M 5 (M.1 3 4).toNat 4) 7 ((putI M 5 (M.1 3 4).toNat 4).1 3 4).toNat p4))) else none) else none) else (if 0 ≤ (M.1 3 4) ∧ (M.1 3 4) < 901 then (if 0 ≤ ((putI M 5 (M.1 3 4).toNat 2).1 3 4) ∧ ((putI M 5 (M.1 3 4).toNat 2).1 3 4) < 901 then (some (some (vI p3), (putL (putI M 5 (M.1 3 4).toNat 2) 7 ((putI M 5 (M.1 3 4).toNat 2).1 3 4).toNat p4))) else none) else none))) :=
  (DD_ex GR2 MT 31 d r_rd_scanNumber (r_rd_scanNumber.drop 4) [(0, vR 8 3), (1, vR 21 2), (2, vI p2), (3, vI p3), (4, vI p4)] [] M).trans rfl
set_option maxRecDepth 100000 in
set_option maxHeartbeats 4000000 in
theorem q_rd_isSign (p0 : Int) (d : Nat) (M : Mem) : C2 d j_rd_isSign [vI p0] M = (if p0 = 59 then (some (some (vI 1), M)) else (if p0 = 60 then (some (some (vI 1), M)) else (if p0 = 62 then (some (some (vI 1), M)) else (if p0 = 61 then (some (some (vI 1), M)) else (some (some (vI 0), M)))))) :=
  (DD_ex GR2 MT 16 d r_rd_isSign r_rd_isSign [(0, vI p0)] [] M).trans rfl
set_option maxRecDepth 100000 in
set_option maxHeartbeats 4000000 in
theorem q_rd_advance (d : Nat) (M : Mem) : C2 d j_rd_advance [vR 8 3] M = (bI (C2 d j_math_min_I [vI (w32 ((M.1 3 5) + 1)), vI (M.1 3 4)] M) fun x2 M1 => if 0 ≤ ((putI M1 3 5 x2).1 3 5) ∧ ((putI M1 3 5 x2).1 3 5) < 901 then (if ((putI (putI M1 3 5 x2) 3 7 ((putI M1 3 5 x2).1 5 ((putI M1 3 5 x2).1 3 5).toNat)).1 3 7) = 1 then (if 0 ≤ ((putI (putI M1 3 5 x2) 3 7 ((putI M1 3 5 x2).1 5 ((putI M1 3 5 x2).1 3 5).toNat)).1 3 5) ∧ ((putI (putI M1 3 5 x2) 3 7 ((putI M1 3 5 x2).1 5 ((putI M1 3 5 x2).1 3 5).toNat)).1 3 5) < 901 then (if ((putL (putI (putI M1 3 5 x2) 3 7 ((putI M1 3 5 x2).1 5 ((putI M1 3 5 x2).1 3 5).toNat)) 3 9 ((putI (putI M1 3 5 x2) 3 7 ((putI M1 3 5 x2).1 5 ((putI M1 3 5 x2).1 3 5).toNat)).2.1 7 ((putI (putI M1 3 5 x2) 3 7 ((putI M1 3 5 x2).1 5 ((putI M1 3 5 x2).1 3 5).toNat)).1 3 5).toNat)).1 3 7) = 1 then (E2 d r_rd_advance 48 [(0, vR 8 3), (1, vI 0)] [] (putI (putI (putL (putI (putI M1 3 5 x2) 3 7 ((putI M1 3 5 x2).1 5 ((putI M1 3 5 x2).1 3 5).toNat)) 3 9 ((putI (putI M1 3 5 x2) 3 7 ((putI M1 3 5 x2).1 5 ((putI M1 3 5 x2).1 3 5).toNat)).2.1 7 ((putI (putI M1 3 5 x2) 3 7 ((putI M1 3 5 x2).1 5 ((putI M1 3 5 x2).1 3 5).toNat)).1 3 5).toNat)) 3 8 0) 3 10 (-1))) else (if 0 ≤ ((putL (putI (putI M1 3 5 x2) 3 7 ((putI M1 3 5 x2).1 5 ((putI M1 3 5 x2).1 3 5).toNat)) 3 9 ((putI (putI M1 3 5 x2) 3 7 ((putI M1 3 5 x2).1 5 ((putI M1 3 5 x2).1 3 5).toNat)).2.1 7 ((putI (putI M1 3 5 x2) 3 7 ((putI M1 3 5 x2).1 5 ((putI M1 3 5 x2).1 3 5).toNat)).1 3 5).toNat)).1 3 5) ∧ ((putL (putI (putI M1 3 5 x2) 3 7 ((putI M1 3 5 x2).1 5 ((putI M1 3 5 x2).1 3 5).toNat)) 3 9 ((putI (putI M1 3 5 x2) 3 7 ((putI M1 3 5 x2).1 5 ((putI M1 3 5 x2).1 3 5).toNat)).2.1 7 ((putI (putI M1 3 5 x2) 3 7 ((putI M1 3 5 x2).1 5 ((putI M1 3 5 x2).1 3 5).toNat)).1 3 5).toNat)).1 3 5) < 901 then (E2 d r_rd_advance 48 [(0, vR 8 3), (1, vI 0)] [] (putI (putI (putL (putI (putI M1 3 5 x2) 3 7 ((putI M1 3 5 x2).1 5 ((putI M1 3 5 x2).1 3 5).toNat)) 3 9 ((putI (putI M1 3 5 x2) 3 7 ((putI M1 3 5 x2).1 5 ((putI M1 3 5 x2).1 3 5).toNat)).2.1 7 ((putI (putI M1 3 5 x2) 3 7 ((putI M1 3 5 x2).1 5 ((putI M1 3 5 x2).1 3 5).toNat)).1 3 5).toNat)) 3 8 (w32 ((putL (putI (putI M1 3 5 x2) 3 7 ((putI M1 3 5 x2).1 5 ((putI M1 3 5 x2).1 3 5).toNat)) 3 9 ((putI (putI M1 3 5 x2) 3 7 ((putI M1 3 5 x2).1 5 ((putI M1 3 5 x2).1 3 5).toNat)).2.1 7 ((putI (putI M1 3 5 x2) 3 7 ((putI M1 3 5 x2).1 5 ((putI M1 3 5 x2).1 3 5).toNat)).1 3 5).toNat)).2.1 7 ((putL (putI (putI M1 3 5 x2) 3 7 ((putI M1 3 5 x2).1 5 ((putI M1 3 5 x2).1 3 5).toNat)) 3 9 ((putI (putI M1 3 5 x2) 3 7 ((putI M1 3 5 x2).1 5 ((putI M1 3 5 x2).1 3 5).toNat)).2.1 7 ((putI (putI M1 3 5 x2) 3 7 ((putI M1 3 5 x2).1 5 ((putI M1 3 5 x2).1 3 5).toNat)).1 3 5).toNat)).1 3 5).toNat))) 3 10 (-1))) else none)) else none) else (if ((putL (putI (putI M1 3 5 x2) 3 7 ((putI M1 3 5 x2).1 5 ((putI M1 3 5 x2).1 3 5).toNat)) 3 9 0).1 3 7) = 1 then (E2 d r_rd_advance 48 [(0, vR 8 3), (1, vI 0)] [] (putI (putI (putL (putI (putI M1 3 5 x2) 3 7 ((putI M1 3 5 x2).1 5 ((putI M1 3 5 x2).1 3 5).toNat)) 3 9 0) 3 8 0) 3 10 (-1))) else (if 0 ≤ ((putL (putI (putI M1 3 5 x2) 3 7 ((putI M1 3 5 x2).1 5 ((putI M1 3 5 x2).1 3 5).toNat)) 3 9 0).1 3 5) ∧ ((putL (putI (putI M1 3 5 x2) 3 7 ((putI M1 3 5 x2).1 5 ((putI M1 3 5 x2).1 3 5).toNat)) 3 9 0).1 3 5) < 901 then (E2 d r_rd_advance 48 [(0, vR 8 3), (1, vI 0)] [] (putI (putI (putL (putI (putI M1 3 5 x2) 3 7 ((putI M1 3 5 x2).1 5 ((putI M1 3 5 x2).1 3 5).toNat)) 3 9 0) 3 8 (w32 ((putL (putI (putI M1 3 5 x2) 3 7 ((putI M1 3 5 x2).1 5 ((putI M1 3 5 x2).1 3 5).toNat)) 3 9 0).2.1 7 ((putL (putI (putI M1 3 5 x2) 3 7 ((putI M1 3 5 x2).1 5 ((putI M1 3 5 x2).1 3 5).toNat)) 3 9 0).1 3 5).toNat))) 3 10 (-1))) else none))) else none) :=
  (DD_ex GR2 MT 47 d r_rd_advance r_rd_advance [(0, vR 8 3)] [] M).trans rfl
set_option maxRecDepth 100000 in
set_option maxHeartbeats 4000000 in
theorem q_rd_advance_48 (p1 : Int) (d : Nat) (M : Mem) : E2 d r_rd_advance 48 [(0, vR 8 3), (1, vI p1)] [] M = (if p1 < 28 then (if (ycmp (M.2.1 3 9) 0) = 0 then (some (none, M)) else (if 0 ≤ p1 ∧ p1 < 28 then (if (ycmp (M.2.1 4 (p1).toNat) (M.2.1 3 9)) = 0 then (E2 d r_rd_advance 48 [(0, vR 8 3), (1, vI (w32 (p1 + 1)))] [] (putI M 3 10 p1)) else (E2 d r_rd_advance 48 [(0, vR 8 3), (1, vI (w32 (p1 + 1)))] [] M)) else none)) else (some (none, M))) :=
  (DD_ex GR2 MT 23 d r_rd_advance (r_rd_advance.drop 48) [(0, vR 8 3), (1, vI p1)] [] M).trans rfl
set_option maxRecDepth 100000 in
set_option maxHeartbeats 4000000 in
theorem q_er_parse (p2 : Nat) (d : Nat) (M : Mem) : C2 d j_er_parse [vR 2 8, vR 8 3, vR 1 p2] M = (bV (C2 d j_em_clear [vR 1 p2] M) fun M1 => E2 d r_er_parse 7 [(0, vR 2 8), (1, vR 8 3), (2, vR 1 p2), (3, vI 0)] [] (putI M1 8 0 0)) :=
  (DD_ex GR2 MT 9 d r_er_parse r_er_parse [(0, vR 2 8), (1, vR 8 3), (2, vR 1 p2)] [] M).trans rfl
set_option maxRecDepth 100000 in
set_option maxHeartbeats 4000000 in
theorem q_er_parse_7 (a2 : Nat) (p3 : Int) (d : Nat) (M : Mem) : E2 d r_er_parse 7 [(0, vR 2 8), (1, vR 8 3), (2, vR 1 a2), (3, vI p3)] [] M = (if (M.1 3 6) < p3 then (some (some (vI 1), M)) else (bI (C2 d j_rd_atEnd [vR 8 3] M) fun x2 M1 => if x2 = 0 then (bI (C2 d j_er_parseThing [vR 2 8, vR 8 3, vR 1 a2] M1) fun x4 M3 => if x4 = 0 then (some (some (vI 0), M3)) else (bI (C2 d j_rd_takeSign [vR 8 3, vI 59] M3) fun x6 M5 => if x6 = 0 then (some (some (vI 0), M5)) else (E2 d r_er_parse 7 [(0, vR 2 8), (1, vR 8 3), (2, vR 1 a2), (3, vI (w32 (p3 + 1)))] [] M5))) else (some (some (vI 1), M1)))) :=
  (DD_ex GR2 MT 20 d r_er_parse (r_er_parse.drop 7) [(0, vR 2 8), (1, vR 8 3), (2, vR 1 a2), (3, vI p3)] [] M).trans rfl
set_option maxRecDepth 100000 in
set_option maxHeartbeats 4000000 in
theorem q_rd_atEnd (d : Nat) (M : Mem) : C2 d j_rd_atEnd [vR 8 3] M = (if (M.1 3 7) = 0 then (some (some (vI 1), M)) else (some (some (vI 0), M))) :=
  (DD_ex GR2 MT 7 d r_rd_atEnd r_rd_atEnd [(0, vR 8 3)] [] M).trans rfl
set_option maxRecDepth 100000 in
set_option maxHeartbeats 4000000 in
theorem q_er_parseThing (p2 : Nat) (d : Nat) (M : Mem) : C2 d j_er_parseThing [vR 2 8, vR 8 3, vR 1 p2] M = (if (M.1 3 10) = 0 then (bI (C2 d j_er_parseOnce [vR 2 8, vR 8 3, vR 1 p2, vI 10, vI 99] M) fun x2 M1 => if x2 = 0 ∨ x2 = 1 then some (some (vI x2), M1) else none) else if (M.1 3 10) = 1 then (bI (C2 d j_er_parseOnce [vR 2 8, vR 8 3, vR 1 p2, vI 0, vI 999] M) fun x4 M3 => if x4 = 0 ∨ x4 = 1 then some (some (vI x4), M3) else none) else if (M.1 3 10) = 2 then (bI (C2 d j_er_parseOnce [vR 2 8, vR 8 3, vR 1 p2, vI 0, vI 9999] M) fun x6 M5 => if x6 = 0 ∨ x6 = 1 then some (some (vI x6), M5) else none) else if (M.1 3 10) = 3 then (bI (C2 d j_er_parsePart [vR 2 8, vR 8 3, vR 1 p2] M) fun x8 M7 => if x8 = 0 ∨ x8 = 1 then some (some (vI x8), M7) else none) else if (M.1 3 10) = 4 then (bI (C2 d j_rd_misplaced [vR 8 3] M) fun x10 M9 => if x10 = 0 ∨ x10 = 1 then some (some (vI x10), M9) else none) else if (M.1 3 10) = 5 then (bI (C2 d j_rd_misplaced [vR 8 3] M) fun x12 M11 => if x12 = 0 ∨ x12 = 1 then some (some (vI x12), M11) else none) else if (M.1 3 10) = 6 then (bI (C2 d j_rd_misplaced [vR 8 3] M) fun x14 M13 => if x14 = 0 ∨ x14 = 1 then some (some (vI x14), M13) else none) else if (M.1 3 10) = 7 then (bI (C2 d j_er_parseHand [vR 2 8, vR 8 3, vR 1 p2] M) fun x16 M15 => if x16 = 0 ∨ x16 = 1 then some (some (vI x16), M15) else none) else if (M.1 3 10) = 8 then (bI (C2 d j_rd_misplaced [vR 8 3] M) fun x18 M17 => if x18 = 0 ∨ x18 = 1 then some (some (vI x18), M17) else none) else if (M.1 3 10) = 9 then (bI (C2 d j_rd_misplaced [vR 8 3] M) fun x20 M19 => if x20 = 0 ∨ x20 = 1 then some (some (vI x20), M19) else none) else if (M.1 3 10) = 10 then (bI (C2 d j_rd_misplaced [vR 8 3] M) fun x22 M21 => if x22 = 0 ∨ x22 = 1 then some (some (vI x22), M21) else none) else if (M.1 3 10) = 11 then (bI (C2 d j_er_parseSpring [vR 2 8, vR 8 3, vR 1 p2] M) fun x24 M23 => if x24 = 0 ∨ x24 = 1 then some (some (vI x24), M23) else none) else (bI (C2 d j_rd_misplaced [vR 8 3] M) fun x26 M25 => if x26 = 0 ∨ x26 = 1 then some (some (vI x26), M25) else none)) :=
  (DD_ex GR2 MT 11 d r_er_parseThing r_er_parseThing [(0, vR 2 8), (1, vR 8 3), (2, vR 1 p2)] [] M).trans rfl
set_option maxRecDepth 100000 in
set_option maxHeartbeats 4000000 in
theorem q_er_parseOnce (p2 : Nat) (p3 : Int) (p4 : Int) (d : Nat) (M : Mem) : C2 d j_er_parseOnce [vR 2 8, vR 8 3, vR 1 p2, vI p3, vI p4] M = (if (xand (xshr (M.1 8 0) (M.1 3 10)) 1) = 1 then (bI (C2 d j_rd_fail [vR 8 3, vI 5] M) fun x2 M1 => if x2 = 0 ∨ x2 = 1 then some (some (vI x2), M1) else none) else (bI (C2 d j_rd_takeWordAndNumber [vR 8 3, vI (M.1 3 10), vI p3, vI p4] (putI M 8 0 (xor32 (M.1 8 0) (xshl 1 (M.1 3 10))))) fun x4 M3 => if x4 = 0 then (some (some (vI 0), M3)) else (if (M.1 3 10) = 0 then (some (some (vI 1), (putI M3 p2 0 (M3.1 3 11)))) else if (M.1 3 10) = 1 then (some (some (vI 1), (putI M3 p2 1 (M3.1 3 11)))) else (some (some (vI 1), (putI M3 p2 2 (M3.1 3 11))))))) :=
  (DD_ex GR2 MT 35 d r_er_parseOnce r_er_parseOnce [(0, vR 2 8), (1, vR 8 3), (2, vR 1 p2), (3, vI p3), (4, vI p4)] [] M).trans rfl
set_option maxRecDepth 100000 in
set_option maxHeartbeats 4000000 in
theorem q_rd_fail (p1 : Int) (d : Nat) (M : Mem) : C2 d j_rd_fail [vR 8 3, vI p1] M = (if 0 ≤ ((putI M 3 12 p1).1 3 5) ∧ ((putI M 3 12 p1).1 3 5) < 901 then (some (some (vI 0), (putI (putI M 3 12 p1) 3 13 ((putI M 3 12 p1).1 6 ((putI M 3 12 p1).1 3 5).toNat)))) else none) :=
  (DD_ex GR2 MT 13 d r_rd_fail r_rd_fail [(0, vR 8 3), (1, vI p1)] [] M).trans rfl
set_option maxRecDepth 100000 in
set_option maxHeartbeats 4000000 in
theorem q_rd_takeWordAndNumber (p1 : Int) (p2 : Int) (p3 : Int) (d : Nat) (M : Mem) : C2 d j_rd_takeWordAndNumber [vR 8 3, vI p1, vI p2, vI p3] M = (bI (C2 d j_rd_takeWord [vR 8 3, vI p1] M) fun x2 M1 => if x2 = 0 then (some (some (vI 0), M1)) else (bI (C2 d j_rd_takeNumber [vR 8 3, vI p2, vI p3] M1) fun x4 M3 => if x4 = 0 then (some (some (vI 0), M3)) else (some (some (vI 1), M3)))) :=
  (DD_ex GR2 MT 13 d r_rd_takeWordAndNumber r_rd_takeWordAndNumber [(0, vR 8 3), (1, vI p1), (2, vI p2), (3, vI p3)] [] M).trans rfl
set_option maxRecDepth 100000 in
set_option maxHeartbeats 4000000 in
theorem q_rd_takeWord (p1 : Int) (d : Nat) (M : Mem) : C2 d j_rd_takeWord [vR 8 3, vI p1] M = (if (M.1 3 10) = p1 then (bV (C2 d j_rd_advance [vR 8 3] M) fun M1 => some (some (vI 1), M1)) else (bI (C2 d j_rd_misplaced [vR 8 3] M) fun x3 M2 => if x3 = 0 ∨ x3 = 1 then some (some (vI x3), M2) else none)) :=
  (DD_ex GR2 MT 9 d r_rd_takeWord r_rd_takeWord [(0, vR 8 3), (1, vI p1)] [] M).trans rfl
set_option maxRecDepth 100000 in
set_option maxHeartbeats 4000000 in
theorem q_rd_misplaced (d : Nat) (M : Mem) : C2 d j_rd_misplaced [vR 8 3] M = (if (M.1 3 7) = 4 then (bI (C2 d j_rd_fail [vR 8 3, vI 1] M) fun x2 M1 => if x2 = 0 ∨ x2 = 1 then some (some (vI x2), M1) else none) else (bI (C2 d j_rd_fail [vR 8 3, vI 2] M) fun x4 M3 => if x4 = 0 ∨ x4 = 1 then some (some (vI x4), M3) else none)) :=
  (DD_ex GR2 MT 10 d r_rd_misplaced r_rd_misplaced [(0, vR 8 3)] [] M).trans rfl
set_option maxRecDepth 100000 in
set_option maxHeartbeats 4000000 in
theorem q_rd_takeNumber (p1 : Int) (p2 : Int) (d : Nat) (M : Mem) : C2 d j_rd_takeNumber [vR 8 3, vI p1, vI p2] M = (if (M.1 3 7) = 2 then (bI (C2 d j_x_within [vL (M.1 3 8), vI p1, vI p2] M) fun x2 M1 => if x2 = 0 then (bI (C2 d j_rd_fail [vR 8 3, vI 4] M1) fun x4 M3 => if x4 = 0 ∨ x4 = 1 then some (some (vI x4), M3) else none) else (bV (C2 d j_rd_advance [vR 8 3] (putI M1 3 11 (M1.1 3 8))) fun M5 => some (some (vI 1), M5))) else (bI (C2 d j_rd_misplaced [vR 8 3] M) fun x7 M6 => if x7 = 0 ∨ x7 = 1 then some (some (vI x7), M6) else none)) :=
  (DD_ex GR2 MT 20 d r_rd_takeNumber r_rd_takeNumber [(0, vR 8 3), (1, vI p1), (2, vI p2)] [] M).trans rfl
set_option maxRecDepth 100000 in
set_option maxHeartbeats 4000000 in
theorem q_er_parsePart (p2 : Nat) (d : Nat) (M : Mem) : C2 d j_er_parsePart [vR 2 8, vR 8 3, vR 1 p2] M = (if (M.1 p2 7) < 6 then (bV (C2 d j_rd_advance [vR 8 3] M) fun M1 => bI (C2 d j_er_checkNewName [vR 2 8, vR 8 3, vR 1 p2] M1) fun x3 M2 => if x3 = 0 then (some (some (vI 0), M2)) else (bR 5 (C2 d j_em_addPart [vR 1 p2, vL (M2.2.1 3 9)] M2) fun a5 M4 => bV (C2 d j_rd_advance [vR 8 3] M4) fun M6 => bI (C2 d j_rd_takeOptional [vR 8 3, vI 4, vI 1, vI 99, vI 30] M6) fun x8 M7 => if x8 = 0 then (some (some (vI 0), M7)) else (bI (C2 d j_rd_takeOptional [vR 8 3, vI 5, vI 1, vI 9, vI 3] (putI M7 a5 1 (M7.1 3 11))) fun x10 M9 => if x10 = 0 then (some (some (vI 0), M9)) else (if ((putI M9 a5 2 (M9.1 3 11)).1 3 10) = 6 then (bV (C2 d j_rd_advance [vR 8 3] (putI (putI M9 a5 2 (M9.1 3 11)) p2 6 (xor32 ((putI M9 a5 2 (M9.1 3 11)).1 p2 6) (xshl 1 (w32 (((putI M9 a5 2 (M9.1 3 11)).1 p2 7) - 1)))))) fun M11 => some (some (vI 1), M11)) else (some (some (vI 1), (putI M9 a5 2 (M9.1 3 11)))))))) else (bI (C2 d j_rd_fail [vR 8 3, vI 6] M) fun x13 M12 => if x13 = 0 ∨ x13 = 1 then some (some (vI x13), M12) else none)) :=
  (DD_ex GR2 MT 60 d r_er_parsePart r_er_parsePart [(0, vR 2 8), (1, vR 8 3), (2, vR 1 p2)] [] M).trans rfl
set_option maxRecDepth 100000 in
set_option maxHeartbeats 4000000 in
theorem q_er_checkNewName (p2 : Nat) (d : Nat) (M : Mem) : C2 d j_er_checkNewName [vR 2 8, vR 8 3, vR 1 p2] M = (bI (C2 d j_rd_atName [vR 8 3] M) fun x2 M1 => if x2 = 0 then (bI (C2 d j_rd_misplaced [vR 8 3] M1) fun x4 M3 => if x4 = 0 ∨ x4 = 1 then some (some (vI x4), M3) else none) else (bI (C2 d j_em_hasName [vR 1 p2, vL (M1.2.1 3 9)] M1) fun x6 M5 => if x6 = 0 then (some (some (vI 1), M5)) else (bI (C2 d j_rd_fail [vR 8 3, vI 3] M5) fun x8 M7 => if x8 = 0 then (some (some (vI 0), M7)) else (some (some (vI 1), M7))))) :=
  (DD_ex GR2 MT 16 d r_er_checkNewName r_er_checkNewName [(0, vR 2 8), (1, vR 8 3), (2, vR 1 p2)] [] M).trans rfl
set_option maxRecDepth 100000 in
set_option maxHeartbeats 4000000 in
theorem q_rd_atName (d : Nat) (M : Mem) : C2 d j_rd_atName [vR 8 3] M = (if (M.1 3 7) = 1 then (if (ycmp (M.2.1 3 9) 0) = 0 then (some (some (vI 0), M)) else (if (M.1 3 10) = (-1) then (some (some (vI 1), M)) else (some (some (vI 0), M)))) else (some (some (vI 0), M))) :=
  (DD_ex GR2 MT 17 d r_rd_atName r_rd_atName [(0, vR 8 3)] [] M).trans rfl
set_option maxRecDepth 100000 in
set_option maxHeartbeats 4000000 in
theorem q_em_hasName (p0 : Nat) (p1 : Int) (d : Nat) (M : Mem) : C2 d j_em_hasName [vR 1 p0, vL p1] M = (E2 d r_em_hasName 2 [(0, vR 1 p0), (1, vL p1), (3, vI 0)] [] M) :=
  (DD_ex GR2 MT 4 d r_em_hasName r_em_hasName [(0, vR 1 p0), (1, vL p1)] [] M).trans rfl
set_option maxRecDepth 100000 in
set_option maxHeartbeats 4000000 in
theorem q_em_hasName_2 (a0 : Nat) (p1 : Int) (p3 : Int) (d : Nat) (M : Mem) : E2 d r_em_hasName 2 [(0, vR 1 a0), (1, vL p1), (3, vI p3)] [] M = (if p3 < (M.1 a0 9) then (if 0 ≤ p3 ∧ p3 < 4 then (if (ycmp (M.2.1 ((a0 + 3) + 21 + 1 * (p3).toNat) 0) p1) = 0 then (some (some (vI 1), M)) else (E2 d r_em_hasName 2 [(0, vR 1 a0), (1, vL p1), (3, vI (w32 (p3 + 1)))] [] M)) else none) else (bI (C2 d j_em_findPart [vR 1 a0, vL p1] M) fun x2 M1 => if x2 = (-1) then (bI (C2 d j_em_findHand [vR 1 a0, vL p1] M1) fun x4 M3 => if x4 = (-1) then (some (some (vI 0), M3)) else (some (some (vI 1), M3))) else (some (some (vI 1), M1)))) :=
  (DD_ex GR2 MT 18 d r_em_hasName (r_em_hasName.drop 2) [(0, vR 1 a0), (1, vL p1), (3, vI p3)] [] M).trans rfl
set_option maxRecDepth 100000 in
set_option maxHeartbeats 4000000 in
theorem q_em_findPart (p0 : Nat) (p1 : Int) (d : Nat) (M : Mem) : C2 d j_em_findPart [vR 1 p0, vL p1] M = (E2 d r_em_findPart 2 [(0, vR 1 p0), (1, vL p1), (3, vI 0)] [] M) :=
  (DD_ex GR2 MT 4 d r_em_findPart r_em_findPart [(0, vR 1 p0), (1, vL p1)] [] M).trans rfl
set_option maxRecDepth 100000 in
set_option maxHeartbeats 4000000 in
theorem q_em_findPart_2 (a0 : Nat) (p1 : Int) (p3 : Int) (d : Nat) (M : Mem) : E2 d r_em_findPart 2 [(0, vR 1 a0), (1, vL p1), (3, vI p3)] [] M = (if p3 < (M.1 a0 7) then (if 0 ≤ p3 ∧ p3 < 6 then (if (ycmp (M.2.1 ((a0 + 1) + 9 + 1 * (p3).toNat) 0) p1) = 0 then (some (some (vI p3), M)) else (E2 d r_em_findPart 2 [(0, vR 1 a0), (1, vL p1), (3, vI (w32 (p3 + 1)))] [] M)) else none) else (some (some (vI (-1)), M))) :=
  (DD_ex GR2 MT 16 d r_em_findPart (r_em_findPart.drop 2) [(0, vR 1 a0), (1, vL p1), (3, vI p3)] [] M).trans rfl
set_option maxRecDepth 100000 in
set_option maxHeartbeats 4000000 in
theorem q_em_findHand (p0 : Nat) (p1 : Int) (d : Nat) (M : Mem) : C2 d j_em_findHand [vR 1 p0, vL p1] M = (E2 d r_em_findHand 2 [(0, vR 1 p0), (1, vL p1), (3, vI 0)] [] M) :=
  (DD_ex GR2 MT 4 d r_em_findHand r_em_findHand [(0, vR 1 p0), (1, vL p1)] [] M).trans rfl
set_option maxRecDepth 100000 in
set_option maxHeartbeats 4000000 in
theorem q_em_findHand_2 (a0 : Nat) (p1 : Int) (p3 : Int) (d : Nat) (M : Mem) : E2 d r_em_findHand 2 [(0, vR 1 a0), (1, vL p1), (3, vI p3)] [] M = (if p3 < (M.1 a0 8) then (if 0 ≤ p3 ∧ p3 < 8 then (if (ycmp (M.2.1 ((a0 + 2) + 14 + 1 * (p3).toNat) 0) p1) = 0 then (some (some (vI p3), M)) else (E2 d r_em_findHand 2 [(0, vR 1 a0), (1, vL p1), (3, vI (w32 (p3 + 1)))] [] M)) else none) else (some (some (vI (-1)), M))) :=
  (DD_ex GR2 MT 16 d r_em_findHand (r_em_findHand.drop 2) [(0, vR 1 a0), (1, vL p1), (3, vI p3)] [] M).trans rfl
set_option maxRecDepth 100000 in
set_option maxHeartbeats 4000000 in
theorem q_em_addPart (p0 : Nat) (p1 : Int) (d : Nat) (M : Mem) : C2 d j_em_addPart [vR 1 p0, vL p1] M = (if 0 ≤ (M.1 p0 7) ∧ (M.1 p0 7) < 6 then (some (some (vR 5 ((p0 + 1) + 9 + 1 * (M.1 p0 7).toNat)), (putI (putL (putI M p0 7 (w32 ((M.1 p0 7) + 1))) ((p0 + 1) + 9 + 1 * (M.1 p0 7).toNat) 0 p1) ((p0 + 1) + 9 + 1 * (M.1 p0 7).toNat) 3 0))) else none) :=
  (DD_ex GR2 MT 21 d r_em_addPart r_em_addPart [(0, vR 1 p0), (1, vL p1)] [] M).trans rfl
set_option maxRecDepth 100000 in
set_option maxHeartbeats 4000000 in
theorem q_rd_takeOptional (p1 : Int) (p2 : Int) (p3 : Int) (p4 : Int) (d : Nat) (M : Mem) : C2 d j_rd_takeOptional [vR 8 3, vI p1, vI p2, vI p3, vI p4] M = (if ((putI M 3 11 p4).1 3 10) = p1 then (bV (C2 d j_rd_advance [vR 8 3] (putI M 3 11 p4)) fun M1 => bI (C2 d j_rd_takeNumber [vR 8 3, vI p2, vI p3] M1) fun x3 M2 => if x3 = 0 ∨ x3 = 1 then some (some (vI x3), M2) else none) else (some (some (vI 1), (putI M 3 11 p4)))) :=
  (DD_ex GR2 MT 15 d r_rd_takeOptional r_rd_takeOptional [(0, vR 8 3), (1, vI p1), (2, vI p2), (3, vI p3), (4, vI p4)] [] M).trans rfl
