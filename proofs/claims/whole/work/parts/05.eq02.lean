set_option maxRecDepth 100000 in
set_option maxHeartbeats 4000000 in
theorem q_em_passYears (p0 : Nat) (p1 : Int) (d : Nat) (M : Mem) : C2 d j_em_passYears [vR 1 p0, vI p1] M = (bI (C2 d j_em_fadedWithin [vR 1 p0, vI p1] M) fun x2 M1 => E2 d r_em_passYears 8 [(0, vR 1 p0), (1, vI p1), (2, vI x2), (3, vI 0), (4, vI 0)] [] M1) :=
  (DD_ex GR2 MT 10 d r_em_passYears r_em_passYears [(0, vR 1 p0), (1, vI p1)] [] M).trans rfl
set_option maxRecDepth 100000 in
set_option maxHeartbeats 4000000 in
theorem q_em_passYears_8 (a0 : Nat) (p1 : Int) (p2 : Int) (p3 : Int) (p4 : Int) (d : Nat) (M : Mem) : E2 d r_em_passYears 8 [(0, vR 1 a0), (1, vI p1), (2, vI p2), (3, vI p3), (4, vI p4)] [] M = (if p4 < (M.1 a0 8) then (if 0 ≤ p4 ∧ p4 < 8 then (if (M.1 ((a0 + 2) + 14 + 1 * (p4).toNat) 4) = 0 then (bI (C2 d j_em_yearsLeft [vR 1 a0, vR 3 ((a0 + 2) + 14 + 1 * (p4).toNat)] M) fun x2 M1 => if p1 < x2 then (if (M1.1 ((a0 + 2) + 14 + 1 * (p4).toNat) 4) = 0 then (E2 d r_em_passYears 8 [(0, vR 1 a0), (1, vI p1), (2, vI p2), (3, vI p3), (4, vI (w32 (p4 + 1)))] [] (putI (putI M1 ((a0 + 2) + 14 + 1 * (p4).toNat) 1 (w32 ((M1.1 ((a0 + 2) + 14 + 1 * (p4).toNat) 1) + p1))) ((a0 + 2) + 14 + 1 * (p4).toNat) 3 (xand ((putI M1 ((a0 + 2) + 14 + 1 * (p4).toNat) 1 (w32 ((M1.1 ((a0 + 2) + 14 + 1 * (p4).toNat) 1) + p1))).1 ((a0 + 2) + 14 + 1 * (p4).toNat) 3) (xxor p2 (-1))))) else (E2 d r_em_passYears 8 [(0, vR 1 a0), (1, vI p1), (2, vI p2), (3, vI p3), (4, vI (w32 (p4 + 1)))] [] M1)) else (bV (C2 d j_em_layToRest [vR 1 a0, vR 3 ((a0 + 2) + 14 + 1 * (p4).toNat)] M1) fun M3 => E2 d r_em_passYears 8 [(0, vR 1 a0), (1, vI p1), (2, vI p2), (3, vI (xor32 p3 (xshl 1 p4))), (4, vI (w32 (p4 + 1)))] [] M3)) else (if (M.1 ((a0 + 2) + 14 + 1 * (p4).toNat) 4) = 0 then (E2 d r_em_passYears 8 [(0, vR 1 a0), (1, vI p1), (2, vI p2), (3, vI p3), (4, vI (w32 (p4 + 1)))] [] (putI (putI M ((a0 + 2) + 14 + 1 * (p4).toNat) 1 (w32 ((M.1 ((a0 + 2) + 14 + 1 * (p4).toNat) 1) + p1))) ((a0 + 2) + 14 + 1 * (p4).toNat) 3 (xand ((putI M ((a0 + 2) + 14 + 1 * (p4).toNat) 1 (w32 ((M.1 ((a0 + 2) + 14 + 1 * (p4).toNat) 1) + p1))).1 ((a0 + 2) + 14 + 1 * (p4).toNat) 3) (xxor p2 (-1))))) else (E2 d r_em_passYears 8 [(0, vR 1 a0), (1, vI p1), (2, vI p2), (3, vI p3), (4, vI (w32 (p4 + 1)))] [] M))) else none) else (bI (C2 d j_em_storeAfter [vR 1 a0, vI p1] M) fun x5 M4 => E2 d r_em_passYears 61 [(0, vR 1 a0), (1, vI p1), (3, vI p3), (4, vI 0)] [] (putI M4 a0 4 x5))) :=
  (DD_ex GR2 MT 38 d r_em_passYears (r_em_passYears.drop 8) [(0, vR 1 a0), (1, vI p1), (2, vI p2), (3, vI p3), (4, vI p4)] [] M).trans rfl
set_option maxRecDepth 100000 in
set_option maxHeartbeats 4000000 in
theorem q_em_passYears_61 (a0 : Nat) (p1 : Int) (p3 : Int) (p4 : Int) (d : Nat) (M : Mem) : E2 d r_em_passYears 61 [(0, vR 1 a0), (1, vI p1), (3, vI p3), (4, vI p4)] [] M = (if p4 < (M.1 a0 7) then (if 0 ≤ p4 ∧ p4 < 6 then (if 0 ≤ p4 ∧ p4 < 6 then (bI (C2 d j_math_min_I [vI 99, vI (w32 ((M.1 ((a0 + 1) + 9 + 1 * (p4).toNat) 3) + p1))] M) fun x2 M1 => E2 d r_em_passYears 61 [(0, vR 1 a0), (1, vI p1), (3, vI p3), (4, vI (w32 (p4 + 1)))] [] (putI M1 ((a0 + 1) + 9 + 1 * (p4).toNat) 3 x2)) else none) else none) else (some (some (vI p3), (putI M a0 3 (w32 ((M.1 a0 3) + p1)))))) :=
  (DD_ex GR2 MT 22 d r_em_passYears (r_em_passYears.drop 61) [(0, vR 1 a0), (1, vI p1), (3, vI p3), (4, vI p4)] [] M).trans rfl
set_option maxRecDepth 100000 in
set_option maxHeartbeats 4000000 in
theorem q_em_layToRest (p0 : Nat) (p1 : Nat) (d : Nat) (M : Mem) : C2 d j_em_layToRest [vR 1 p0, vR 3 p1] M = (bI (C2 d j_em_yearsLeft [vR 1 p0, vR 3 p1] M) fun x2 M1 => bI (C2 d j_em_fadedWithin [vR 1 p0, vI (w32 (x2 - 1))] M1) fun x4 M3 => some (none, (putI (putI (putI M3 p1 3 (xand (M1.1 p1 3) (xxor x4 (-1)))) p1 1 (w32 (((putI M3 p1 3 (xand (M1.1 p1 3) (xxor x4 (-1)))).1 p1 1) + x2))) p1 4 1))) :=
  (DD_ex GR2 MT 27 d r_em_layToRest r_em_layToRest [(0, vR 1 p0), (1, vR 3 p1)] [] M).trans rfl
set_option maxRecDepth 100000 in
set_option maxHeartbeats 4000000 in
theorem q_em_storeAfter (p0 : Nat) (p1 : Int) (d : Nat) (M : Mem) : C2 d j_em_storeAfter [vR 1 p0, vI p1] M = (E2 d r_em_storeAfter 4 [(0, vR 1 p0), (1, vI p1), (2, vI 0), (3, vI 0)] [] M) :=
  (DD_ex GR2 MT 6 d r_em_storeAfter r_em_storeAfter [(0, vR 1 p0), (1, vI p1)] [] M).trans rfl
set_option maxRecDepth 100000 in
set_option maxHeartbeats 4000000 in
theorem q_em_storeAfter_4 (a0 : Nat) (p1 : Int) (p2 : Int) (p3 : Int) (d : Nat) (M : Mem) : E2 d r_em_storeAfter 4 [(0, vR 1 a0), (1, vI p1), (2, vI p2), (3, vI p3)] [] M = (if p3 < (M.1 a0 9) then (if 0 ≤ p3 ∧ p3 < 4 then (if (M.1 a0 1) < (M.1 ((a0 + 3) + 21 + 1 * (p3).toNat) 1) then (E2 d r_em_storeAfter 4 [(0, vR 1 a0), (1, vI p1), (2, vI p2), (3, vI (w32 (p3 + 1)))] [] M) else (if 0 ≤ p3 ∧ p3 < 4 then (E2 d r_em_storeAfter 4 [(0, vR 1 a0), (1, vI p1), (2, vI (w32 (p2 + (M.1 ((a0 + 3) + 21 + 1 * (p3).toNat) 2)))), (3, vI (w32 (p3 + 1)))] [] M) else none)) else none) else (bI (C2 d j_math_min_I [vI 9999, vI (w32 ((M.1 a0 4) + (w32 (p1 * p2))))] M) fun x2 M1 => some (some (vI x2), M1))) :=
  (DD_ex GR2 MT 24 d r_em_storeAfter (r_em_storeAfter.drop 4) [(0, vR 1 a0), (1, vI p1), (2, vI p2), (3, vI p3)] [] M).trans rfl
set_option maxRecDepth 100000 in
set_option maxHeartbeats 4000000 in
theorem q_x_make (p1 : Int) (d : Nat) (M : Mem) : C2 d j_x_make [vR 11 0, vI p1] M = (bI (C2 d j_x_within [vL p1, vI 1, vI 999] M) fun x2 M1 => if x2 = 0 then (bI (C2 d j_x_refuse [vR 11 0, vI 5] M1) fun x4 M3 => some (some (vI x4), M3)) else (bI (C2 d j_em_brew [vR 1 11, vI p1] M1) fun x6 M5 => if x6 = 0 then (bI (C2 d j_x_refuse [vR 11 0, vI 9] M5) fun x8 M7 => some (some (vI x8), M7)) else (bI (C2 d j_x_answer [vR 11 0, vI (M5.1 11 2)] M5) fun x10 M9 => some (some (vI x10), M9)))) :=
  (DD_ex GR2 MT 19 d r_x_make r_x_make [(0, vR 11 0), (1, vI p1)] [] M).trans rfl
set_option maxRecDepth 100000 in
set_option maxHeartbeats 4000000 in
theorem q_em_brew (p0 : Nat) (p1 : Int) (d : Nat) (M : Mem) : C2 d j_em_brew [vR 1 p0, vI p1] M = (bI (C2 d j_em_isWholeAfter [vR 1 p0, vI 0] M) fun x2 M1 => if x2 = 0 then (some (some (vI 0), M1)) else (if (M1.1 p0 4) < p1 then (some (some (vI 0), M1)) else (bI (C2 d j_math_min_I [vI 9999, vI (w32 (((putI M1 p0 4 (w32 ((M1.1 p0 4) - p1))).1 p0 2) + p1))] (putI M1 p0 4 (w32 ((M1.1 p0 4) - p1)))) fun x4 M3 => bV (C2 d j_em_scourRust [vR 1 p0] (putI M3 p0 2 x4)) fun M5 => some (some (vI 1), M5)))) :=
  (DD_ex GR2 MT 27 d r_em_brew r_em_brew [(0, vR 1 p0), (1, vI p1)] [] M).trans rfl
set_option maxRecDepth 100000 in
set_option maxHeartbeats 4000000 in
theorem q_em_scourRust (p0 : Nat) (d : Nat) (M : Mem) : C2 d j_em_scourRust [vR 1 p0] M = (E2 d r_em_scourRust 2 [(0, vR 1 p0), (1, vI 0)] [] M) :=
  (DD_ex GR2 MT 4 d r_em_scourRust r_em_scourRust [(0, vR 1 p0)] [] M).trans rfl
set_option maxRecDepth 100000 in
set_option maxHeartbeats 4000000 in
theorem q_em_scourRust_2 (a0 : Nat) (p1 : Int) (d : Nat) (M : Mem) : E2 d r_em_scourRust 2 [(0, vR 1 a0), (1, vI p1)] [] M = (if p1 < (M.1 a0 7) then (if 0 ≤ p1 ∧ p1 < 6 then (E2 d r_em_scourRust 2 [(0, vR 1 a0), (1, vI (w32 (p1 + 1)))] [] (putI M ((a0 + 1) + 9 + 1 * (p1).toNat) 3 0)) else none) else (some (none, M))) :=
  (DD_ex GR2 MT 14 d r_em_scourRust (r_em_scourRust.drop 2) [(0, vR 1 a0), (1, vI p1)] [] M).trans rfl
set_option maxRecDepth 100000 in
set_option maxHeartbeats 4000000 in
theorem q_x_use (d : Nat) (M : Mem) : C2 d j_x_use [vR 11 0] M = (bI (C2 d j_em_spend [vR 1 11] M) fun x2 M1 => if x2 = 0 then (bI (C2 d j_x_refuse [vR 11 0, vI 9] M1) fun x4 M3 => some (some (vI x4), M3)) else (bI (C2 d j_x_answer [vR 11 0, vI (M1.1 11 2)] M1) fun x6 M5 => some (some (vI x6), M5))) :=
  (DD_ex GR2 MT 12 d r_x_use r_x_use [(0, vR 11 0)] [] M).trans rfl
set_option maxRecDepth 100000 in
set_option maxHeartbeats 4000000 in
theorem q_em_spend (p0 : Nat) (d : Nat) (M : Mem) : C2 d j_em_spend [vR 1 p0] M = (bI (C2 d j_em_isWholeAfter [vR 1 p0, vI 0] M) fun x2 M1 => if x2 = 0 then (some (some (vI 0), M1)) else (if (M1.1 p0 2) < 1 then (some (some (vI 0), M1)) else (bV (C2 d j_em_scourRust [vR 1 p0] (putI M1 p0 2 (w32 ((M1.1 p0 2) - 1)))) fun M3 => some (some (vI 1), M3)))) :=
  (DD_ex GR2 MT 19 d r_em_spend r_em_spend [(0, vR 1 p0)] [] M).trans rfl
set_option maxRecDepth 100000 in
set_option maxHeartbeats 4000000 in
theorem q_x_teach (p1 : Int) (p2 : Int) (p3 : Int) (d : Nat) (M : Mem) : C2 d j_x_teach [vR 11 0, vI p1, vI p2, vI p3] M = (bI (C2 d j_em_hasHand [vR 1 11, vI p1] M) fun x2 M1 => if x2 = 0 then (bI (C2 d j_x_refuse [vR 11 0, vI 2] M1) fun x4 M3 => some (some (vI x4), M3)) else (bI (C2 d j_em_hasHand [vR 1 11, vI p2] M1) fun x6 M5 => if x6 = 0 then (bI (C2 d j_x_refuse [vR 11 0, vI 2] M5) fun x8 M7 => some (some (vI x8), M7)) else (bI (C2 d j_em_hasPart [vR 1 11, vI p3] M5) fun x10 M9 => if x10 = 0 then (bI (C2 d j_x_refuse [vR 11 0, vI 2] M9) fun x12 M11 => some (some (vI x12), M11)) else (bI (C2 d j_em_instruct [vR 1 11, vI p1, vI p2, vI p3] M9) fun x14 M13 => if x14 = 0 then (bI (C2 d j_x_refuse [vR 11 0, vI 9] M13) fun x16 M15 => some (some (vI x16), M15)) else (if 0 ≤ p2 ∧ p2 < 8 then (bI (C2 d j_x_answer [vR 11 0, vI (M13.1 (13 + 14 + 1 * (p2).toNat) 3)] M13) fun x18 M17 => some (some (vI x18), M17)) else none))))) :=
  (DD_ex GR2 MT 32 d r_x_teach r_x_teach [(0, vR 11 0), (1, vI p1), (2, vI p2), (3, vI p3)] [] M).trans rfl
set_option maxRecDepth 100000 in
set_option maxHeartbeats 4000000 in
theorem q_em_instruct (p0 : Nat) (p1 : Int) (p2 : Int) (p3 : Int) (d : Nat) (M : Mem) : C2 d j_em_instruct [vR 1 p0, vI p1, vI p2, vI p3] M = (if 0 ≤ p1 ∧ p1 < 8 then (if 0 ≤ p2 ∧ p2 < 8 then (if p1 = p2 then (bI (C2 d j_em_isWritten [vR 1 p0, vI p3] M) fun x2 M1 => if x2 = 0 then (some (some (vI 0), M1)) else (if (M1.1 ((p0 + 2) + 14 + 1 * (p2).toNat) 4) = 0 then (if (xand (xshr (M1.1 ((p0 + 2) + 14 + 1 * (p2).toNat) 3) p3) 1) = 1 then (some (some (vI 0), M1)) else (some (some (vI 1), (putI M1 ((p0 + 2) + 14 + 1 * (p2).toNat) 3 (xor32 (M1.1 ((p0 + 2) + 14 + 1 * (p2).toNat) 3) (xshl 1 p3)))))) else (some (some (vI 0), M1)))) else (if (M.1 ((p0 + 2) + 14 + 1 * (p1).toNat) 4) = 0 then (if (xand (xshr (M.1 ((p0 + 2) + 14 + 1 * (p1).toNat) 3) p3) 1) = 1 then (if (M.1 ((p0 + 2) + 14 + 1 * (p2).toNat) 4) = 0 then (if (xand (xshr (M.1 ((p0 + 2) + 14 + 1 * (p2).toNat) 3) p3) 1) = 1 then (some (some (vI 0), M)) else (some (some (vI 1), (putI M ((p0 + 2) + 14 + 1 * (p2).toNat) 3 (xor32 (M.1 ((p0 + 2) + 14 + 1 * (p2).toNat) 3) (xshl 1 p3)))))) else (some (some (vI 0), M))) else (some (some (vI 0), M))) else (some (some (vI 0), M)))) else none) else none) :=
  (DD_ex GR2 MT 51 d r_em_instruct r_em_instruct [(0, vR 1 p0), (1, vI p1), (2, vI p2), (3, vI p3)] [] M).trans rfl
set_option maxRecDepth 100000 in
set_option maxHeartbeats 4000000 in
theorem q_x_note (p1 : Int) (p2 : Int) (d : Nat) (M : Mem) : C2 d j_x_note [vR 11 0, vI p1, vI p2] M = (bI (C2 d j_em_hasPart [vR 1 11, vI p1] M) fun x2 M1 => if x2 = 0 then (bI (C2 d j_x_deny [vR 11 0, vI 2] M1) fun x4 M3 => if x4 = 0 ∨ x4 = 1 then some (some (vI x4), M3) else none) else (if p2 = 0 then (bI (C2 d j_em_burnDown [vR 1 11, vI p1] M1) fun x6 M5 => if x6 = 0 then (bI (C2 d j_x_deny [vR 11 0, vI 9] M5) fun x8 M7 => if x8 = 0 ∨ x8 = 1 then some (some (vI x8), M7) else none) else (bI (C2 d j_x_grant [vR 11 0] M5) fun x10 M9 => if x10 = 0 ∨ x10 = 1 then some (some (vI x10), M9) else none)) else (bI (C2 d j_em_writeDown [vR 1 11, vI p1] M1) fun x12 M11 => if x12 = 0 then (bI (C2 d j_x_deny [vR 11 0, vI 9] M11) fun x14 M13 => if x14 = 0 ∨ x14 = 1 then some (some (vI x14), M13) else none) else (bI (C2 d j_x_grant [vR 11 0] M11) fun x16 M15 => if x16 = 0 ∨ x16 = 1 then some (some (vI x16), M15) else none)))) :=
  (DD_ex GR2 MT 20 d r_x_note r_x_note [(0, vR 11 0), (1, vI p1), (2, vI p2)] [] M).trans rfl
set_option maxRecDepth 100000 in
set_option maxHeartbeats 4000000 in
theorem q_em_writeDown (p0 : Nat) (p1 : Int) (d : Nat) (M : Mem) : C2 d j_em_writeDown [vR 1 p0, vI p1] M = (bI (C2 d j_em_isWritten [vR 1 p0, vI p1] M) fun x2 M1 => if x2 = 0 then (bI (C2 d j_em_livingThatKnow [vR 1 p0, vI p1] M1) fun x4 M3 => if x4 = 0 then (some (some (vI 0), M3)) else (some (some (vI 1), (putI M3 p0 6 (xor32 (M3.1 p0 6) (xshl 1 p1)))))) else (some (some (vI 0), M1))) :=
  (DD_ex GR2 MT 19 d r_em_writeDown r_em_writeDown [(0, vR 1 p0), (1, vI p1)] [] M).trans rfl
set_option maxRecDepth 100000 in
set_option maxHeartbeats 4000000 in
theorem q_em_burnDown (p0 : Nat) (p1 : Int) (d : Nat) (M : Mem) : C2 d j_em_burnDown [vR 1 p0, vI p1] M = (bI (C2 d j_em_isWritten [vR 1 p0, vI p1] M) fun x2 M1 => if x2 = 0 then (some (some (vI 0), M1)) else (some (some (vI 1), (putI M1 p0 6 (xand (M1.1 p0 6) (xxor (xshl 1 p1) (-1))))))) :=
  (DD_ex GR2 MT 17 d r_em_burnDown r_em_burnDown [(0, vR 1 p0), (1, vI p1)] [] M).trans rfl
set_option maxRecDepth 100000 in
set_option maxHeartbeats 4000000 in
theorem q_x_capture (p1 : Int) (d : Nat) (M : Mem) : C2 d j_x_capture [vR 11 0, vI p1] M = (bI (C2 d j_em_hasHand [vR 1 11, vI p1] M) fun x2 M1 => if x2 = 0 then (bI (C2 d j_x_refuse [vR 11 0, vI 2] M1) fun x4 M3 => some (some (vI x4), M3)) else (bI (C2 d j_em_seize [vR 1 11, vI p1] M1) fun x6 M5 => if x6 = 0 then (bI (C2 d j_x_refuse [vR 11 0, vI 9] M5) fun x8 M7 => some (some (vI x8), M7)) else (bI (C2 d j_x_answer [vR 11 0, vI (M5.1 11 5)] M5) fun x10 M9 => some (some (vI x10), M9)))) :=
  (DD_ex GR2 MT 18 d r_x_capture r_x_capture [(0, vR 11 0), (1, vI p1)] [] M).trans rfl
set_option maxRecDepth 100000 in
set_option maxHeartbeats 4000000 in
theorem q_em_seize (p0 : Nat) (p1 : Int) (d : Nat) (M : Mem) : C2 d j_em_seize [vR 1 p0, vI p1] M = (if 0 ≤ p1 ∧ p1 < 8 then (if (M.1 ((p0 + 2) + 14 + 1 * (p1).toNat) 4) = 0 then (if 0 ≤ p1 ∧ p1 < 8 then (if 0 ≤ p1 ∧ p1 < 8 then (some (some (vI 1), (putI (putI M ((p0 + 2) + 14 + 1 * (p1).toNat) 4 2) p0 5 (xor32 ((putI M ((p0 + 2) + 14 + 1 * (p1).toNat) 4 2).1 p0 5) ((putI M ((p0 + 2) + 14 + 1 * (p1).toNat) 4 2).1 ((p0 + 2) + 14 + 1 * (p1).toNat) 3))))) else none) else none) else (some (some (vI 0), M))) else none) :=
  (DD_ex GR2 MT 25 d r_em_seize r_em_seize [(0, vR 1 p0), (1, vI p1)] [] M).trans rfl
set_option maxRecDepth 100000 in
set_option maxHeartbeats 4000000 in
theorem q_x_hire (p1 : Int) (p2 : Int) (d : Nat) (M : Mem) : C2 d j_x_hire [vR 11 0, vI p1, vI p2] M = (bI (C2 d j_x_within [vL p1, vI 0, vI 99] M) fun x2 M1 => if x2 = 0 then (bI (C2 d j_x_refuse [vR 11 0, vI 5] M1) fun x4 M3 => some (some (vI x4), M3)) else (bI (C2 d j_x_within [vL p2, vI 0, vI 99] M1) fun x6 M5 => if x6 = 0 then (bI (C2 d j_x_refuse [vR 11 0, vI 5] M5) fun x8 M7 => some (some (vI x8), M7)) else (if (M5.1 11 8) < 8 then (bR 3 (C2 d j_em_addHand [vR 1 11, vL 0] M5) fun a10 M9 => bI (C2 d j_x_answer [vR 11 0, vI (w32 (((putI (putI M9 a10 1 p1) a10 2 p2).1 11 8) - 1))] (putI (putI M9 a10 1 p1) a10 2 p2)) fun x12 M11 => some (some (vI x12), M11)) else (bI (C2 d j_x_refuse [vR 11 0, vI 7] M5) fun x14 M13 => some (some (vI x14), M13))))) :=
  (DD_ex GR2 MT 37 d r_x_hire r_x_hire [(0, vR 11 0), (1, vI p1), (2, vI p2)] [] M).trans rfl
set_option maxRecDepth 100000 in
set_option maxHeartbeats 4000000 in
theorem q_x_rule (p1 : Int) (p2 : Int) (d : Nat) (M : Mem) : C2 d j_x_rule [vR 11 0, vI p1, vI p2] M = (if p1 = 0 then (bI (C2 d j_x_within [vL p2, vI 10, vI 99] M) fun x2 M1 => if x2 = 0 then (if p1 = 1 then (bI (C2 d j_x_within [vL p2, vI 0, vI 999] M1) fun x4 M3 => if x4 = 0 then (bI (C2 d j_x_deny [vR 11 0, vI 5] M3) fun x6 M5 => if x6 = 0 ∨ x6 = 1 then some (some (vI x6), M5) else none) else (bI (C2 d j_x_grant [vR 11 0] (putI M3 11 1 p2)) fun x8 M7 => if x8 = 0 ∨ x8 = 1 then some (some (vI x8), M7) else none)) else (bI (C2 d j_x_deny [vR 11 0, vI 5] M1) fun x10 M9 => if x10 = 0 ∨ x10 = 1 then some (some (vI x10), M9) else none)) else (bI (C2 d j_x_grant [vR 11 0] (putI M1 11 0 p2)) fun x12 M11 => if x12 = 0 ∨ x12 = 1 then some (some (vI x12), M11) else none)) else (if p1 = 1 then (bI (C2 d j_x_within [vL p2, vI 0, vI 999] M) fun x14 M13 => if x14 = 0 then (bI (C2 d j_x_deny [vR 11 0, vI 5] M13) fun x16 M15 => if x16 = 0 ∨ x16 = 1 then some (some (vI x16), M15) else none) else (bI (C2 d j_x_grant [vR 11 0] (putI M13 11 1 p2)) fun x18 M17 => if x18 = 0 ∨ x18 = 1 then some (some (vI x18), M17) else none)) else (bI (C2 d j_x_deny [vR 11 0, vI 5] M) fun x20 M19 => if x20 = 0 ∨ x20 = 1 then some (some (vI x20), M19) else none))) :=
  (DD_ex GR2 MT 25 d r_x_rule r_x_rule [(0, vR 11 0), (1, vI p1), (2, vI p2)] [] M).trans rfl
set_option maxRecDepth 100000 in
set_option maxHeartbeats 4000000 in
theorem q_x_supply (p1 : Int) (p2 : Int) (d : Nat) (M : Mem) : C2 d j_x_supply [vR 11 0, vI p1, vI p2] M = (bI (C2 d j_x_within [vL p1, vI 1, vI 9999] M) fun x2 M1 => if x2 = 0 then (bI (C2 d j_x_refuse [vR 11 0, vI 5] M1) fun x4 M3 => some (some (vI x4), M3)) else (if p2 = 0 then (bI (C2 d j_math_min_I [vI 9999, vI (w32 ((M1.1 11 2) + p1))] M1) fun x6 M5 => bI (C2 d j_x_answer [vR 11 0, vI ((putI M5 11 2 x6).1 11 2)] (putI M5 11 2 x6)) fun x8 M7 => some (some (vI x8), M7)) else (bI (C2 d j_math_min_I [vI 9999, vI (w32 ((M1.1 11 4) + p1))] M1) fun x10 M9 => bI (C2 d j_x_answer [vR 11 0, vI ((putI M9 11 4 x10).1 11 4)] (putI M9 11 4 x10)) fun x12 M11 => some (some (vI x12), M11)))) :=
  (DD_ex GR2 MT 25 d r_x_supply r_x_supply [(0, vR 11 0), (1, vI p1), (2, vI p2)] [] M).trans rfl
set_option maxRecDepth 100000 in
set_option maxHeartbeats 4000000 in
theorem q_x_leak (p1 : Int) (p2 : Int) (d : Nat) (M : Mem) : C2 d j_x_leak [vR 11 0, vI p1, vI p2] M = (bI (C2 d j_em_hasPart [vR 1 11, vI p1] M) fun x2 M1 => if x2 = 0 then (bI (C2 d j_x_deny [vR 11 0, vI 2] M1) fun x4 M3 => if x4 = 0 ∨ x4 = 1 then some (some (vI x4), M3) else none) else (if (xand (xshr (M1.1 11 5) p1) 1) = 1 then (if p2 = 1 then (bI (C2 d j_x_deny [vR 11 0, vI 9] M1) fun x6 M5 => if x6 = 0 ∨ x6 = 1 then some (some (vI x6), M5) else none) else (bI (C2 d j_x_grant [vR 11 0] (putI M1 11 5 (xxor (M1.1 11 5) (xshl 1 p1)))) fun x8 M7 => if x8 = 0 ∨ x8 = 1 then some (some (vI x8), M7) else none)) else (if p2 = 0 then (bI (C2 d j_x_deny [vR 11 0, vI 9] M1) fun x10 M9 => if x10 = 0 ∨ x10 = 1 then some (some (vI x10), M9) else none) else (bI (C2 d j_x_grant [vR 11 0] (putI M1 11 5 (xxor (M1.1 11 5) (xshl 1 p1)))) fun x12 M11 => if x12 = 0 ∨ x12 = 1 then some (some (vI x12), M11) else none)))) :=
  (DD_ex GR2 MT 31 d r_x_leak r_x_leak [(0, vR 11 0), (1, vI p1), (2, vI p2)] [] M).trans rfl
set_option maxRecDepth 100000 in
set_option maxHeartbeats 4000000 in
theorem q_x_knowers (p1 : Int) (d : Nat) (M : Mem) : C2 d j_x_knowers [vR 11 0, vI p1] M = (bI (C2 d j_em_hasPart [vR 1 11, vI p1] M) fun x2 M1 => if x2 = 0 then (bI (C2 d j_x_refuse [vR 11 0, vI 2] M1) fun x4 M3 => some (some (vI x4), M3)) else (bI (C2 d j_em_livingThatKnow [vR 1 11, vI p1] M1) fun x6 M5 => bI (C2 d j_x_answer [vR 11 0, vI x6] M5) fun x8 M7 => some (some (vI x8), M7))) :=
  (DD_ex GR2 MT 14 d r_x_knowers r_x_knowers [(0, vR 11 0), (1, vI p1)] [] M).trans rfl
set_option maxRecDepth 100000 in
set_option maxHeartbeats 4000000 in
theorem q_x_knownBy (p1 : Int) (d : Nat) (M : Mem) : C2 d j_x_knownBy [vR 11 0, vI p1] M = (bI (C2 d j_em_isHandSet [vR 1 11, vL p1] M) fun x2 M1 => if x2 = 0 then (bI (C2 d j_x_refuse [vR 11 0, vI 5] M1) fun x4 M3 => some (some (vI x4), M3)) else (bI (C2 d j_em_knowledgeOf [vR 1 11, vI p1] M1) fun x6 M5 => bI (C2 d j_x_answer [vR 11 0, vI x6] M5) fun x8 M7 => some (some (vI x8), M7))) :=
  (DD_ex GR2 MT 15 d r_x_knownBy r_x_knownBy [(0, vR 11 0), (1, vI p1)] [] M).trans rfl
set_option maxRecDepth 100000 in
set_option maxHeartbeats 4000000 in
theorem q_em_isHandSet (p0 : Nat) (p1 : Int) (d : Nat) (M : Mem) : C2 d j_em_isHandSet [vR 1 p0, vL p1] M = (bI (C2 d j_em_allHands [vR 1 p0] M) fun x2 M1 => bI (C2 d j_x_within [vL p1, vI 0, vI x2] M1) fun x4 M3 => if x4 = 0 ∨ x4 = 1 then some (some (vI x4), M3) else none) :=
  (DD_ex GR2 MT 7 d r_em_isHandSet r_em_isHandSet [(0, vR 1 p0), (1, vL p1)] [] M).trans rfl
set_option maxRecDepth 100000 in
set_option maxHeartbeats 4000000 in
theorem q_em_allHands (p0 : Nat) (d : Nat) (M : Mem) : C2 d j_em_allHands [vR 1 p0] M = (some (some (vI (w32 ((xshl 1 (M.1 p0 8)) - 1))), M)) :=
  (DD_ex GR2 MT 8 d r_em_allHands r_em_allHands [(0, vR 1 p0)] [] M).trans rfl
set_option maxRecDepth 100000 in
set_option maxHeartbeats 4000000 in
theorem q_em_knowledgeOf (p0 : Nat) (p1 : Int) (d : Nat) (M : Mem) : C2 d j_em_knowledgeOf [vR 1 p0, vI p1] M = (E2 d r_em_knowledgeOf 4 [(0, vR 1 p0), (1, vI p1), (2, vI 0), (3, vI 0)] [] M) :=
  (DD_ex GR2 MT 6 d r_em_knowledgeOf r_em_knowledgeOf [(0, vR 1 p0), (1, vI p1)] [] M).trans rfl
set_option maxRecDepth 100000 in
set_option maxHeartbeats 4000000 in
theorem q_em_knowledgeOf_4 (a0 : Nat) (p1 : Int) (p2 : Int) (p3 : Int) (d : Nat) (M : Mem) : E2 d r_em_knowledgeOf 4 [(0, vR 1 a0), (1, vI p1), (2, vI p2), (3, vI p3)] [] M = (if p3 < (M.1 a0 8) then (if (xand (xshr p1 p3) 1) = 1 then (if 0 ≤ p3 ∧ p3 < 8 then (E2 d r_em_knowledgeOf 4 [(0, vR 1 a0), (1, vI p1), (2, vI (xor32 p2 (M.1 ((a0 + 2) + 14 + 1 * (p3).toNat) 3))), (3, vI (w32 (p3 + 1)))] [] M) else none) else (E2 d r_em_knowledgeOf 4 [(0, vR 1 a0), (1, vI p1), (2, vI p2), (3, vI (w32 (p3 + 1)))] [] M)) else (some (some (vI p2), M))) :=
  (DD_ex GR2 MT 23 d r_em_knowledgeOf (r_em_knowledgeOf.drop 4) [(0, vR 1 a0), (1, vI p1), (2, vI p2), (3, vI p3)] [] M).trans rfl
set_option maxRecDepth 100000 in
set_option maxHeartbeats 4000000 in
theorem q_x_sells (p1 : Int) (d : Nat) (M : Mem) : C2 d j_x_sells [vR 11 0, vI p1] M = (bI (C2 d j_em_isHandSet [vR 1 11, vL p1] M) fun x2 M1 => if x2 = 0 then (bI (C2 d j_x_refuse [vR 11 0, vI 5] M1) fun x4 M3 => some (some (vI x4), M3)) else (bI (C2 d j_em_living [vR 1 11] M1) fun x6 M5 => if (xand p1 (xxor x6 (-1))) = 0 then (if (M5.1 11 7) = 0 then (bI (C2 d j_x_refuse [vR 11 0, vI 8] M5) fun x8 M7 => some (some (vI x8), M7)) else (bI (C2 d j_em_canSell [vR 1 11, vI p1] M5) fun x10 M9 => bI (C2 d j_x_answerIf [vR 11 0, vI x10] M9) fun x12 M11 => some (some (vI x12), M11))) else (bI (C2 d j_x_refuse [vR 11 0, vI 5] M5) fun x14 M13 => some (some (vI x14), M13)))) :=
  (DD_ex GR2 MT 26 d r_x_sells r_x_sells [(0, vR 11 0), (1, vI p1)] [] M).trans rfl
set_option maxRecDepth 100000 in
set_option maxHeartbeats 4000000 in
theorem q_em_canSell (p0 : Nat) (p1 : Int) (d : Nat) (M : Mem) : C2 d j_em_canSell [vR 1 p0, vI p1] M = (if 0 < (M.1 p0 7) then (bI (C2 d j_em_knowledgeOf [vR 1 p0, vI p1] M) fun x2 M1 => bI (C2 d j_em_allParts [vR 1 p0] M1) fun x4 M3 => if x2 = x4 then (some (some (vI 1), M3)) else (some (some (vI 0), M3))) else (some (some (vI 0), M))) :=
  (DD_ex GR2 MT 13 d r_em_canSell r_em_canSell [(0, vR 1 p0), (1, vI p1)] [] M).trans rfl
set_option maxRecDepth 100000 in
set_option maxHeartbeats 4000000 in
theorem q_x_loses (p1 : Int) (d : Nat) (M : Mem) : C2 d j_x_loses [vR 11 0, vI p1] M = (bI (C2 d j_em_isHandSet [vR 1 11, vL p1] M) fun x2 M1 => if x2 = 0 then (bI (C2 d j_x_refuse [vR 11 0, vI 5] M1) fun x4 M3 => some (some (vI x4), M3)) else (bI (C2 d j_em_lostBy [vR 1 11, vI p1] M1) fun x6 M5 => bI (C2 d j_x_answer [vR 11 0, vI x6] M5) fun x8 M7 => some (some (vI x8), M7))) :=
  (DD_ex GR2 MT 15 d r_x_loses r_x_loses [(0, vR 11 0), (1, vI p1)] [] M).trans rfl
set_option maxRecDepth 100000 in
set_option maxHeartbeats 4000000 in
theorem q_em_lostBy (p0 : Nat) (p1 : Int) (d : Nat) (M : Mem) : C2 d j_em_lostBy [vR 1 p0, vI p1] M = (bI (C2 d j_em_knownAfter [vR 1 p0, vI 0] M) fun x2 M1 => bI (C2 d j_em_living [vR 1 p0] M1) fun x4 M3 => bI (C2 d j_em_knowledgeOf [vR 1 p0, vI (xand x4 (xxor p1 (-1)))] M3) fun x6 M5 => some (some (vI (xand x2 (xxor (xor32 (M1.1 p0 6) x6) (-1)))), M5)) :=
  (DD_ex GR2 MT 19 d r_em_lostBy r_em_lostBy [(0, vR 1 p0), (1, vI p1)] [] M).trans rfl
set_option maxRecDepth 100000 in
set_option maxHeartbeats 4000000 in
theorem q_x_fewest (d : Nat) (M : Mem) : C2 d j_x_fewest [vR 11 0] M = (bI (C2 d j_em_fewestSellers [vR 1 11] M) fun x2 M1 => if x2 = (-1) then (bI (C2 d j_x_refuse [vR 11 0, vI 8] M1) fun x4 M3 => some (some (vI x4), M3)) else (bI (C2 d j_int_bitCount [vI x2] M1) fun x6 M5 => bI (C2 d j_x_answer [vR 11 0, vI x6] M5) fun x8 M7 => some (some (vI x8), M7))) :=
  (DD_ex GR2 MT 13 d r_x_fewest r_x_fewest [(0, vR 11 0)] [] M).trans rfl
set_option maxRecDepth 100000 in
set_option maxHeartbeats 4000000 in
theorem q_em_fewestSellers (p0 : Nat) (d : Nat) (M : Mem) : C2 d j_em_fewestSellers [vR 1 p0] M = (bI (C2 d j_em_living [vR 1 p0] M) fun x2 M1 => E2 d r_em_fewestSellers 7 [(0, vR 1 p0), (1, vI x2), (2, vI (-1)), (3, vI 1)] [] M1) :=
  (DD_ex GR2 MT 9 d r_em_fewestSellers r_em_fewestSellers [(0, vR 1 p0)] [] M).trans rfl
set_option maxRecDepth 100000 in
set_option maxHeartbeats 4000000 in
theorem q_em_fewestSellers_7 (a0 : Nat) (p1 : Int) (p2 : Int) (p3 : Int) (d : Nat) (M : Mem) : E2 d r_em_fewestSellers 7 [(0, vR 1 a0), (1, vI p1), (2, vI p2), (3, vI p3)] [] M = (if p1 < p3 then (some (some (vI p2), M)) else (if p2 = (-1) then (if (xand p3 (xxor p1 (-1))) = 0 then (bI (C2 d j_em_canSell [vR 1 a0, vI p3] M) fun x2 M1 => if x2 = 0 then (E2 d r_em_fewestSellers 7 [(0, vR 1 a0), (1, vI p1), (2, vI p2), (3, vI (w32 (p3 + 1)))] [] M1) else (E2 d r_em_fewestSellers 7 [(0, vR 1 a0), (1, vI p1), (2, vI p3), (3, vI (w32 (p3 + 1)))] [] M1)) else (E2 d r_em_fewestSellers 7 [(0, vR 1 a0), (1, vI p1), (2, vI p2), (3, vI (w32 (p3 + 1)))] [] M)) else (bI (C2 d j_int_bitCount [vI p3] M) fun x4 M3 => bI (C2 d j_int_bitCount [vI p2] M3) fun x6 M5 => if x4 < x6 then (if (xand p3 (xxor p1 (-1))) = 0 then (bI (C2 d j_em_canSell [vR 1 a0, vI p3] M5) fun x8 M7 => if x8 = 0 then (E2 d r_em_fewestSellers 7 [(0, vR 1 a0), (1, vI p1), (2, vI p2), (3, vI (w32 (p3 + 1)))] [] M7) else (E2 d r_em_fewestSellers 7 [(0, vR 1 a0), (1, vI p1), (2, vI p3), (3, vI (w32 (p3 + 1)))] [] M7)) else (E2 d r_em_fewestSellers 7 [(0, vR 1 a0), (1, vI p1), (2, vI p2), (3, vI (w32 (p3 + 1)))] [] M5)) else (if (xand p3 (xxor p1 (-1))) = 0 then (E2 d r_em_fewestSellers 7 [(0, vR 1 a0), (1, vI p1), (2, vI p2), (3, vI (w32 (p3 + 1)))] [] M5) else (E2 d r_em_fewestSellers 7 [(0, vR 1 a0), (1, vI p1), (2, vI p2), (3, vI (w32 (p3 + 1)))] [] M5))))) :=
  (DD_ex GR2 MT 32 d r_em_fewestSellers (r_em_fewestSellers.drop 7) [(0, vR 1 a0), (1, vI p1), (2, vI p2), (3, vI p3)] [] M).trans rfl
set_option maxRecDepth 100000 in
set_option maxHeartbeats 4000000 in
theorem q_int_bitCount (p0 : Int) (d : Nat) (M : Mem) : C2 d j_int_bitCount [vI p0] M = (some (some (vI (xand (w32 ((w32 ((xand (w32 ((w32 ((xand (w32 (p0 - (xand (xushr p0 1) 1431655765))) 858993459) + (xand (xushr (w32 (p0 - (xand (xushr p0 1) 1431655765))) 2) 858993459))) + (xushr (w32 ((xand (w32 (p0 - (xand (xushr p0 1) 1431655765))) 858993459) + (xand (xushr (w32 (p0 - (xand (xushr p0 1) 1431655765))) 2) 858993459))) 4))) 252645135) + (xushr (xand (w32 ((w32 ((xand (w32 (p0 - (xand (xushr p0 1) 1431655765))) 858993459) + (xand (xushr (w32 (p0 - (xand (xushr p0 1) 1431655765))) 2) 858993459))) + (xushr (w32 ((xand (w32 (p0 - (xand (xushr p0 1) 1431655765))) 858993459) + (xand (xushr (w32 (p0 - (xand (xushr p0 1) 1431655765))) 2) 858993459))) 4))) 252645135) 8))) + (xushr (w32 ((xand (w32 ((w32 ((xand (w32 (p0 - (xand (xushr p0 1) 1431655765))) 858993459) + (xand (xushr (w32 (p0 - (xand (xushr p0 1) 1431655765))) 2) 858993459))) + (xushr (w32 ((xand (w32 (p0 - (xand (xushr p0 1) 1431655765))) 858993459) + (xand (xushr (w32 (p0 - (xand (xushr p0 1) 1431655765))) 2) 858993459))) 4))) 252645135) + (xushr (xand (w32 ((w32 ((xand (w32 (p0 - (xand (xushr p0 1) 1431655765))) 858993459) + (xand (xushr (w32 (p0 - (xand (xushr p0 1) 1431655765))) 2) 858993459))) + (xushr (w32 ((xand (w32 (p0 - (xand (xushr p0 1) 1431655765))) 858993459) + (xand (xushr (w32 (p0 - (xand (xushr p0 1) 1431655765))) 2) 858993459))) 4))) 252645135) 8))) 16))) 63)), M)) :=
  (DD_ex GR2 MT 43 d r_int_bitCount r_int_bitCount [(0, vI p0)] [] M).trans rfl
set_option maxRecDepth 100000 in
set_option maxHeartbeats 4000000 in
theorem q_x_fewestSet (d : Nat) (M : Mem) : C2 d j_x_fewestSet [vR 11 0] M = (bI (C2 d j_em_fewestSellers [vR 1 11] M) fun x2 M1 => bI (C2 d j_x_answerOrNothing [vR 11 0, vI x2] M1) fun x4 M3 => some (some (vI x4), M3)) :=
  (DD_ex GR2 MT 7 d r_x_fewestSet r_x_fewestSet [(0, vR 11 0)] [] M).trans rfl
set_option maxRecDepth 100000 in
set_option maxHeartbeats 4000000 in
theorem q_x_answerOrNothing (p1 : Int) (d : Nat) (M : Mem) : C2 d j_x_answerOrNothing [vR 11 0, vI p1] M = (if p1 = (-1) then (bI (C2 d j_x_refuse [vR 11 0, vI 8] M) fun x2 M1 => some (some (vI x2), M1)) else (bI (C2 d j_x_answer [vR 11 0, vI p1] M) fun x4 M3 => some (some (vI x4), M3))) :=
  (DD_ex GR2 MT 9 d r_x_answerOrNothing r_x_answerOrNothing [(0, vR 11 0), (1, vI p1)] [] M).trans rfl
set_option maxRecDepth 100000 in
set_option maxHeartbeats 4000000 in
theorem q_x_bribe (d : Nat) (M : Mem) : C2 d j_x_bribe [vR 11 0] M = (bI (C2 d j_em_cheapestSellers [vR 1 11] M) fun x2 M1 => if x2 = (-1) then (bI (C2 d j_x_refuse [vR 11 0, vI 8] M1) fun x4 M3 => some (some (vI x4), M3)) else (bI (C2 d j_em_priceOf [vR 1 11, vI x2] M1) fun x6 M5 => bI (C2 d j_x_answer [vR 11 0, vI x6] M5) fun x8 M7 => some (some (vI x8), M7))) :=
  (DD_ex GR2 MT 15 d r_x_bribe r_x_bribe [(0, vR 11 0)] [] M).trans rfl
set_option maxRecDepth 100000 in
set_option maxHeartbeats 4000000 in
theorem q_em_cheapestSellers (p0 : Nat) (d : Nat) (M : Mem) : C2 d j_em_cheapestSellers [vR 1 p0] M = (bI (C2 d j_em_living [vR 1 p0] M) fun x2 M1 => E2 d r_em_cheapestSellers 7 [(0, vR 1 p0), (1, vI x2), (2, vI (-1)), (3, vI 1)] [] M1) :=
  (DD_ex GR2 MT 9 d r_em_cheapestSellers r_em_cheapestSellers [(0, vR 1 p0)] [] M).trans rfl
set_option maxRecDepth 100000 in
set_option maxHeartbeats 4000000 in
theorem q_em_cheapestSellers_7 (a0 : Nat) (p1 : Int) (p2 : Int) (p3 : Int) (d : Nat) (M : Mem) : E2 d r_em_cheapestSellers 7 [(0, vR 1 a0), (1, vI p1), (2, vI p2), (3, vI p3)] [] M = (if p1 < p3 then (some (some (vI p2), M)) else (if (xand p3 (xxor p1 (-1))) = 0 then (bI (C2 d j_em_canSell [vR 1 a0, vI p3] M) fun x2 M1 => if x2 = 0 then (E2 d r_em_cheapestSellers 7 [(0, vR 1 a0), (1, vI p1), (2, vI p2), (3, vI (w32 (p3 + 1)))] [] M1) else (if p2 = (-1) then (E2 d r_em_cheapestSellers 7 [(0, vR 1 a0), (1, vI p1), (2, vI p3), (3, vI (w32 (p3 + 1)))] [] M1) else (bI (C2 d j_em_isCheaper [vR 1 a0, vI p3, vI p2] M1) fun x4 M3 => if x4 = 0 then (E2 d r_em_cheapestSellers 7 [(0, vR 1 a0), (1, vI p1), (2, vI p2), (3, vI (w32 (p3 + 1)))] [] M3) else (E2 d r_em_cheapestSellers 7 [(0, vR 1 a0), (1, vI p1), (2, vI p3), (3, vI (w32 (p3 + 1)))] [] M3)))) else (E2 d r_em_cheapestSellers 7 [(0, vR 1 a0), (1, vI p1), (2, vI p2), (3, vI (w32 (p3 + 1)))] [] M))) :=
  (DD_ex GR2 MT 27 d r_em_cheapestSellers (r_em_cheapestSellers.drop 7) [(0, vR 1 a0), (1, vI p1), (2, vI p2), (3, vI p3)] [] M).trans rfl
set_option maxRecDepth 100000 in
set_option maxHeartbeats 4000000 in
theorem q_em_isCheaper (p0 : Nat) (p1 : Int) (p2 : Int) (d : Nat) (M : Mem) : C2 d j_em_isCheaper [vR 1 p0, vI p1, vI p2] M = (bI (C2 d j_em_priceOf [vR 1 p0, vI p1] M) fun x2 M1 => bI (C2 d j_em_priceOf [vR 1 p0, vI p2] M1) fun x4 M3 => if x2 = x4 then (bI (C2 d j_int_bitCount [vI p1] M3) fun x6 M5 => bI (C2 d j_int_bitCount [vI p2] M5) fun x8 M7 => if x6 < x8 then (some (some (vI 1), M7)) else (some (some (vI 0), M7))) else (if x2 < x4 then (some (some (vI 1), M3)) else (some (some (vI 0), M3)))) :=
  (DD_ex GR2 MT 20 d r_em_isCheaper r_em_isCheaper [(0, vR 1 p0), (1, vI p1), (2, vI p2)] [] M).trans rfl
set_option maxRecDepth 100000 in
set_option maxHeartbeats 4000000 in
theorem q_em_priceOf (p0 : Nat) (p1 : Int) (d : Nat) (M : Mem) : C2 d j_em_priceOf [vR 1 p0, vI p1] M = (E2 d r_em_priceOf 4 [(0, vR 1 p0), (1, vI p1), (2, vI 0), (3, vI 0)] [] M) :=
  (DD_ex GR2 MT 6 d r_em_priceOf r_em_priceOf [(0, vR 1 p0), (1, vI p1)] [] M).trans rfl
set_option maxRecDepth 100000 in
set_option maxHeartbeats 4000000 in
theorem q_em_priceOf_4 (a0 : Nat) (p1 : Int) (p2 : Int) (p3 : Int) (d : Nat) (M : Mem) : E2 d r_em_priceOf 4 [(0, vR 1 a0), (1, vI p1), (2, vI p2), (3, vI p3)] [] M = (if p3 < (M.1 a0 8) then (if (xand (xshr p1 p3) 1) = 1 then (if 0 ≤ p3 ∧ p3 < 8 then (E2 d r_em_priceOf 4 [(0, vR 1 a0), (1, vI p1), (2, vI (w32 (p2 + (M.1 ((a0 + 2) + 14 + 1 * (p3).toNat) 2)))), (3, vI (w32 (p3 + 1)))] [] M) else none) else (E2 d r_em_priceOf 4 [(0, vR 1 a0), (1, vI p1), (2, vI p2), (3, vI (w32 (p3 + 1)))] [] M)) else (some (some (vI p2), M))) :=
  (DD_ex GR2 MT 23 d r_em_priceOf (r_em_priceOf.drop 4) [(0, vR 1 a0), (1, vI p1), (2, vI p2), (3, vI p3)] [] M).trans rfl
set_option maxRecDepth 100000 in
set_option maxHeartbeats 4000000 in
theorem q_x_bribeSet (d : Nat) (M : Mem) : C2 d j_x_bribeSet [vR 11 0] M = (bI (C2 d j_em_cheapestSellers [vR 1 11] M) fun x2 M1 => bI (C2 d j_x_answerOrNothing [vR 11 0, vI x2] M1) fun x4 M3 => some (some (vI x4), M3)) :=
  (DD_ex GR2 MT 7 d r_x_bribeSet r_x_bribeSet [(0, vR 11 0)] [] M).trans rfl
set_option maxRecDepth 100000 in
set_option maxHeartbeats 4000000 in
theorem q_x_frail (d : Nat) (M : Mem) : C2 d j_x_frail [vR 11 0] M = (bI (C2 d j_em_frailestPart [vR 1 11] M) fun x2 M1 => if x2 = (-1) then (bI (C2 d j_x_refuse [vR 11 0, vI 8] M1) fun x4 M3 => some (some (vI x4), M3)) else (bI (C2 d j_em_countThatKnow [vR 1 11, vI x2] M1) fun x6 M5 => bI (C2 d j_x_answer [vR 11 0, vI x6] M5) fun x8 M7 => some (some (vI x8), M7))) :=
  (DD_ex GR2 MT 15 d r_x_frail r_x_frail [(0, vR 11 0)] [] M).trans rfl
set_option maxRecDepth 100000 in
set_option maxHeartbeats 4000000 in
theorem q_em_frailestPart (p0 : Nat) (d : Nat) (M : Mem) : C2 d j_em_frailestPart [vR 1 p0] M = (bI (C2 d j_em_living [vR 1 p0] M) fun x2 M1 => bI (C2 d j_em_lostBy [vR 1 p0, vI x2] M1) fun x4 M3 => E2 d r_em_frailestPart 9 [(0, vR 1 p0), (1, vI x4), (2, vI (-1)), (3, vI 0)] [] M3) :=
  (DD_ex GR2 MT 11 d r_em_frailestPart r_em_frailestPart [(0, vR 1 p0)] [] M).trans rfl
set_option maxRecDepth 100000 in
set_option maxHeartbeats 4000000 in
theorem q_em_frailestPart_9 (a0 : Nat) (p1 : Int) (p2 : Int) (p3 : Int) (d : Nat) (M : Mem) : E2 d r_em_frailestPart 9 [(0, vR 1 a0), (1, vI p1), (2, vI p2), (3, vI p3)] [] M = (if p3 < (M.1 a0 7) then (if (xand (xshr p1 p3) 1) = 1 then (if p2 = (-1) then (E2 d r_em_frailestPart 9 [(0, vR 1 a0), (1, vI p1), (2, vI p3), (3, vI (w32 (p3 + 1)))] [] M) else (bI (C2 d j_em_countThatKnow [vR 1 a0, vI p3] M) fun x2 M1 => bI (C2 d j_em_countThatKnow [vR 1 a0, vI p2] M1) fun x4 M3 => if x2 < x4 then (E2 d r_em_frailestPart 9 [(0, vR 1 a0), (1, vI p1), (2, vI p3), (3, vI (w32 (p3 + 1)))] [] M3) else (E2 d r_em_frailestPart 9 [(0, vR 1 a0), (1, vI p1), (2, vI p2), (3, vI (w32 (p3 + 1)))] [] M3))) else (E2 d r_em_frailestPart 9 [(0, vR 1 a0), (1, vI p1), (2, vI p2), (3, vI (w32 (p3 + 1)))] [] M)) else (some (some (vI p2), M))) :=
  (DD_ex GR2 MT 27 d r_em_frailestPart (r_em_frailestPart.drop 9) [(0, vR 1 a0), (1, vI p1), (2, vI p2), (3, vI p3)] [] M).trans rfl
set_option maxRecDepth 100000 in
set_option maxHeartbeats 4000000 in
theorem q_em_countThatKnow (p0 : Nat) (p1 : Int) (d : Nat) (M : Mem) : C2 d j_em_countThatKnow [vR 1 p0, vI p1] M = (bI (C2 d j_em_livingThatKnow [vR 1 p0, vI p1] M) fun x2 M1 => bI (C2 d j_int_bitCount [vI x2] M1) fun x4 M3 => some (some (vI x4), M3)) :=
  (DD_ex GR2 MT 6 d r_em_countThatKnow r_em_countThatKnow [(0, vR 1 p0), (1, vI p1)] [] M).trans rfl
set_option maxRecDepth 100000 in
set_option maxHeartbeats 4000000 in
theorem q_x_frailPart (d : Nat) (M : Mem) : C2 d j_x_frailPart [vR 11 0] M = (bI (C2 d j_em_frailestPart [vR 1 11] M) fun x2 M1 => bI (C2 d j_x_answerOrNothing [vR 11 0, vI x2] M1) fun x4 M3 => some (some (vI x4), M3)) :=
  (DD_ex GR2 MT 7 d r_x_frailPart r_x_frailPart [(0, vR 11 0)] [] M).trans rfl
set_option maxRecDepth 100000 in
set_option maxHeartbeats 4000000 in
theorem q_x_safe (p1 : Int) (p2 : Int) (d : Nat) (M : Mem) : C2 d j_x_safe [vR 11 0, vI p1, vI p2] M = (bI (C2 d j_x_within [vL p1, vI 0, vI 8] M) fun x2 M1 => if x2 = 0 then (bI (C2 d j_x_refuse [vR 11 0, vI 5] M1) fun x4 M3 => some (some (vI x4), M3)) else (bI (C2 d j_x_within [vL p2, vI 0, vI 8] M1) fun x6 M5 => if x6 = 0 then (bI (C2 d j_x_refuse [vR 11 0, vI 5] M5) fun x8 M7 => some (some (vI x8), M7)) else (bI (C2 d j_em_frailestPart [vR 1 11] M5) fun x10 M9 => if x10 = (-1) then (bI (C2 d j_em_canBeSoldBy [vR 1 11, vI p1] M9) fun x12 M11 => if x12 = 0 then (bI (C2 d j_x_answerIf [vR 11 0, vI 1] M11) fun x14 M13 => some (some (vI x14), M13)) else (bI (C2 d j_x_answerIf [vR 11 0, vI 0] M11) fun x16 M15 => some (some (vI x16), M15))) else (bI (C2 d j_em_countThatKnow [vR 1 11, vI x10] M9) fun x18 M17 => if p2 < x18 then (bI (C2 d j_em_canBeSoldBy [vR 1 11, vI p1] M17) fun x20 M19 => if x20 = 0 then (bI (C2 d j_x_answerIf [vR 11 0, vI 1] M19) fun x22 M21 => some (some (vI x22), M21)) else (bI (C2 d j_x_answerIf [vR 11 0, vI 0] M19) fun x24 M23 => some (some (vI x24), M23))) else (bI (C2 d j_x_answerIf [vR 11 0, vI 0] M17) fun x26 M25 => some (some (vI x26), M25)))))) :=
  (DD_ex GR2 MT 41 d r_x_safe r_x_safe [(0, vR 11 0), (1, vI p1), (2, vI p2)] [] M).trans rfl
set_option maxRecDepth 100000 in
set_option maxHeartbeats 4000000 in
theorem q_em_canBeSoldBy (p0 : Nat) (p1 : Int) (d : Nat) (M : Mem) : C2 d j_em_canBeSoldBy [vR 1 p0, vI p1] M = (bI (C2 d j_em_fewestSellers [vR 1 p0] M) fun x2 M1 => if x2 = (-1) then (some (some (vI 0), M1)) else (bI (C2 d j_int_bitCount [vI x2] M1) fun x4 M3 => if p1 < x4 then (some (some (vI 0), M3)) else (some (some (vI 1), M3)))) :=
  (DD_ex GR2 MT 14 d r_em_canBeSoldBy r_em_canBeSoldBy [(0, vR 1 p0), (1, vI p1)] [] M).trans rfl
set_option maxRecDepth 100000 in
set_option maxHeartbeats 4000000 in
theorem q_x_lesson (p1 : Int) (d : Nat) (M : Mem) : C2 d j_x_lesson [vR 11 0, vI p1] M = (bI (C2 d j_x_within [vL p1, vI 0, vI 8] M) fun x2 M1 => if x2 = 0 then (bI (C2 d j_x_refuse [vR 11 0, vI 5] M1) fun x4 M3 => some (some (vI x4), M3)) else (bI (C2 d j_em_bestLesson [vR 1 11, vI p1] M1) fun x6 M5 => bI (C2 d j_x_answerOrNothing [vR 11 0, vI x6] M5) fun x8 M7 => some (some (vI x8), M7))) :=
  (DD_ex GR2 MT 14 d r_x_lesson r_x_lesson [(0, vR 11 0), (1, vI p1)] [] M).trans rfl
set_option maxRecDepth 100000 in
set_option maxHeartbeats 4000000 in
theorem q_em_bestLesson (p0 : Nat) (p1 : Int) (d : Nat) (M : Mem) : C2 d j_em_bestLesson [vR 1 p0, vI p1] M = (bI (C2 d j_em_living [vR 1 p0] M) fun x2 M1 => bI (C2 d j_em_knownAfter [vR 1 p0, vI 0] M1) fun x4 M3 => E2 d r_em_bestLesson 9 [(0, vR 1 p0), (1, vI p1), (2, vI x2), (3, vI x4), (4, vI 0)] [] M3) :=
  (DD_ex GR2 MT 11 d r_em_bestLesson r_em_bestLesson [(0, vR 1 p0), (1, vI p1)] [] M).trans rfl
set_option maxRecDepth 100000 in
set_option maxHeartbeats 4000000 in
theorem q_em_bestLesson_9 (a0 : Nat) (p1 : Int) (p2 : Int) (p3 : Int) (p4 : Int) (d : Nat) (M : Mem) : E2 d r_em_bestLesson 9 [(0, vR 1 a0), (1, vI p1), (2, vI p2), (3, vI p3), (4, vI p4)] [] M = (if p4 < (M.1 a0 8) then (E2 d r_em_bestLesson 15 [(0, vR 1 a0), (1, vI p1), (2, vI p2), (3, vI p3), (4, vI p4), (5, vI 0)] [] M) else (some (some (vI (-1)), M))) :=
  (DD_ex GR2 MT 8 d r_em_bestLesson (r_em_bestLesson.drop 9) [(0, vR 1 a0), (1, vI p1), (2, vI p2), (3, vI p3), (4, vI p4)] [] M).trans rfl
set_option maxRecDepth 100000 in
set_option maxHeartbeats 4000000 in
theorem q_em_bestLesson_15 (a0 : Nat) (p1 : Int) (p2 : Int) (p3 : Int) (p4 : Int) (p5 : Int) (d : Nat) (M : Mem) : E2 d r_em_bestLesson 15 [(0, vR 1 a0), (1, vI p1), (2, vI p2), (3, vI p3), (4, vI p4), (5, vI p5)] [] M = (if p5 < (M.1 a0 7) then (if (xand (xshr p2 p4) 1) = 1 then (if 0 ≤ p4 ∧ p4 < 8 then (if (xand (xshr (xand p3 (xxor (M.1 ((a0 + 2) + 14 + 1 * (p4).toNat) 3) (-1))) p5) 1) = 1 then (if 0 ≤ p4 ∧ p4 < 8 then (bI (C2 d j_em_isGoodLesson [vR 1 a0, vR 3 ((a0 + 2) + 14 + 1 * (p4).toNat), vI (xshl 1 p5), vI p1] M) fun x2 M1 => if x2 = 0 then (E2 d r_em_bestLesson 15 [(0, vR 1 a0), (1, vI p1), (2, vI p2), (3, vI p3), (4, vI p4), (5, vI (w32 (p5 + 1)))] [] M1) else (some (some (vI (w32 ((w32 (10 * p4)) + p5))), M1))) else none) else (E2 d r_em_bestLesson 15 [(0, vR 1 a0), (1, vI p1), (2, vI p2), (3, vI p3), (4, vI p4), (5, vI (w32 (p5 + 1)))] [] M)) else none) else (E2 d r_em_bestLesson 15 [(0, vR 1 a0), (1, vI p1), (2, vI p2), (3, vI p3), (4, vI p4), (5, vI (w32 (p5 + 1)))] [] M)) else (E2 d r_em_bestLesson 9 [(0, vR 1 a0), (1, vI p1), (2, vI p2), (3, vI p3), (4, vI (w32 (p4 + 1)))] [] M)) :=
  (DD_ex GR2 MT 49 d r_em_bestLesson (r_em_bestLesson.drop 15) [(0, vR 1 a0), (1, vI p1), (2, vI p2), (3, vI p3), (4, vI p4), (5, vI p5)] [] M).trans rfl
set_option maxRecDepth 100000 in
set_option maxHeartbeats 4000000 in
theorem q_em_isGoodLesson (p0 : Nat) (p1 : Nat) (p2 : Int) (p3 : Int) (d : Nat) (M : Mem) : C2 d j_em_isGoodLesson [vR 1 p0, vR 3 p1, vI p2, vI p3] M = (bI (C2 d j_em_thinnest [vR 1 p0] M) fun x2 M1 => bI (C2 d j_em_thinnest [vR 1 p0] (putI M1 p1 3 (xor32 (M1.1 p1 3) p2))) fun x4 M3 => if x2 < x4 then (bI (C2 d j_em_canBeSoldBy [vR 1 p0, vI p3] M3) fun x6 M5 => if x6 = 0 then (some (some (vI 1), (putI M5 p1 3 (xand (M5.1 p1 3) (xxor p2 (-1)))))) else (some (some (vI 0), (putI M5 p1 3 (xand (M5.1 p1 3) (xxor p2 (-1))))))) else (some (some (vI 0), (putI M3 p1 3 (xand (M3.1 p1 3) (xxor p2 (-1))))))) :=
  (DD_ex GR2 MT 31 d r_em_isGoodLesson r_em_isGoodLesson [(0, vR 1 p0), (1, vR 3 p1), (2, vI p2), (3, vI p3)] [] M).trans rfl
set_option maxRecDepth 100000 in
set_option maxHeartbeats 4000000 in
theorem q_em_thinnest (p0 : Nat) (d : Nat) (M : Mem) : C2 d j_em_thinnest [vR 1 p0] M = (E2 d r_em_thinnest 4 [(0, vR 1 p0), (1, vI 8), (2, vI 0)] [] M) :=
  (DD_ex GR2 MT 6 d r_em_thinnest r_em_thinnest [(0, vR 1 p0)] [] M).trans rfl
set_option maxRecDepth 100000 in
set_option maxHeartbeats 4000000 in
theorem q_em_thinnest_4 (a0 : Nat) (p1 : Int) (p2 : Int) (d : Nat) (M : Mem) : E2 d r_em_thinnest 4 [(0, vR 1 a0), (1, vI p1), (2, vI p2)] [] M = (if p2 < (M.1 a0 7) then (bI (C2 d j_em_isWritten [vR 1 a0, vI p2] M) fun x2 M1 => if x2 = 0 then (bI (C2 d j_em_countThatKnow [vR 1 a0, vI p2] M1) fun x4 M3 => bI (C2 d j_math_min_I [vI p1, vI x4] M3) fun x6 M5 => E2 d r_em_thinnest 4 [(0, vR 1 a0), (1, vI x6), (2, vI (w32 (p2 + 1)))] [] M5) else (E2 d r_em_thinnest 4 [(0, vR 1 a0), (1, vI p1), (2, vI (w32 (p2 + 1)))] [] M1)) else (some (some (vI p1), M))) :=
  (DD_ex GR2 MT 18 d r_em_thinnest (r_em_thinnest.drop 4) [(0, vR 1 a0), (1, vI p1), (2, vI p2)] [] M).trans rfl
set_option maxRecDepth 100000 in
set_option maxHeartbeats 4000000 in
theorem q_x_lostIn (p1 : Int) (d : Nat) (M : Mem) : C2 d j_x_lostIn [vR 11 0, vI p1] M = (bI (C2 d j_em_hasPart [vR 1 11, vI p1] M) fun x2 M1 => if x2 = 0 then (bI (C2 d j_x_refuse [vR 11 0, vI 2] M1) fun x4 M3 => some (some (vI x4), M3)) else (E2 d r_x_lostIn 11 [(0, vR 11 0), (1, vI p1), (2, vI 0)] [] M1)) :=
  (DD_ex GR2 MT 10 d r_x_lostIn r_x_lostIn [(0, vR 11 0), (1, vI p1)] [] M).trans rfl
set_option maxRecDepth 100000 in
set_option maxHeartbeats 4000000 in
theorem q_x_lostIn_11 (p1 : Int) (p2 : Int) (d : Nat) (M : Mem) : E2 d r_x_lostIn 11 [(0, vR 11 0), (1, vI p1), (2, vI p2)] [] M = (if 200 < p2 then (bI (C2 d j_x_refuse [vR 11 0, vI 8] M) fun x2 M1 => some (some (vI x2), M1)) else (bI (C2 d j_em_knownAfter [vR 1 11, vI p2] M) fun x4 M3 => if (xand (xshr x4 p1) 1) = 0 then (bI (C2 d j_x_answer [vR 11 0, vI p2] M3) fun x6 M5 => some (some (vI x6), M5)) else (E2 d r_x_lostIn 11 [(0, vR 11 0), (1, vI p1), (2, vI (w32 (p2 + 1)))] [] M3))) :=
  (DD_ex GR2 MT 17 d r_x_lostIn (r_x_lostIn.drop 11) [(0, vR 11 0), (1, vI p1), (2, vI p2)] [] M).trans rfl
set_option maxRecDepth 100000 in
set_option maxHeartbeats 4000000 in
theorem q_x_wholeFor (d : Nat) (M : Mem) : C2 d j_x_wholeFor [vR 11 0] M = (E2 d r_x_wholeFor 2 [(0, vR 11 0), (1, vI 0)] [] M) :=
  (DD_ex GR2 MT 4 d r_x_wholeFor r_x_wholeFor [(0, vR 11 0)] [] M).trans rfl
