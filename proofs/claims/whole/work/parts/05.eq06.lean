set_option maxRecDepth 100000 in
set_option maxHeartbeats 4000000 in
theorem q_m_rusts (p1 : Int) (d : Nat) (M : Mem) : C2 d j_m_rusts [vR 12 179, vI p1] M = (if 0 ≤ (w32 (27 + p1)) ∧ (w32 (27 + p1)) < 1725 then (bI (C2 d j_math_min_I [vI 99, vI (w32 ((M.1 184 (w32 (27 + p1)).toNat) + 1))] M) fun x2 M1 => if 0 ≤ (w32 (27 + p1)) ∧ (w32 (27 + p1)) < 1725 then (if 0 ≤ (w32 (27 + p1)) ∧ (w32 (27 + p1)) < 1725 then (if 0 ≤ (w32 (9 + p1)) ∧ (w32 (9 + p1)) < 1725 then (if ((putI M1 184 (w32 (27 + p1)).toNat x2).1 184 (w32 (27 + p1)).toNat) < ((putI M1 184 (w32 (27 + p1)).toNat x2).1 184 (w32 (9 + p1)).toNat) then (some (none, (putI M1 184 (w32 (27 + p1)).toNat x2))) else (E2 d r_m_rusts 32 [(0, vR 12 179), (1, vI p1), (2, vI 0)] [] (putI M1 184 (w32 (27 + p1)).toNat x2))) else none) else none) else none) else none) :=
  (DD_ex GR2 MT 33 d r_m_rusts r_m_rusts [(0, vR 12 179), (1, vI p1)] [] M).trans rfl
set_option maxRecDepth 100000 in
set_option maxHeartbeats 4000000 in
theorem q_m_rusts_32 (p1 : Int) (p2 : Int) (d : Nat) (M : Mem) : E2 d r_m_rusts 32 [(0, vR 12 179), (1, vI p1), (2, vI p2)] [] M = (if p2 < (M.1 184 1) then (bI (C2 d j_m_lives [vR 12 179, vI p2] M) fun x2 M1 => if x2 = 0 then (E2 d r_m_rusts 32 [(0, vR 12 179), (1, vI p1), (2, vI (w32 (p2 + 1)))] [] M1) else (if 0 ≤ (w32 (49 + p2)) ∧ (w32 (49 + p2)) < 1725 then (if 0 ≤ (w32 (49 + p2)) ∧ (w32 (49 + p2)) < 1725 then (E2 d r_m_rusts 32 [(0, vR 12 179), (1, vI p1), (2, vI (w32 (p2 + 1)))] [] (putI M1 184 (w32 (49 + p2)).toNat (xand (M1.1 184 (w32 (49 + p2)).toNat) (xxor (xshl 1 p1) (-1))))) else none) else none)) else (some (none, M))) :=
  (DD_ex GR2 MT 28 d r_m_rusts (r_m_rusts.drop 32) [(0, vR 12 179), (1, vI p1), (2, vI p2)] [] M).trans rfl
set_option maxRecDepth 100000 in
set_option maxHeartbeats 4000000 in
theorem q_m_make (p1 : Int) (d : Nat) (M : Mem) : C2 d j_m_make [vR 12 179, vI p1] M = (bI (C2 d j_m_isIn [vL p1, vL 1, vL 999] (putI (putI M 179 1 0) 179 0 0)) fun x2 M1 => if x2 = 0 then (bI (C2 d j_m_refuse [vR 12 179, vI 5] M1) fun x4 M3 => some (some (vI x4), M3)) else (bI (C2 d j_m_makes [vR 12 179, vI p1] M1) fun x6 M5 => if x6 = 0 then (bI (C2 d j_m_refuse [vR 12 179, vI 9] M5) fun x8 M7 => some (some (vI x8), M7)) else (some (some (vI (M5.1 184 5)), M5)))) :=
  (DD_ex GR2 MT 23 d r_m_make r_m_make [(0, vR 12 179), (1, vI p1)] [] M).trans rfl
set_option maxRecDepth 100000 in
set_option maxHeartbeats 4000000 in
theorem q_m_makes (p1 : Int) (d : Nat) (M : Mem) : C2 d j_m_makes [vR 12 179, vI p1] M = (bI (C2 d j_m_isWhole [vR 12 179] M) fun x2 M1 => if x2 = 0 then (some (some (vI 0), M1)) else (if (M1.1 184 7) < p1 then (some (some (vI 0), M1)) else (bI (C2 d j_math_min_I [vI 9999, vI (w32 (((putI M1 184 7 (w32 ((M1.1 184 7) - p1))).1 184 5) + p1))] (putI M1 184 7 (w32 ((M1.1 184 7) - p1)))) fun x4 M3 => bV (C2 d j_m_used [vR 12 179] (putI M3 184 5 x4)) fun M5 => some (some (vI 1), M5)))) :=
  (DD_ex GR2 MT 34 d r_m_makes r_m_makes [(0, vR 12 179), (1, vI p1)] [] M).trans rfl
set_option maxRecDepth 100000 in
set_option maxHeartbeats 4000000 in
theorem q_m_used (d : Nat) (M : Mem) : C2 d j_m_used [vR 12 179] M = (E2 d r_m_used 2 [(0, vR 12 179), (1, vI 0)] [] M) :=
  (DD_ex GR2 MT 4 d r_m_used r_m_used [(0, vR 12 179)] [] M).trans rfl
set_option maxRecDepth 100000 in
set_option maxHeartbeats 4000000 in
theorem q_m_used_2 (p1 : Int) (d : Nat) (M : Mem) : E2 d r_m_used 2 [(0, vR 12 179), (1, vI p1)] [] M = (if p1 < (M.1 184 0) then (if 0 ≤ (w32 (27 + p1)) ∧ (w32 (27 + p1)) < 1725 then (E2 d r_m_used 2 [(0, vR 12 179), (1, vI (w32 (p1 + 1)))] [] (putI M 184 (w32 (27 + p1)).toNat 0)) else none) else (some (none, M))) :=
  (DD_ex GR2 MT 17 d r_m_used (r_m_used.drop 2) [(0, vR 12 179), (1, vI p1)] [] M).trans rfl
set_option maxRecDepth 100000 in
set_option maxHeartbeats 4000000 in
theorem q_m_use (d : Nat) (M : Mem) : C2 d j_m_use [vR 12 179] M = (bI (C2 d j_m_uses [vR 12 179] (putI (putI M 179 1 0) 179 0 0)) fun x2 M1 => if x2 = 0 then (bI (C2 d j_m_refuse [vR 12 179, vI 9] M1) fun x4 M3 => some (some (vI x4), M3)) else (some (some (vI (M1.1 184 5)), M1))) :=
  (DD_ex GR2 MT 16 d r_m_use r_m_use [(0, vR 12 179)] [] M).trans rfl
set_option maxRecDepth 100000 in
set_option maxHeartbeats 4000000 in
theorem q_m_uses (d : Nat) (M : Mem) : C2 d j_m_uses [vR 12 179] M = (bI (C2 d j_m_isWhole [vR 12 179] M) fun x2 M1 => if x2 = 0 then (some (some (vI 0), M1)) else (if (M1.1 184 5) = 0 then (some (some (vI 0), M1)) else (bV (C2 d j_m_used [vR 12 179] (putI M1 184 5 (w32 ((M1.1 184 5) - 1)))) fun M3 => some (some (vI 1), M3)))) :=
  (DD_ex GR2 MT 21 d r_m_uses r_m_uses [(0, vR 12 179)] [] M).trans rfl
set_option maxRecDepth 100000 in
set_option maxHeartbeats 4000000 in
theorem q_m_teach (p1 : Int) (p2 : Int) (p3 : Int) (d : Nat) (M : Mem) : C2 d j_m_teach [vR 12 179, vI p1, vI p2, vI p3] M = (bI (C2 d j_m_isHandAt [vR 12 179, vI p1] (putI (putI M 179 1 0) 179 0 0)) fun x2 M1 => if x2 = 0 then (bI (C2 d j_m_refuse [vR 12 179, vI 2] M1) fun x4 M3 => some (some (vI x4), M3)) else (bI (C2 d j_m_isHandAt [vR 12 179, vI p2] M1) fun x6 M5 => if x6 = 0 then (bI (C2 d j_m_refuse [vR 12 179, vI 2] M5) fun x8 M7 => some (some (vI x8), M7)) else (bI (C2 d j_m_isPartAt [vR 12 179, vI p3] M5) fun x10 M9 => if x10 = 0 then (bI (C2 d j_m_refuse [vR 12 179, vI 2] M9) fun x12 M11 => some (some (vI x12), M11)) else (bI (C2 d j_m_teaches [vR 12 179, vI p1, vI p2, vI p3] M9) fun x14 M13 => if x14 = 0 then (bI (C2 d j_m_refuse [vR 12 179, vI 9] M13) fun x16 M15 => some (some (vI x16), M15)) else (if 0 ≤ (w32 (49 + p2)) ∧ (w32 (49 + p2)) < 1725 then (some (some (vI (M13.1 184 (w32 (49 + p2)).toNat)), M13)) else none))))) :=
  (DD_ex GR2 MT 33 d r_m_teach r_m_teach [(0, vR 12 179), (1, vI p1), (2, vI p2), (3, vI p3)] [] M).trans rfl
set_option maxRecDepth 100000 in
set_option maxHeartbeats 4000000 in
theorem q_m_teaches (p1 : Int) (p2 : Int) (p3 : Int) (d : Nat) (M : Mem) : C2 d j_m_teaches [vR 12 179, vI p1, vI p2, vI p3] M = (bI (C2 d j_m_lives [vR 12 179, vI p1] M) fun x2 M1 => if x2 = 0 then (some (some (vI 0), M1)) else (bI (C2 d j_m_lives [vR 12 179, vI p2] M1) fun x4 M3 => if x4 = 0 then (some (some (vI 0), M3)) else (if 0 ≤ (w32 (49 + p2)) ∧ (w32 (49 + p2)) < 1725 then (bI (C2 d j_m_has [vI (M3.1 184 (w32 (49 + p2)).toNat), vI p3] M3) fun x6 M5 => if x6 = 0 then (if p1 = p2 then (if 0 ≤ (w32 (21 + p3)) ∧ (w32 (21 + p3)) < 1725 then (if (M5.1 184 (w32 (21 + p3)).toNat) = 0 then (some (some (vI 0), M5)) else (if 0 ≤ (w32 (49 + p2)) ∧ (w32 (49 + p2)) < 1725 then (if 0 ≤ (w32 (49 + p2)) ∧ (w32 (49 + p2)) < 1725 then (some (some (vI 1), (putI M5 184 (w32 (49 + p2)).toNat (xor32 (M5.1 184 (w32 (49 + p2)).toNat) (xshl 1 p3))))) else none) else none)) else none) else (if 0 ≤ (w32 (49 + p1)) ∧ (w32 (49 + p1)) < 1725 then (bI (C2 d j_m_has [vI (M5.1 184 (w32 (49 + p1)).toNat), vI p3] M5) fun x8 M7 => if x8 = 0 then (some (some (vI 0), M7)) else (if 0 ≤ (w32 (49 + p2)) ∧ (w32 (49 + p2)) < 1725 then (if 0 ≤ (w32 (49 + p2)) ∧ (w32 (49 + p2)) < 1725 then (some (some (vI 1), (putI M7 184 (w32 (49 + p2)).toNat (xor32 (M7.1 184 (w32 (49 + p2)).toNat) (xshl 1 p3))))) else none) else none)) else none)) else (some (some (vI 0), M5))) else none))) :=
  (DD_ex GR2 MT 44 d r_m_teaches r_m_teaches [(0, vR 12 179), (1, vI p1), (2, vI p2), (3, vI p3)] [] M).trans rfl
set_option maxRecDepth 100000 in
set_option maxHeartbeats 4000000 in
theorem q_m_note (p1 : Int) (p2 : Int) (d : Nat) (M : Mem) : C2 d j_m_note [vR 12 179, vI p1, vI p2] M = (bI (C2 d j_m_isPartAt [vR 12 179, vI p1] (putI (putI M 179 1 0) 179 0 0)) fun x2 M1 => if x2 = 0 then (bI (C2 d j_m_no [vR 12 179, vI 2] M1) fun x4 M3 => if x4 = 0 ∨ x4 = 1 then some (some (vI x4), M3) else none) else (bI (C2 d j_m_notes [vR 12 179, vI p1, vI p2] M1) fun x6 M5 => if x6 = 0 then (bI (C2 d j_m_no [vR 12 179, vI 9] M5) fun x8 M7 => if x8 = 0 then (some (some (vI 0), M7)) else (some (some (vI 1), M7))) else (some (some (vI 1), M5)))) :=
  (DD_ex GR2 MT 23 d r_m_note r_m_note [(0, vR 12 179), (1, vI p1), (2, vI p2)] [] M).trans rfl
set_option maxRecDepth 100000 in
set_option maxHeartbeats 4000000 in
theorem q_m_notes (p1 : Int) (p2 : Int) (d : Nat) (M : Mem) : C2 d j_m_notes [vR 12 179, vI p1, vI p2] M = (if 0 ≤ (w32 (21 + p1)) ∧ (w32 (21 + p1)) < 1725 then (if (M.1 184 (w32 (21 + p1)).toNat) = 1 then (if 1 = p2 then (some (some (vI 0), M)) else (if p2 = 0 then (if p2 = 0 then (if 0 ≤ (w32 (21 + p1)) ∧ (w32 (21 + p1)) < 1725 then (some (some (vI 1), (putI M 184 (w32 (21 + p1)).toNat 0))) else none) else (if 0 ≤ (w32 (21 + p1)) ∧ (w32 (21 + p1)) < 1725 then (some (some (vI 1), (putI M 184 (w32 (21 + p1)).toNat 1))) else none)) else (bI (C2 d j_m_knowersOf [vR 12 179, vI p1] M) fun x2 M1 => if x2 = 0 then (some (some (vI 0), M1)) else (if p2 = 0 then (if 0 ≤ (w32 (21 + p1)) ∧ (w32 (21 + p1)) < 1725 then (some (some (vI 1), (putI M1 184 (w32 (21 + p1)).toNat 0))) else none) else (if 0 ≤ (w32 (21 + p1)) ∧ (w32 (21 + p1)) < 1725 then (some (some (vI 1), (putI M1 184 (w32 (21 + p1)).toNat 1))) else none))))) else (if 0 = p2 then (some (some (vI 0), M)) else (if p2 = 0 then (if p2 = 0 then (if 0 ≤ (w32 (21 + p1)) ∧ (w32 (21 + p1)) < 1725 then (some (some (vI 1), (putI M 184 (w32 (21 + p1)).toNat 0))) else none) else (if 0 ≤ (w32 (21 + p1)) ∧ (w32 (21 + p1)) < 1725 then (some (some (vI 1), (putI M 184 (w32 (21 + p1)).toNat 1))) else none)) else (bI (C2 d j_m_knowersOf [vR 12 179, vI p1] M) fun x4 M3 => if x4 = 0 then (some (some (vI 0), M3)) else (if p2 = 0 then (if 0 ≤ (w32 (21 + p1)) ∧ (w32 (21 + p1)) < 1725 then (some (some (vI 1), (putI M3 184 (w32 (21 + p1)).toNat 0))) else none) else (if 0 ≤ (w32 (21 + p1)) ∧ (w32 (21 + p1)) < 1725 then (some (some (vI 1), (putI M3 184 (w32 (21 + p1)).toNat 1))) else none)))))) else none) :=
  (DD_ex GR2 MT 31 d r_m_notes r_m_notes [(0, vR 12 179), (1, vI p1), (2, vI p2)] [] M).trans rfl
set_option maxRecDepth 100000 in
set_option maxHeartbeats 4000000 in
theorem q_m_capture (p1 : Int) (d : Nat) (M : Mem) : C2 d j_m_capture [vR 12 179, vI p1] M = (bI (C2 d j_m_isHandAt [vR 12 179, vI p1] (putI (putI M 179 1 0) 179 0 0)) fun x2 M1 => if x2 = 0 then (bI (C2 d j_m_refuse [vR 12 179, vI 2] M1) fun x4 M3 => some (some (vI x4), M3)) else (bI (C2 d j_m_captures [vR 12 179, vI p1] M1) fun x6 M5 => if x6 = 0 then (bI (C2 d j_m_refuse [vR 12 179, vI 9] M5) fun x8 M7 => some (some (vI x8), M7)) else (some (some (vI (M5.1 184 8)), M5)))) :=
  (DD_ex GR2 MT 21 d r_m_capture r_m_capture [(0, vR 12 179), (1, vI p1)] [] M).trans rfl
set_option maxRecDepth 100000 in
set_option maxHeartbeats 4000000 in
theorem q_m_captures (p1 : Int) (d : Nat) (M : Mem) : C2 d j_m_captures [vR 12 179, vI p1] M = (bI (C2 d j_m_lives [vR 12 179, vI p1] M) fun x2 M1 => if x2 = 0 then (some (some (vI 0), M1)) else (if 0 ≤ (w32 (57 + p1)) ∧ (w32 (57 + p1)) < 1725 then (if 0 ≤ (w32 (49 + p1)) ∧ (w32 (49 + p1)) < 1725 then (some (some (vI 1), (putI (putI M1 184 (w32 (57 + p1)).toNat 2) 184 8 (xor32 ((putI M1 184 (w32 (57 + p1)).toNat 2).1 184 8) ((putI M1 184 (w32 (57 + p1)).toNat 2).1 184 (w32 (49 + p1)).toNat))))) else none) else none)) :=
  (DD_ex GR2 MT 27 d r_m_captures r_m_captures [(0, vR 12 179), (1, vI p1)] [] M).trans rfl
set_option maxRecDepth 100000 in
set_option maxHeartbeats 4000000 in
theorem q_m_hire (p1 : Int) (p2 : Int) (d : Nat) (M : Mem) : C2 d j_m_hire [vR 12 179, vI p1, vI p2] M = (bI (C2 d j_m_isIn [vL p1, vL 0, vL 99] (putI (putI M 179 1 0) 179 0 0)) fun x2 M1 => if x2 = 0 then (bI (C2 d j_m_refuse [vR 12 179, vI 5] M1) fun x4 M3 => some (some (vI x4), M3)) else (bI (C2 d j_m_isIn [vL p2, vL 0, vL 99] M1) fun x6 M5 => if x6 = 0 then (bI (C2 d j_m_refuse [vR 12 179, vI 5] M5) fun x8 M7 => some (some (vI x8), M7)) else (if (M5.1 184 1) = 8 then (bI (C2 d j_m_refuse [vR 12 179, vI 7] M5) fun x10 M9 => some (some (vI x10), M9)) else (if 0 ≤ (w32 (6 + (M5.1 184 1))) ∧ (w32 (6 + (M5.1 184 1))) < 90 then (if 0 ≤ (w32 (33 + (M5.1 184 1))) ∧ (w32 (33 + (M5.1 184 1))) < 1725 then (if 0 ≤ (w32 (41 + (M5.1 184 1))) ∧ (w32 (41 + (M5.1 184 1))) < 1725 then (if 0 ≤ (w32 (49 + (M5.1 184 1))) ∧ (w32 (49 + (M5.1 184 1))) < 1725 then (if 0 ≤ (w32 (57 + (M5.1 184 1))) ∧ (w32 (57 + (M5.1 184 1))) < 1725 then (some (some (vI (M5.1 184 1)), (putI (putI (putI (putI (putI (putL M5 187 (w32 (6 + (M5.1 184 1))).toNat 0) 184 (w32 (33 + (M5.1 184 1))).toNat p1) 184 (w32 (41 + (M5.1 184 1))).toNat p2) 184 (w32 (49 + (M5.1 184 1))).toNat 0) 184 (w32 (57 + (M5.1 184 1))).toNat 0) 184 1 (w32 (((putI (putI (putI (putI (putL M5 187 (w32 (6 + (M5.1 184 1))).toNat 0) 184 (w32 (33 + (M5.1 184 1))).toNat p1) 184 (w32 (41 + (M5.1 184 1))).toNat p2) 184 (w32 (49 + (M5.1 184 1))).toNat 0) 184 (w32 (57 + (M5.1 184 1))).toNat 0).1 184 1) + 1))))) else none) else none) else none) else none) else none)))) :=
  (DD_ex GR2 MT 75 d r_m_hire r_m_hire [(0, vR 12 179), (1, vI p1), (2, vI p2)] [] M).trans rfl
set_option maxRecDepth 100000 in
set_option maxHeartbeats 4000000 in
theorem q_m_rule (p1 : Int) (p2 : Int) (d : Nat) (M : Mem) : C2 d j_m_rule [vR 12 179, vI p1, vI p2] M = (if p1 = 0 then (bI (C2 d j_m_isIn [vL p2, vL 10, vL 99] (putI (putI M 179 1 0) 179 0 0)) fun x2 M1 => if x2 = 0 then (bI (C2 d j_m_no [vR 12 179, vI 5] M1) fun x4 M3 => if x4 = 0 ∨ x4 = 1 then some (some (vI x4), M3) else none) else (if 0 ≤ (w32 (3 + p1)) ∧ (w32 (3 + p1)) < 1725 then (some (some (vI 1), (putI M1 184 (w32 (3 + p1)).toNat p2))) else none)) else (if p1 = 1 then (bI (C2 d j_m_isIn [vL p2, vL 0, vL 999] (putI (putI M 179 1 0) 179 0 0)) fun x6 M5 => if x6 = 0 then (bI (C2 d j_m_no [vR 12 179, vI 5] M5) fun x8 M7 => if x8 = 0 ∨ x8 = 1 then some (some (vI x8), M7) else none) else (if 0 ≤ (w32 (3 + p1)) ∧ (w32 (3 + p1)) < 1725 then (some (some (vI 1), (putI M5 184 (w32 (3 + p1)).toNat p2))) else none)) else (bI (C2 d j_m_no [vR 12 179, vI 5] (putI (putI M 179 1 0) 179 0 0)) fun x10 M9 => if x10 = 0 ∨ x10 = 1 then some (some (vI x10), M9) else none))) :=
  (DD_ex GR2 MT 32 d r_m_rule r_m_rule [(0, vR 12 179), (1, vI p1), (2, vI p2)] [] M).trans rfl
set_option maxRecDepth 100000 in
set_option maxHeartbeats 4000000 in
theorem q_m_supply (p1 : Int) (p2 : Int) (d : Nat) (M : Mem) : C2 d j_m_supply [vR 12 179, vI p1, vI p2] M = (bI (C2 d j_m_isIn [vL p1, vL 1, vL 9999] (putI (putI M 179 1 0) 179 0 0)) fun x2 M1 => if x2 = 0 then (bI (C2 d j_m_refuse [vR 12 179, vI 5] M1) fun x4 M3 => some (some (vI x4), M3)) else (if p2 = 0 then (bI (C2 d j_math_min_I [vI 9999, vI (w32 ((M1.1 184 5) + p1))] M1) fun x6 M5 => some (some (vI ((putI M5 184 5 x6).1 184 5)), (putI M5 184 5 x6))) else (bI (C2 d j_math_min_I [vI 9999, vI (w32 ((M1.1 184 7) + p1))] M1) fun x8 M7 => some (some (vI ((putI M7 184 7 x8).1 184 7)), (putI M7 184 7 x8))))) :=
  (DD_ex GR2 MT 35 d r_m_supply r_m_supply [(0, vR 12 179), (1, vI p1), (2, vI p2)] [] M).trans rfl
set_option maxRecDepth 100000 in
set_option maxHeartbeats 4000000 in
theorem q_m_leak (p1 : Int) (p2 : Int) (d : Nat) (M : Mem) : C2 d j_m_leak [vR 12 179, vI p1, vI p2] M = (bI (C2 d j_m_isPartAt [vR 12 179, vI p1] (putI (putI M 179 1 0) 179 0 0)) fun x2 M1 => if x2 = 0 then (bI (C2 d j_m_no [vR 12 179, vI 2] M1) fun x4 M3 => if x4 = 0 ∨ x4 = 1 then some (some (vI x4), M3) else none) else (bI (C2 d j_m_has [vI (M1.1 184 8), vI p1] M1) fun x6 M5 => if x6 = p2 then (bI (C2 d j_m_no [vR 12 179, vI 9] M5) fun x8 M7 => if x8 = 0 ∨ x8 = 1 then some (some (vI x8), M7) else none) else (some (some (vI 1), (putI M5 184 8 (xxor (M5.1 184 8) (xshl 1 p1))))))) :=
  (DD_ex GR2 MT 31 d r_m_leak r_m_leak [(0, vR 12 179), (1, vI p1), (2, vI p2)] [] M).trans rfl
set_option maxRecDepth 100000 in
set_option maxHeartbeats 4000000 in
theorem q_m_knowers (p1 : Int) (d : Nat) (M : Mem) : C2 d j_m_knowers [vR 12 179, vI p1] M = (bI (C2 d j_m_isPartAt [vR 12 179, vI p1] (putI (putI M 179 1 0) 179 0 0)) fun x2 M1 => if x2 = 0 then (bI (C2 d j_m_refuse [vR 12 179, vI 2] M1) fun x4 M3 => some (some (vI x4), M3)) else (bI (C2 d j_m_knowersOf [vR 12 179, vI p1] M1) fun x6 M5 => some (some (vI x6), M5))) :=
  (DD_ex GR2 MT 16 d r_m_knowers r_m_knowers [(0, vR 12 179), (1, vI p1)] [] M).trans rfl
set_option maxRecDepth 100000 in
set_option maxHeartbeats 4000000 in
theorem q_m_knownBy (p1 : Int) (d : Nat) (M : Mem) : C2 d j_m_knownBy [vR 12 179, vI p1] M = (bI (C2 d j_m_areHands [vR 12 179, vI p1] (putI (putI M 179 1 0) 179 0 0)) fun x2 M1 => if x2 = 0 then (bI (C2 d j_m_refuse [vR 12 179, vI 5] M1) fun x4 M3 => some (some (vI x4), M3)) else (bI (C2 d j_m_knownTo [vR 12 179, vI p1] M1) fun x6 M5 => some (some (vI x6), M5))) :=
  (DD_ex GR2 MT 16 d r_m_knownBy r_m_knownBy [(0, vR 12 179), (1, vI p1)] [] M).trans rfl
set_option maxRecDepth 100000 in
set_option maxHeartbeats 4000000 in
theorem q_m_areHands (p1 : Int) (d : Nat) (M : Mem) : C2 d j_m_areHands [vR 12 179, vI p1] M = (bI (C2 d j_m_allHands [vR 12 179] M) fun x2 M1 => bI (C2 d j_m_isIn [vL p1, vL 0, vL x2] M1) fun x4 M3 => if x4 = 0 ∨ x4 = 1 then some (some (vI x4), M3) else none) :=
  (DD_ex GR2 MT 9 d r_m_areHands r_m_areHands [(0, vR 12 179), (1, vI p1)] [] M).trans rfl
set_option maxRecDepth 100000 in
set_option maxHeartbeats 4000000 in
theorem q_m_allHands (d : Nat) (M : Mem) : C2 d j_m_allHands [vR 12 179] M = (some (some (vI (w32 ((xshl 1 (M.1 184 1)) - 1))), M)) :=
  (DD_ex GR2 MT 10 d r_m_allHands r_m_allHands [(0, vR 12 179)] [] M).trans rfl
set_option maxRecDepth 100000 in
set_option maxHeartbeats 4000000 in
theorem q_m_sells (p1 : Int) (d : Nat) (M : Mem) : C2 d j_m_sells [vR 12 179, vI p1] M = (bI (C2 d j_m_areHands [vR 12 179, vI p1] (putI (putI M 179 1 0) 179 0 0)) fun x2 M1 => if x2 = 0 then (bI (C2 d j_m_refuse [vR 12 179, vI 5] M1) fun x4 M3 => some (some (vI x4), M3)) else (bI (C2 d j_m_living [vR 12 179] M1) fun x6 M5 => if (xand p1 (xxor x6 (-1))) = 0 then (if (M5.1 184 0) = 0 then (bI (C2 d j_m_refuse [vR 12 179, vI 8] M5) fun x8 M7 => some (some (vI x8), M7)) else (bI (C2 d j_m_canSell [vR 12 179, vI p1] M5) fun x10 M9 => if x10 = 0 then (some (some (vI 0), M9)) else (some (some (vI 1), M9)))) else (bI (C2 d j_m_refuse [vR 12 179, vI 5] M5) fun x12 M11 => some (some (vI x12), M11)))) :=
  (DD_ex GR2 MT 30 d r_m_sells r_m_sells [(0, vR 12 179), (1, vI p1)] [] M).trans rfl
set_option maxRecDepth 100000 in
set_option maxHeartbeats 4000000 in
theorem q_m_canSell (p1 : Int) (d : Nat) (M : Mem) : C2 d j_m_canSell [vR 12 179, vI p1] M = (if 0 < (M.1 184 0) then (bI (C2 d j_m_knownTo [vR 12 179, vI p1] M) fun x2 M1 => bI (C2 d j_m_allParts [vR 12 179] M1) fun x4 M3 => if x2 = x4 then (some (some (vI 1), M3)) else (some (some (vI 0), M3))) else (some (some (vI 0), M))) :=
  (DD_ex GR2 MT 15 d r_m_canSell r_m_canSell [(0, vR 12 179), (1, vI p1)] [] M).trans rfl
set_option maxRecDepth 100000 in
set_option maxHeartbeats 4000000 in
theorem q_m_loses (p1 : Int) (d : Nat) (M : Mem) : C2 d j_m_loses [vR 12 179, vI p1] M = (bI (C2 d j_m_areHands [vR 12 179, vI p1] (putI (putI M 179 1 0) 179 0 0)) fun x2 M1 => if x2 = 0 then (bI (C2 d j_m_refuse [vR 12 179, vI 5] M1) fun x4 M3 => some (some (vI x4), M3)) else (bI (C2 d j_m_lostBy [vR 12 179, vI p1] M1) fun x6 M5 => some (some (vI x6), M5))) :=
  (DD_ex GR2 MT 16 d r_m_loses r_m_loses [(0, vR 12 179), (1, vI p1)] [] M).trans rfl
set_option maxRecDepth 100000 in
set_option maxHeartbeats 4000000 in
theorem q_m_lostBy (p1 : Int) (d : Nat) (M : Mem) : C2 d j_m_lostBy [vR 12 179, vI p1] M = (bI (C2 d j_m_knownNow [vR 12 179] M) fun x2 M1 => bI (C2 d j_m_written [vR 12 179] M1) fun x4 M3 => bI (C2 d j_m_living [vR 12 179] M3) fun x6 M5 => bI (C2 d j_m_knownTo [vR 12 179, vI (xand x6 (xxor p1 (-1)))] M5) fun x8 M7 => some (some (vI (xand x2 (xxor (xor32 x4 x8) (-1)))), M7)) :=
  (DD_ex GR2 MT 18 d r_m_lostBy r_m_lostBy [(0, vR 12 179), (1, vI p1)] [] M).trans rfl
set_option maxRecDepth 100000 in
set_option maxHeartbeats 4000000 in
theorem q_m_fewest (d : Nat) (M : Mem) : C2 d j_m_fewest [vR 12 179] M = (bI (C2 d j_m_bestSellers [vR 12 179, vI 0] (putI (putI M 179 1 0) 179 0 0)) fun x2 M1 => if x2 < 0 then (bI (C2 d j_m_refuse [vR 12 179, vI 8] M1) fun x4 M3 => some (some (vI x4), M3)) else (bI (C2 d j_m_sizeOf [vI x2] M1) fun x6 M5 => some (some (vI x6), M5))) :=
  (DD_ex GR2 MT 18 d r_m_fewest r_m_fewest [(0, vR 12 179)] [] M).trans rfl
set_option maxRecDepth 100000 in
set_option maxHeartbeats 4000000 in
theorem q_m_bestSellers (p1 : Int) (d : Nat) (M : Mem) : C2 d j_m_bestSellers [vR 12 179, vI p1] M = (bI (C2 d j_m_living [vR 12 179] M) fun x2 M1 => E2 d r_m_bestSellers 7 [(0, vR 12 179), (1, vI p1), (2, vI x2), (3, vI (-1)), (4, vI 0)] [] M1) :=
  (DD_ex GR2 MT 9 d r_m_bestSellers r_m_bestSellers [(0, vR 12 179), (1, vI p1)] [] M).trans rfl
set_option maxRecDepth 100000 in
set_option maxHeartbeats 4000000 in
theorem q_m_bestSellers_7 (p1 : Int) (p2 : Int) (p3 : Int) (p4 : Int) (d : Nat) (M : Mem) : E2 d r_m_bestSellers 7 [(0, vR 12 179), (1, vI p1), (2, vI p2), (3, vI p3), (4, vI p4)] [] M = (if p2 < p4 then (some (some (vI p3), M)) else (if (xand p4 (xxor p2 (-1))) = 0 then (bI (C2 d j_m_canSell [vR 12 179, vI p4] M) fun x2 M1 => if x2 = 0 then (E2 d r_m_bestSellers 7 [(0, vR 12 179), (1, vI p1), (2, vI p2), (3, vI p3), (4, vI (w32 (p4 + 1)))] [] M1) else (if p3 < 0 then (E2 d r_m_bestSellers 7 [(0, vR 12 179), (1, vI p1), (2, vI p2), (3, vI p4), (4, vI (w32 (p4 + 1)))] [] M1) else (if p1 = 0 then (bI (C2 d j_m_sizeOf [vI p4] M1) fun x4 M3 => bI (C2 d j_m_sizeOf [vI p3] M3) fun x6 M5 => if x4 < x6 then (E2 d r_m_bestSellers 7 [(0, vR 12 179), (1, vI p1), (2, vI p2), (3, vI p4), (4, vI (w32 (p4 + 1)))] [] M5) else (E2 d r_m_bestSellers 7 [(0, vR 12 179), (1, vI p1), (2, vI p2), (3, vI p3), (4, vI (w32 (p4 + 1)))] [] M5)) else (bI (C2 d j_m_pricesOf [vR 12 179, vI p4] M1) fun x8 M7 => bI (C2 d j_m_pricesOf [vR 12 179, vI p3] M7) fun x10 M9 => if (w32 (x8 - x10)) < 0 then (E2 d r_m_bestSellers 7 [(0, vR 12 179), (1, vI p1), (2, vI p2), (3, vI p4), (4, vI (w32 (p4 + 1)))] [] M9) else (if (w32 (x8 - x10)) = 0 then (bI (C2 d j_m_sizeOf [vI p4] M9) fun x12 M11 => bI (C2 d j_m_sizeOf [vI p3] M11) fun x14 M13 => if x12 < x14 then (E2 d r_m_bestSellers 7 [(0, vR 12 179), (1, vI p1), (2, vI p2), (3, vI p4), (4, vI (w32 (p4 + 1)))] [] M13) else (E2 d r_m_bestSellers 7 [(0, vR 12 179), (1, vI p1), (2, vI p2), (3, vI p3), (4, vI (w32 (p4 + 1)))] [] M13)) else (E2 d r_m_bestSellers 7 [(0, vR 12 179), (1, vI p1), (2, vI p2), (3, vI p3), (4, vI (w32 (p4 + 1)))] [] M9)))))) else (E2 d r_m_bestSellers 7 [(0, vR 12 179), (1, vI p1), (2, vI p2), (3, vI p3), (4, vI (w32 (p4 + 1)))] [] M))) :=
  (DD_ex GR2 MT 41 d r_m_bestSellers (r_m_bestSellers.drop 7) [(0, vR 12 179), (1, vI p1), (2, vI p2), (3, vI p3), (4, vI p4)] [] M).trans rfl
set_option maxRecDepth 100000 in
set_option maxHeartbeats 4000000 in
theorem q_m_pricesOf (p1 : Int) (d : Nat) (M : Mem) : C2 d j_m_pricesOf [vR 12 179, vI p1] M = (E2 d r_m_pricesOf 4 [(0, vR 12 179), (1, vI p1), (2, vI 0), (3, vI 0)] [] M) :=
  (DD_ex GR2 MT 6 d r_m_pricesOf r_m_pricesOf [(0, vR 12 179), (1, vI p1)] [] M).trans rfl
set_option maxRecDepth 100000 in
set_option maxHeartbeats 4000000 in
theorem q_m_pricesOf_4 (p1 : Int) (p2 : Int) (p3 : Int) (d : Nat) (M : Mem) : E2 d r_m_pricesOf 4 [(0, vR 12 179), (1, vI p1), (2, vI p2), (3, vI p3)] [] M = (if p3 < (M.1 184 1) then (bI (C2 d j_m_has [vI p1, vI p3] M) fun x2 M1 => if x2 = 0 then (E2 d r_m_pricesOf 4 [(0, vR 12 179), (1, vI p1), (2, vI (w32 (p2 + 0))), (3, vI (w32 (p3 + 1)))] [] M1) else (if 0 ≤ (w32 (41 + p3)) ∧ (w32 (41 + p3)) < 1725 then (E2 d r_m_pricesOf 4 [(0, vR 12 179), (1, vI p1), (2, vI (w32 (p2 + (M1.1 184 (w32 (41 + p3)).toNat)))), (3, vI (w32 (p3 + 1)))] [] M1) else none)) else (some (some (vI p2), M))) :=
  (DD_ex GR2 MT 24 d r_m_pricesOf (r_m_pricesOf.drop 4) [(0, vR 12 179), (1, vI p1), (2, vI p2), (3, vI p3)] [] M).trans rfl
set_option maxRecDepth 100000 in
set_option maxHeartbeats 4000000 in
theorem q_m_sizeOf (p0 : Int) (d : Nat) (M : Mem) : C2 d j_m_sizeOf [vI p0] M = (E2 d r_m_sizeOf 4 [(0, vI p0), (1, vI 0), (2, vI 0)] [] M) :=
  (DD_ex GR2 MT 6 d r_m_sizeOf r_m_sizeOf [(0, vI p0)] [] M).trans rfl
set_option maxRecDepth 100000 in
set_option maxHeartbeats 4000000 in
theorem q_m_sizeOf_4 (p0 : Int) (p1 : Int) (p2 : Int) (d : Nat) (M : Mem) : E2 d r_m_sizeOf 4 [(0, vI p0), (1, vI p1), (2, vI p2)] [] M = (if p2 < 8 then (bI (C2 d j_m_has [vI p0, vI p2] M) fun x2 M1 => if x2 = 0 then (E2 d r_m_sizeOf 4 [(0, vI p0), (1, vI (w32 (p1 + 0))), (2, vI (w32 (p2 + 1)))] [] M1) else (E2 d r_m_sizeOf 4 [(0, vI p0), (1, vI (w32 (p1 + 1))), (2, vI (w32 (p2 + 1)))] [] M1)) else (some (some (vI p1), M))) :=
  (DD_ex GR2 MT 16 d r_m_sizeOf (r_m_sizeOf.drop 4) [(0, vI p0), (1, vI p1), (2, vI p2)] [] M).trans rfl
set_option maxRecDepth 100000 in
set_option maxHeartbeats 4000000 in
theorem q_m_fewestSet (d : Nat) (M : Mem) : C2 d j_m_fewestSet [vR 12 179] M = (bI (C2 d j_m_bestSellers [vR 12 179, vI 0] (putI (putI M 179 1 0) 179 0 0)) fun x2 M1 => if x2 < 0 then (bI (C2 d j_m_refuse [vR 12 179, vI 8] M1) fun x4 M3 => some (some (vI x4), M3)) else (some (some (vI x2), M1))) :=
  (DD_ex GR2 MT 18 d r_m_fewestSet r_m_fewestSet [(0, vR 12 179)] [] M).trans rfl
set_option maxRecDepth 100000 in
set_option maxHeartbeats 4000000 in
theorem q_m_bribe (d : Nat) (M : Mem) : C2 d j_m_bribe [vR 12 179] M = (bI (C2 d j_m_bestSellers [vR 12 179, vI 1] (putI (putI M 179 1 0) 179 0 0)) fun x2 M1 => if x2 < 0 then (bI (C2 d j_m_refuse [vR 12 179, vI 8] M1) fun x4 M3 => some (some (vI x4), M3)) else (bI (C2 d j_m_pricesOf [vR 12 179, vI x2] M1) fun x6 M5 => some (some (vI x6), M5))) :=
  (DD_ex GR2 MT 18 d r_m_bribe r_m_bribe [(0, vR 12 179)] [] M).trans rfl
set_option maxRecDepth 100000 in
set_option maxHeartbeats 4000000 in
theorem q_m_bribeSet (d : Nat) (M : Mem) : C2 d j_m_bribeSet [vR 12 179] M = (bI (C2 d j_m_bestSellers [vR 12 179, vI 1] (putI (putI M 179 1 0) 179 0 0)) fun x2 M1 => if x2 < 0 then (bI (C2 d j_m_refuse [vR 12 179, vI 8] M1) fun x4 M3 => some (some (vI x4), M3)) else (some (some (vI x2), M1))) :=
  (DD_ex GR2 MT 18 d r_m_bribeSet r_m_bribeSet [(0, vR 12 179)] [] M).trans rfl
set_option maxRecDepth 100000 in
set_option maxHeartbeats 4000000 in
theorem q_m_frail (d : Nat) (M : Mem) : C2 d j_m_frail [vR 12 179] M = (bI (C2 d j_m_frailest [vR 12 179] (putI (putI M 179 1 0) 179 0 0)) fun x2 M1 => if x2 < 0 then (bI (C2 d j_m_refuse [vR 12 179, vI 8] M1) fun x4 M3 => some (some (vI x4), M3)) else (bI (C2 d j_m_knowersOf [vR 12 179, vI x2] M1) fun x6 M5 => bI (C2 d j_m_sizeOf [vI x6] M5) fun x8 M7 => some (some (vI x8), M7))) :=
  (DD_ex GR2 MT 17 d r_m_frail r_m_frail [(0, vR 12 179)] [] M).trans rfl
set_option maxRecDepth 100000 in
set_option maxHeartbeats 4000000 in
theorem q_m_frailest (d : Nat) (M : Mem) : C2 d j_m_frailest [vR 12 179] M = (E2 d r_m_frailest 4 [(0, vR 12 179), (1, vI (-1)), (2, vI 0)] [] M) :=
  (DD_ex GR2 MT 6 d r_m_frailest r_m_frailest [(0, vR 12 179)] [] M).trans rfl
set_option maxRecDepth 100000 in
set_option maxHeartbeats 4000000 in
theorem q_m_frailest_4 (p1 : Int) (p2 : Int) (d : Nat) (M : Mem) : E2 d r_m_frailest 4 [(0, vR 12 179), (1, vI p1), (2, vI p2)] [] M = (if p2 < (M.1 184 0) then (bI (C2 d j_m_knowersOf [vR 12 179, vI p2] M) fun x2 M1 => bI (C2 d j_m_sizeOf [vI x2] M1) fun x4 M3 => if 0 < x4 then (if 0 ≤ (w32 (21 + p2)) ∧ (w32 (21 + p2)) < 1725 then (if (M3.1 184 (w32 (21 + p2)).toNat) = 0 then (if p1 < 0 then (E2 d r_m_frailest 4 [(0, vR 12 179), (1, vI p2), (2, vI (w32 (p2 + 1)))] [] M3) else (bI (C2 d j_m_knowersOf [vR 12 179, vI p1] M3) fun x6 M5 => bI (C2 d j_m_sizeOf [vI x6] M5) fun x8 M7 => if x4 < x8 then (E2 d r_m_frailest 4 [(0, vR 12 179), (1, vI p2), (2, vI (w32 (p2 + 1)))] [] M7) else (E2 d r_m_frailest 4 [(0, vR 12 179), (1, vI p1), (2, vI (w32 (p2 + 1)))] [] M7))) else (E2 d r_m_frailest 4 [(0, vR 12 179), (1, vI p1), (2, vI (w32 (p2 + 1)))] [] M3)) else none) else (E2 d r_m_frailest 4 [(0, vR 12 179), (1, vI p1), (2, vI (w32 (p2 + 1)))] [] M3)) else (some (some (vI p1), M))) :=
  (DD_ex GR2 MT 34 d r_m_frailest (r_m_frailest.drop 4) [(0, vR 12 179), (1, vI p1), (2, vI p2)] [] M).trans rfl
set_option maxRecDepth 100000 in
set_option maxHeartbeats 4000000 in
theorem q_m_frailPart (d : Nat) (M : Mem) : C2 d j_m_frailPart [vR 12 179] M = (bI (C2 d j_m_frailest [vR 12 179] (putI (putI M 179 1 0) 179 0 0)) fun x2 M1 => if x2 < 0 then (bI (C2 d j_m_refuse [vR 12 179, vI 8] M1) fun x4 M3 => some (some (vI x4), M3)) else (some (some (vI x2), M1))) :=
  (DD_ex GR2 MT 17 d r_m_frailPart r_m_frailPart [(0, vR 12 179)] [] M).trans rfl
set_option maxRecDepth 100000 in
set_option maxHeartbeats 4000000 in
theorem q_m_safe (p1 : Int) (p2 : Int) (d : Nat) (M : Mem) : C2 d j_m_safe [vR 12 179, vI p1, vI p2] M = (bI (C2 d j_m_isIn [vL p1, vL 0, vL 8] (putI (putI M 179 1 0) 179 0 0)) fun x2 M1 => if x2 = 0 then (bI (C2 d j_m_refuse [vR 12 179, vI 5] M1) fun x4 M3 => some (some (vI x4), M3)) else (bI (C2 d j_m_isIn [vL p2, vL 0, vL 8] M1) fun x6 M5 => if x6 = 0 then (bI (C2 d j_m_refuse [vR 12 179, vI 5] M5) fun x8 M7 => some (some (vI x8), M7)) else (bI (C2 d j_m_frailest [vR 12 179] M5) fun x10 M9 => bI (C2 d j_m_isUnsold [vR 12 179, vI p1] M9) fun x12 M11 => if x12 = 0 then (some (some (vI 0), M11)) else (if x10 < 0 then (some (some (vI 1), M11)) else (bI (C2 d j_m_knowersOf [vR 12 179, vI x10] M11) fun x14 M13 => bI (C2 d j_m_sizeOf [vI x14] M13) fun x16 M15 => if p2 < x16 then (some (some (vI 1), M15)) else (some (some (vI 0), M15))))))) :=
  (DD_ex GR2 MT 37 d r_m_safe r_m_safe [(0, vR 12 179), (1, vI p1), (2, vI p2)] [] M).trans rfl
set_option maxRecDepth 100000 in
set_option maxHeartbeats 4000000 in
theorem q_m_isUnsold (p1 : Int) (d : Nat) (M : Mem) : C2 d j_m_isUnsold [vR 12 179, vI p1] M = (bI (C2 d j_m_bestSellers [vR 12 179, vI 0] M) fun x2 M1 => if x2 < 0 then (some (some (vI 1), M1)) else (bI (C2 d j_m_sizeOf [vI x2] M1) fun x4 M3 => if p1 < x4 then (some (some (vI 1), M3)) else (some (some (vI 0), M3)))) :=
  (DD_ex GR2 MT 14 d r_m_isUnsold r_m_isUnsold [(0, vR 12 179), (1, vI p1)] [] M).trans rfl
set_option maxRecDepth 100000 in
set_option maxHeartbeats 4000000 in
theorem q_m_lesson (p1 : Int) (d : Nat) (M : Mem) : C2 d j_m_lesson [vR 12 179, vI p1] M = (bI (C2 d j_m_isIn [vL p1, vL 0, vL 8] (putI (putI M 179 1 0) 179 0 0)) fun x2 M1 => if x2 = 0 then (bI (C2 d j_m_refuse [vR 12 179, vI 5] M1) fun x4 M3 => some (some (vI x4), M3)) else (bI (C2 d j_m_thinnest [vR 12 179] M1) fun x6 M5 => bI (C2 d j_m_knownNow [vR 12 179] M5) fun x8 M7 => E2 d r_m_lesson 26 [(0, vR 12 179), (1, vI p1), (2, vI (-1)), (3, vI x6), (4, vI x8), (5, vI 0)] [] M7)) :=
  (DD_ex GR2 MT 24 d r_m_lesson r_m_lesson [(0, vR 12 179), (1, vI p1)] [] M).trans rfl
set_option maxRecDepth 100000 in
set_option maxHeartbeats 4000000 in
theorem q_m_lesson_26 (p1 : Int) (p2 : Int) (p3 : Int) (p4 : Int) (p5 : Int) (d : Nat) (M : Mem) : E2 d r_m_lesson 26 [(0, vR 12 179), (1, vI p1), (2, vI p2), (3, vI p3), (4, vI p4), (5, vI p5)] [] M = (if p5 < (M.1 184 1) then (E2 d r_m_lesson 34 [(0, vR 12 179), (1, vI p1), (2, vI p2), (3, vI p3), (4, vI p4), (5, vI p5), (6, vI 0)] [] M) else (if p2 < 0 then (bI (C2 d j_m_refuse [vR 12 179, vI 8] M) fun x2 M1 => some (some (vI x2), M1)) else (some (some (vI p2), M)))) :=
  (DD_ex GR2 MT 14 d r_m_lesson (r_m_lesson.drop 26) [(0, vR 12 179), (1, vI p1), (2, vI p2), (3, vI p3), (4, vI p4), (5, vI p5)] [] M).trans rfl
set_option maxRecDepth 100000 in
set_option maxHeartbeats 4000000 in
theorem q_m_lesson_34 (p1 : Int) (p2 : Int) (p3 : Int) (p4 : Int) (p5 : Int) (p6 : Int) (d : Nat) (M : Mem) : E2 d r_m_lesson 34 [(0, vR 12 179), (1, vI p1), (2, vI p2), (3, vI p3), (4, vI p4), (5, vI p5), (6, vI p6)] [] M = (if p6 < (M.1 184 0) then (bI (C2 d j_m_lives [vR 12 179, vI p5] M) fun x2 M1 => if x2 = 0 then (E2 d r_m_lesson 26 [(0, vR 12 179), (1, vI p1), (2, vI p2), (3, vI p3), (4, vI p4), (5, vI (w32 (p5 + 1)))] [] M1) else (if 0 ≤ (w32 (49 + p5)) ∧ (w32 (49 + p5)) < 1725 then (bI (C2 d j_m_has [vI (M1.1 184 (w32 (49 + p5)).toNat), vI p6] M1) fun x4 M3 => if x4 = 0 then (bI (C2 d j_m_has [vI p4, vI p6] M3) fun x6 M5 => if x6 = 0 then (E2 d r_m_lesson 34 [(0, vR 12 179), (1, vI p1), (2, vI p2), (3, vI p3), (4, vI p4), (5, vI p5), (6, vI (w32 (p6 + 1)))] [] M5) else (if 0 ≤ (w32 (49 + p5)) ∧ (w32 (49 + p5)) < 1725 then (if 0 ≤ (w32 (49 + p5)) ∧ (w32 (49 + p5)) < 1725 then (bI (C2 d j_m_isUnsold [vR 12 179, vI p1] (putI M5 184 (w32 (49 + p5)).toNat (xor32 (M5.1 184 (w32 (49 + p5)).toNat) (xshl 1 p6)))) fun x8 M7 => if x8 = 0 then (if 0 ≤ (w32 (49 + p5)) ∧ (w32 (49 + p5)) < 1725 then (if 0 ≤ (w32 (49 + p5)) ∧ (w32 (49 + p5)) < 1725 then (if p3 < (-1) then (E2 d r_m_lesson 34 [(0, vR 12 179), (1, vI p1), (2, vI (w32 ((w32 (10 * p5)) + p6))), (3, vI (-1)), (4, vI p4), (5, vI p5), (6, vI (w32 (p6 + 1)))] [] (putI M7 184 (w32 (49 + p5)).toNat (xand (M7.1 184 (w32 (49 + p5)).toNat) (xxor (xshl 1 p6) (-1))))) else (E2 d r_m_lesson 34 [(0, vR 12 179), (1, vI p1), (2, vI p2), (3, vI p3), (4, vI p4), (5, vI p5), (6, vI (w32 (p6 + 1)))] [] (putI M7 184 (w32 (49 + p5)).toNat (xand (M7.1 184 (w32 (49 + p5)).toNat) (xxor (xshl 1 p6) (-1)))))) else none) else none) else (bI (C2 d j_m_thinnest [vR 12 179] M7) fun x10 M9 => if 0 ≤ (w32 (49 + p5)) ∧ (w32 (49 + p5)) < 1725 then (if 0 ≤ (w32 (49 + p5)) ∧ (w32 (49 + p5)) < 1725 then (if p3 < x10 then (E2 d r_m_lesson 34 [(0, vR 12 179), (1, vI p1), (2, vI (w32 ((w32 (10 * p5)) + p6))), (3, vI x10), (4, vI p4), (5, vI p5), (6, vI (w32 (p6 + 1)))] [] (putI M9 184 (w32 (49 + p5)).toNat (xand (M9.1 184 (w32 (49 + p5)).toNat) (xxor (xshl 1 p6) (-1))))) else (E2 d r_m_lesson 34 [(0, vR 12 179), (1, vI p1), (2, vI p2), (3, vI p3), (4, vI p4), (5, vI p5), (6, vI (w32 (p6 + 1)))] [] (putI M9 184 (w32 (49 + p5)).toNat (xand (M9.1 184 (w32 (49 + p5)).toNat) (xxor (xshl 1 p6) (-1)))))) else none) else none)) else none) else none)) else (E2 d r_m_lesson 34 [(0, vR 12 179), (1, vI p1), (2, vI p2), (3, vI p3), (4, vI p4), (5, vI p5), (6, vI (w32 (p6 + 1)))] [] M3)) else none)) else (E2 d r_m_lesson 26 [(0, vR 12 179), (1, vI p1), (2, vI p2), (3, vI p3), (4, vI p4), (5, vI (w32 (p5 + 1)))] [] M)) :=
  (DD_ex GR2 MT 72 d r_m_lesson (r_m_lesson.drop 34) [(0, vR 12 179), (1, vI p1), (2, vI p2), (3, vI p3), (4, vI p4), (5, vI p5), (6, vI p6)] [] M).trans rfl
set_option maxRecDepth 100000 in
set_option maxHeartbeats 4000000 in
theorem q_m_thinnest (d : Nat) (M : Mem) : C2 d j_m_thinnest [vR 12 179] M = (E2 d r_m_thinnest 4 [(0, vR 12 179), (1, vI 99), (2, vI 0)] [] M) :=
  (DD_ex GR2 MT 6 d r_m_thinnest r_m_thinnest [(0, vR 12 179)] [] M).trans rfl
set_option maxRecDepth 100000 in
set_option maxHeartbeats 4000000 in
theorem q_m_thinnest_4 (p1 : Int) (p2 : Int) (d : Nat) (M : Mem) : E2 d r_m_thinnest 4 [(0, vR 12 179), (1, vI p1), (2, vI p2)] [] M = (if p2 < (M.1 184 0) then (if 0 ≤ (w32 (21 + p2)) ∧ (w32 (21 + p2)) < 1725 then (if (M.1 184 (w32 (21 + p2)).toNat) = 0 then (bI (C2 d j_m_knowersOf [vR 12 179, vI p2] M) fun x2 M1 => bI (C2 d j_m_sizeOf [vI x2] M1) fun x4 M3 => bI (C2 d j_math_min_I [vI p1, vI x4] M3) fun x6 M5 => E2 d r_m_thinnest 4 [(0, vR 12 179), (1, vI x6), (2, vI (w32 (p2 + 1)))] [] M5) else (E2 d r_m_thinnest 4 [(0, vR 12 179), (1, vI p1), (2, vI (w32 (p2 + 1)))] [] M)) else none) else (some (some (vI p1), M))) :=
  (DD_ex GR2 MT 24 d r_m_thinnest (r_m_thinnest.drop 4) [(0, vR 12 179), (1, vI p1), (2, vI p2)] [] M).trans rfl
set_option maxRecDepth 100000 in
set_option maxHeartbeats 4000000 in
theorem q_m_lostIn (p1 : Int) (d : Nat) (M : Mem) : C2 d j_m_lostIn [vR 12 179, vI p1] M = (bI (C2 d j_m_isPartAt [vR 12 179, vI p1] (putI (putI M 179 1 0) 179 0 0)) fun x2 M1 => if x2 = 0 then (bI (C2 d j_m_refuse [vR 12 179, vI 2] M1) fun x4 M3 => some (some (vI x4), M3)) else (bV (C2 d j_m_keeps [vR 12 179] M1) fun M5 => E2 d r_m_lostIn 20 [(0, vR 12 179), (1, vI p1), (2, vI (-1)), (3, vI 0)] [] M5)) :=
  (DD_ex GR2 MT 18 d r_m_lostIn r_m_lostIn [(0, vR 12 179), (1, vI p1)] [] M).trans rfl
set_option maxRecDepth 100000 in
set_option maxHeartbeats 4000000 in
theorem q_m_lostIn_20 (p1 : Int) (p2 : Int) (p3 : Int) (d : Nat) (M : Mem) : E2 d r_m_lostIn 20 [(0, vR 12 179), (1, vI p1), (2, vI p2), (3, vI p3)] [] M = (if 200 < p3 then (bV (C2 d j_m_returns [vR 12 179] M) fun M1 => if p2 < 0 then (bI (C2 d j_m_refuse [vR 12 179, vI 8] M1) fun x3 M2 => some (some (vI x3), M2)) else (some (some (vI p2), M1))) else (if p2 < 0 then (bI (C2 d j_m_knownNow [vR 12 179] M) fun x5 M4 => bI (C2 d j_m_has [vI x5, vI p1] M4) fun x7 M6 => if x7 = 0 then (bI (C2 d j_m_goesYear [vR 12 179] M6) fun x9 M8 => E2 d r_m_lostIn 20 [(0, vR 12 179), (1, vI p1), (2, vI p3), (3, vI (w32 (p3 + 1)))] [] M8) else (bI (C2 d j_m_goesYear [vR 12 179] M6) fun x11 M10 => E2 d r_m_lostIn 20 [(0, vR 12 179), (1, vI p1), (2, vI p2), (3, vI (w32 (p3 + 1)))] [] M10)) else (bV (C2 d j_m_returns [vR 12 179] M) fun M12 => if p2 < 0 then (bI (C2 d j_m_refuse [vR 12 179, vI 8] M12) fun x14 M13 => some (some (vI x14), M13)) else (some (some (vI p2), M12))))) :=
  (DD_ex GR2 MT 19 d r_m_lostIn (r_m_lostIn.drop 20) [(0, vR 12 179), (1, vI p1), (2, vI p2), (3, vI p3)] [] M).trans rfl
set_option maxRecDepth 100000 in
set_option maxHeartbeats 4000000 in
theorem q_m_keeps (d : Nat) (M : Mem) : C2 d j_m_keeps [vR 12 179] M = (E2 d r_m_keeps 2 [(0, vR 12 179), (1, vI 0)] [] M) :=
  (DD_ex GR2 MT 4 d r_m_keeps r_m_keeps [(0, vR 12 179)] [] M).trans rfl
set_option maxRecDepth 100000 in
set_option maxHeartbeats 4000000 in
theorem q_m_keeps_2 (p1 : Int) (d : Nat) (M : Mem) : E2 d r_m_keeps 2 [(0, vR 12 179), (1, vI p1)] [] M = (if p1 < 73 then (if 0 ≤ p1 ∧ p1 < 1725 then (if 0 ≤ p1 ∧ p1 < 73 then (E2 d r_m_keeps 2 [(0, vR 12 179), (1, vI (w32 (p1 + 1)))] [] (putI M 185 (p1).toNat (M.1 184 (p1).toNat))) else none) else none) else (some (none, M))) :=
  (DD_ex GR2 MT 15 d r_m_keeps (r_m_keeps.drop 2) [(0, vR 12 179), (1, vI p1)] [] M).trans rfl
set_option maxRecDepth 100000 in
set_option maxHeartbeats 4000000 in
theorem q_m_returns (d : Nat) (M : Mem) : C2 d j_m_returns [vR 12 179] M = (E2 d r_m_returns 2 [(0, vR 12 179), (1, vI 0)] [] M) :=
  (DD_ex GR2 MT 4 d r_m_returns r_m_returns [(0, vR 12 179)] [] M).trans rfl
set_option maxRecDepth 100000 in
set_option maxHeartbeats 4000000 in
theorem q_m_returns_2 (p1 : Int) (d : Nat) (M : Mem) : E2 d r_m_returns 2 [(0, vR 12 179), (1, vI p1)] [] M = (if p1 < 73 then (if 0 ≤ p1 ∧ p1 < 73 then (if 0 ≤ p1 ∧ p1 < 1725 then (E2 d r_m_returns 2 [(0, vR 12 179), (1, vI (w32 (p1 + 1)))] [] (putI M 184 (p1).toNat (M.1 185 (p1).toNat))) else none) else none) else (some (none, M))) :=
  (DD_ex GR2 MT 15 d r_m_returns (r_m_returns.drop 2) [(0, vR 12 179), (1, vI p1)] [] M).trans rfl
set_option maxRecDepth 100000 in
set_option maxHeartbeats 4000000 in
theorem q_m_wholeFor (d : Nat) (M : Mem) : C2 d j_m_wholeFor [vR 12 179] M = (bV (C2 d j_m_keeps [vR 12 179] (putI (putI M 179 1 0) 179 0 0)) fun M1 => E2 d r_m_wholeFor 12 [(0, vR 12 179), (1, vI (-1)), (2, vI 0)] [] M1) :=
  (DD_ex GR2 MT 14 d r_m_wholeFor r_m_wholeFor [(0, vR 12 179)] [] M).trans rfl
set_option maxRecDepth 100000 in
set_option maxHeartbeats 4000000 in
theorem q_m_wholeFor_12 (p1 : Int) (p2 : Int) (d : Nat) (M : Mem) : E2 d r_m_wholeFor 12 [(0, vR 12 179), (1, vI p1), (2, vI p2)] [] M = (if 200 < p2 then (bV (C2 d j_m_returns [vR 12 179] M) fun M1 => if p1 < 0 then (bI (C2 d j_m_refuse [vR 12 179, vI 8] M1) fun x3 M2 => some (some (vI x3), M2)) else (some (some (vI p1), M1))) else (if p1 < 0 then (bI (C2 d j_m_isWhole [vR 12 179] M) fun x5 M4 => if x5 = 0 then (bI (C2 d j_m_goesYear [vR 12 179] M4) fun x7 M6 => E2 d r_m_wholeFor 12 [(0, vR 12 179), (1, vI p2), (2, vI (w32 (p2 + 1)))] [] M6) else (bI (C2 d j_m_goesYear [vR 12 179] M4) fun x9 M8 => E2 d r_m_wholeFor 12 [(0, vR 12 179), (1, vI p1), (2, vI (w32 (p2 + 1)))] [] M8)) else (bV (C2 d j_m_returns [vR 12 179] M) fun M10 => if p1 < 0 then (bI (C2 d j_m_refuse [vR 12 179, vI 8] M10) fun x12 M11 => some (some (vI x12), M11)) else (some (some (vI p1), M10))))) :=
  (DD_ex GR2 MT 17 d r_m_wholeFor (r_m_wholeFor.drop 12) [(0, vR 12 179), (1, vI p1), (2, vI p2)] [] M).trans rfl
set_option maxRecDepth 100000 in
set_option maxHeartbeats 4000000 in
theorem q_m_knownIn (p1 : Int) (d : Nat) (M : Mem) : C2 d j_m_knownIn [vR 12 179, vI p1] M = (bI (C2 d j_m_isIn [vL p1, vL 0, vL 200] (putI (putI M 179 1 0) 179 0 0)) fun x2 M1 => if x2 = 0 then (bI (C2 d j_m_refuse [vR 12 179, vI 5] M1) fun x4 M3 => some (some (vI x4), M3)) else (bV (C2 d j_m_keeps [vR 12 179] M1) fun M5 => E2 d r_m_knownIn 20 [(0, vR 12 179), (1, vI p1), (2, vI 0)] [] M5)) :=
  (DD_ex GR2 MT 18 d r_m_knownIn r_m_knownIn [(0, vR 12 179), (1, vI p1)] [] M).trans rfl
set_option maxRecDepth 100000 in
set_option maxHeartbeats 4000000 in
theorem q_m_knownIn_20 (p1 : Int) (p2 : Int) (d : Nat) (M : Mem) : E2 d r_m_knownIn 20 [(0, vR 12 179), (1, vI p1), (2, vI p2)] [] M = (if p2 < p1 then (bI (C2 d j_m_goesYear [vR 12 179] M) fun x2 M1 => E2 d r_m_knownIn 20 [(0, vR 12 179), (1, vI p1), (2, vI (w32 (p2 + 1)))] [] M1) else (bI (C2 d j_m_knownNow [vR 12 179] M) fun x4 M3 => bV (C2 d j_m_returns [vR 12 179] M3) fun M5 => some (some (vI x4), M5))) :=
  (DD_ex GR2 MT 11 d r_m_knownIn (r_m_knownIn.drop 20) [(0, vR 12 179), (1, vI p1), (2, vI p2)] [] M).trans rfl
set_option maxRecDepth 100000 in
set_option maxHeartbeats 4000000 in
theorem q_m_storeIn (p1 : Int) (d : Nat) (M : Mem) : C2 d j_m_storeIn [vR 12 179, vI p1] M = (bI (C2 d j_m_isIn [vL p1, vL 0, vL 200] (putI (putI M 179 1 0) 179 0 0)) fun x2 M1 => if x2 = 0 then (bI (C2 d j_m_refuse [vR 12 179, vI 5] M1) fun x4 M3 => some (some (vI x4), M3)) else (bV (C2 d j_m_keeps [vR 12 179] M1) fun M5 => E2 d r_m_storeIn 20 [(0, vR 12 179), (1, vI p1), (2, vI 0)] [] M5)) :=
  (DD_ex GR2 MT 18 d r_m_storeIn r_m_storeIn [(0, vR 12 179), (1, vI p1)] [] M).trans rfl
set_option maxRecDepth 100000 in
set_option maxHeartbeats 4000000 in
theorem q_m_storeIn_20 (p1 : Int) (p2 : Int) (d : Nat) (M : Mem) : E2 d r_m_storeIn 20 [(0, vR 12 179), (1, vI p1), (2, vI p2)] [] M = (if p2 < p1 then (bI (C2 d j_m_goesYear [vR 12 179] M) fun x2 M1 => E2 d r_m_storeIn 20 [(0, vR 12 179), (1, vI p1), (2, vI (w32 (p2 + 1)))] [] M1) else (bV (C2 d j_m_returns [vR 12 179] M) fun M3 => some (some (vI (M.1 184 7)), M3))) :=
  (DD_ex GR2 MT 13 d r_m_storeIn (r_m_storeIn.drop 20) [(0, vR 12 179), (1, vI p1), (2, vI p2)] [] M).trans rfl
set_option maxRecDepth 100000 in
set_option maxHeartbeats 4000000 in
theorem q_m_pace (d : Nat) (M : Mem) : C2 d j_m_pace [vR 12 179] M = (E2 d r_m_pace 10 [(0, vR 12 179), (1, vI 100), (2, vI 0)] [] (putI (putI M 179 1 0) 179 0 0)) :=
  (DD_ex GR2 MT 12 d r_m_pace r_m_pace [(0, vR 12 179)] [] M).trans rfl
set_option maxRecDepth 100000 in
set_option maxHeartbeats 4000000 in
theorem q_m_pace_10 (p1 : Int) (p2 : Int) (d : Nat) (M : Mem) : E2 d r_m_pace 10 [(0, vR 12 179), (1, vI p1), (2, vI p2)] [] M = (if p2 < (M.1 184 0) then (if 0 ≤ (w32 (9 + p2)) ∧ (w32 (9 + p2)) < 1725 then (bI (C2 d j_math_min_I [vI p1, vI (M.1 184 (w32 (9 + p2)).toNat)] M) fun x2 M1 => E2 d r_m_pace 10 [(0, vR 12 179), (1, vI x2), (2, vI (w32 (p2 + 1)))] [] M1) else none) else (if (M.1 184 0) = 0 then (bI (C2 d j_m_refuse [vR 12 179, vI 8] M) fun x4 M3 => some (some (vI x4), M3)) else (some (some (vI (w32 (p1 - 1))), M)))) :=
  (DD_ex GR2 MT 19 d r_m_pace (r_m_pace.drop 10) [(0, vR 12 179), (1, vI p1), (2, vI p2)] [] M).trans rfl
set_option maxRecDepth 100000 in
set_option maxHeartbeats 4000000 in
theorem q_m_jarsFor (p1 : Int) (d : Nat) (M : Mem) : C2 d j_m_jarsFor [vR 12 179, vI p1] M = (bI (C2 d j_m_isIn [vL p1, vL 0, vL 200] (putI (putI M 179 1 0) 179 0 0)) fun x2 M1 => if x2 = 0 then (bI (C2 d j_m_refuse [vR 12 179, vI 5] M1) fun x4 M3 => some (some (vI x4), M3)) else (if (M1.1 184 0) = 0 then (bI (C2 d j_m_refuse [vR 12 179, vI 8] M1) fun x6 M5 => some (some (vI x6), M5)) else (E2 d r_m_jarsFor 31 [(0, vR 12 179), (1, vI p1), (2, vI 0), (3, vI 0), (4, vI 0)] [] M1))) :=
  (DD_ex GR2 MT 25 d r_m_jarsFor r_m_jarsFor [(0, vR 12 179), (1, vI p1)] [] M).trans rfl
set_option maxRecDepth 100000 in
set_option maxHeartbeats 4000000 in
theorem q_m_jarsFor_31 (p1 : Int) (p2 : Int) (p3 : Int) (p4 : Int) (d : Nat) (M : Mem) : E2 d r_m_jarsFor 31 [(0, vR 12 179), (1, vI p1), (2, vI p2), (3, vI p3), (4, vI p4)] [] M = (if p4 < p1 then (if 0 < p2 then (bI (C2 d j_m_wouldFade [vR 12 179, vI (w32 (p3 + 1)), vI 1] M) fun x2 M1 => if x2 = 0 then (E2 d r_m_jarsFor 31 [(0, vR 12 179), (1, vI p1), (2, vI p2), (3, vI (w32 (p3 + 1))), (4, vI (w32 (p4 + 1)))] [] M1) else (bI (C2 d j_m_wouldFade [vR 12 179, vI 1, vI 1] M1) fun x4 M3 => if x4 = 0 then (E2 d r_m_jarsFor 31 [(0, vR 12 179), (1, vI p1), (2, vI (w32 (p2 + 1))), (3, vI 1), (4, vI (w32 (p4 + 1)))] [] M3) else (bI (C2 d j_m_refuse [vR 12 179, vI 8] M3) fun x6 M5 => some (some (vI x6), M5)))) else (bI (C2 d j_m_wouldFade [vR 12 179, vI (w32 (p3 + 1)), vI 0] M) fun x8 M7 => if x8 = 0 then (E2 d r_m_jarsFor 31 [(0, vR 12 179), (1, vI p1), (2, vI p2), (3, vI (w32 (p3 + 1))), (4, vI (w32 (p4 + 1)))] [] M7) else (bI (C2 d j_m_wouldFade [vR 12 179, vI 1, vI 1] M7) fun x10 M9 => if x10 = 0 then (E2 d r_m_jarsFor 31 [(0, vR 12 179), (1, vI p1), (2, vI (w32 (p2 + 1))), (3, vI 1), (4, vI (w32 (p4 + 1)))] [] M9) else (bI (C2 d j_m_refuse [vR 12 179, vI 8] M9) fun x12 M11 => some (some (vI x12), M11))))) else (some (some (vI p2), M))) :=
  (DD_ex GR2 MT 25 d r_m_jarsFor (r_m_jarsFor.drop 31) [(0, vR 12 179), (1, vI p1), (2, vI p2), (3, vI p3), (4, vI p4)] [] M).trans rfl
