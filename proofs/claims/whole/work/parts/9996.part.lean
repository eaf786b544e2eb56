section Part
variable (d : Nat) {f : Nat → Int} {n T i : Nat} {X Y : Mem}
theorem any_x {c : Int} {r : Option Res} (hr : r = some (some (vL c), Y)) : ∃ b, (bL r fun x2 M1 => bI (C2 d j_m_isWord [vR 12 179, vL x2] M1) fun x4 M3 => if x4 = 0 ∨ x4 = 1 then some (some (vI x4), M3) else none) = some (some (vI (b01 b)), Y) := by
  obtain ⟨b, hb⟩ := any_word (Y := Y) d c
  exact ⟨b, by rw [hr, bL_k, bI_b hb]⟩
theorem any_fades : ∃ b, C2 d j_m_isFades [vR 12 179] Y = some (some (vI (b01 b)), Y) := by
  rw [q_m_isFades]
  exact any_x d (c := keyC.getD 4 0) (by rw [q_m_spelled]; rfl)
theorem any_ways : ∃ b, C2 d j_m_isWays [vR 12 179] Y = some (some (vI (b01 b)), Y) := by
  rw [q_m_isWays]
  exact any_x d (c := keyC.getD 5 0) (by rw [q_m_spelled]; rfl)
theorem any_written : ∃ b, C2 d j_m_isWritten [vR 12 179] Y = some (some (vI (b01 b)), Y) := by
  have e : C2 d j_m_spelled [vI 119, vI 114, vI 105, vI 116, vI 116, vI 101] Y = some (some (vL 790942341), Y) := by rw [q_m_spelled] <;> rfl
  obtain ⟨b, hb⟩ := any_word (Y := Y) d (w64 (w64 (790942341 * 32) + 14))
  exact ⟨b, by rw [q_m_isWritten, e, bL_k, bI_b hb]⟩
/-- the reference's tails of a part -/
noncomputable def pT (x2 a b : Int) (M9 : Mem) : Option Res := bI (C2 d j_m_isWritten [vR 12 179] M9) fun x12 M11 => bI (C2 d j_m_perhaps [vR 12 179, vI x12] M11) fun x14 M13 => if 0 < (M13.1 179 12) then (some (none, M13)) else (if 0 ≤ (w32 (1389 + x2)) ∧ (w32 (1389 + x2)) < 1725 then (if 0 ≤ (w32 (1395 + x2)) ∧ (w32 (1395 + x2)) < 1725 then (if x14 = 0 then (if 0 ≤ (w32 (1401 + x2)) ∧ (w32 (1401 + x2)) < 1725 then (some (none, (putI (putI (putI (putI M13 184 (w32 (1389 + x2)).toNat a) 184 (w32 (1395 + x2)).toNat b) 184 (w32 (1401 + x2)).toNat 0) 184 1380 (w32 (((putI (putI (putI M13 184 (w32 (1389 + x2)).toNat a) 184 (w32 (1395 + x2)).toNat b) 184 (w32 (1401 + x2)).toNat 0).1 184 1380) + 1))))) else none) else (if 0 ≤ (w32 (1401 + x2)) ∧ (w32 (1401 + x2)) < 1725 then (some (none, (putI (putI (putI (putI M13 184 (w32 (1389 + x2)).toNat a) 184 (w32 (1395 + x2)).toNat b) 184 (w32 (1401 + x2)).toNat 1) 184 1380 (w32 (((putI (putI (putI M13 184 (w32 (1389 + x2)).toNat a) 184 (w32 (1395 + x2)).toNat b) 184 (w32 (1401 + x2)).toNat 1).1 184 1380) + 1))))) else none)) else none) else none)
noncomputable def ptW (x2 a : Int) (M : Mem) : Option Res := bI (C2 d j_m_isWays [vR 12 179] M) fun x8 M7 => bI (C2 d j_m_perhaps [vR 12 179, vI x8] M7) fun x10 M9 => if x10 = 0 then pT d x2 a 3 M9 else bI (C2 d j_m_count [vR 12 179, vI 1, vI 9] M9) fun x16 M15 => pT d x2 a x16 M15
noncomputable def pF (x2 : Int) (M : Mem) : Option Res := bI (C2 d j_m_isFades [vR 12 179] M) fun x4 M3 => bI (C2 d j_m_perhaps [vR 12 179, vI x4] M3) fun x6 M5 => if x6 = 0 then ptW d x2 30 M5 else bI (C2 d j_m_count [vR 12 179, vI 1, vI 99] M5) fun x22 M21 => ptW d x2 x22 M21
theorem m_part : C2 d j_m_readPartOf [vR 12 179] Y = bI (C2 d j_m_readNew [vR 12 179, vI 0, vI 6] Y) fun x2 M1 => pF d x2 M1 := q_m_readPartOf d Y
/-- the class's -/
noncomputable def cT (M : Mem) : Option Res := if (M.1 3 10) = 6 then (bV (C2 d j_rd_advance [vR 8 3] (putI M 39 6 (xor32 (M.1 39 6) (xshl 1 (w32 ((M.1 39 7) - 1)))))) fun M11 => some (some (vI 1), M11)) else (some (some (vI 1), M))
noncomputable def cW (a5 : Nat) (M : Mem) : Option Res := bI (C2 d j_rd_takeOptional [vR 8 3, vI 5, vI 1, vI 9, vI 3] M) fun x10 M9 => if x10 = 0 then (some (some (vI 0), M9)) else cT d (putI M9 a5 2 (M9.1 3 11))
noncomputable def cF (a5 : Nat) (M : Mem) : Option Res := bI (C2 d j_rd_takeOptional [vR 8 3, vI 4, vI 1, vI 99, vI 30] M) fun x8 M7 => if x8 = 0 then (some (some (vI 0), M7)) else cW d a5 (putI M7 a5 1 (M7.1 3 11))
theorem c_prt : C2 d j_er_parsePart [vR 2 8, vR 8 3, vR 1 39] X = (if (X.1 39 7) < 6 then (bV (C2 d j_rd_advance [vR 8 3] X) fun M1 => bI (C2 d j_er_checkNewName [vR 2 8, vR 8 3, vR 1 39] M1) fun x3 M2 => if x3 = 0 then (some (some (vI 0), M2)) else (bR 5 (C2 d j_em_addPart [vR 1 39, vL (M2.2.1 3 9)] M2) fun a5 M4 => bV (C2 d j_rd_advance [vR 8 3] M4) fun M6 => cF d a5 M6)) else (bI (C2 d j_rd_fail [vR 8 3, vI 6] X) fun x13 M12 => if x13 = 0 ∨ x13 = 1 then some (some (vI x13), M12) else none)) := q_er_parsePart 39 d X
/-- where a fault stands -/
theorem pT_f (h : 0 < Y.1 179 12) (x2 a b : Int) : pT d x2 a b Y = some (none, Y) := by
  obtain ⟨w, hw⟩ := any_written (Y := Y) d
  unfold pT
  rw [hw, bI_k, f_perh d h, bI_k, if_pos h]
theorem ptW_f (h : 0 < Y.1 179 12) (x2 a : Int) : ptW d x2 a Y = some (none, Y) := by
  obtain ⟨w, hw⟩ := any_ways (Y := Y) d
  unfold ptW
  rw [hw, bI_k, f_perh d h, bI_k, if_pos rfl, pT_f d h]
theorem pF_f (h : 0 < Y.1 179 12) (x2 : Int) : pF d x2 Y = some (none, Y) := by
  obtain ⟨w, hw⟩ := any_fades (Y := Y) d
  unfold pF
  rw [hw, bI_k, f_perh d h, bI_k, if_pos rfl, ptW_f d h]
theorem ft_rfl {A : Mem} : FT A A := ⟨fun _ _ => ⟨rfl, rfl⟩, fun _ _ => rfl, fun _ _ => rfl⟩
/-- a stage: the ways -/
theorem s_ways (h : RT X Y f n T i) (h0 : Y.1 179 12 = 0) (a5 : Nat) (x2 a : Int) : (∃ (X1 Y1 : Mem) (v : Int) (j : Nat), i ≤ j ∧ RT X1 Y1 f n T j ∧ Y1.1 179 12 = 0 ∧ (1 ≤ v ∧ v ≤ 9) ∧ FZ X X1 ∧ FT Y Y1 ∧ cW d a5 X = cT d (putI X1 a5 2 v) ∧ ptW d x2 a Y = pT d x2 a v Y1) ∨ (∃ X1 Y1 : Mem, cW d a5 X = some (some (vI 0), X1) ∧ ptW d x2 a Y = some (none, Y1) ∧ BdO X Y X1 Y1) := by
  have hi := h.2.1
  unfold cW ptW
  rw [is_ways d h.2.2.2.2, bI_k]
  rcases t_opt d h h0 5 1 9 3 with ⟨c, t1, t2, t3⟩ | ⟨X1, Y1, Y2, b, v, t1, t2, t3, t4⟩
  · refine Or.inl ⟨putI X 3 11 3, Y, 3, i, Nat.le_refl _, t3, h0, by decide, FZ.p, ft_rfl, ?_, ?_⟩
    · rw [t1, bI_k, if_neg (by decide), pI_s]
    · rw [t2, bI_k, if_pos rfl]
  · rcases t4 with ⟨rfl, ⟨r1, r2, r3, r4⟩, r5, r6⟩ | ⟨rfl, rfl, r1⟩
    · refine Or.inl ⟨X1, Y2, v, _, ?_, r1, r2, r6, r3, r4, ?_, ?_⟩
      · omega
      · rw [t1, bI_k, if_neg (by decide), r5]
      · rw [t2, bI_k, if_neg (by decide), t3, bI_k]
    · refine Or.inr ⟨X1, Y2, ?_, ?_, r1⟩
      · rw [t1, bI_k, if_pos b01_f]
      · rw [t2, bI_k, if_neg (by decide), t3, bI_k, pT_f d r1.1.pos]
theorem s_fades (h : RT X Y f n T i) (h0 : Y.1 179 12 = 0) (a5 : Nat) (x2 : Int) : (∃ (X1 Y1 : Mem) (v : Int) (j : Nat), i ≤ j ∧ RT X1 Y1 f n T j ∧ Y1.1 179 12 = 0 ∧ (1 ≤ v ∧ v ≤ 99) ∧ FZ X X1 ∧ FT Y Y1 ∧ cF d a5 X = cW d a5 (putI X1 a5 1 v) ∧ pF d x2 Y = ptW d x2 v Y1) ∨ (∃ X1 Y1 : Mem, cF d a5 X = some (some (vI 0), X1) ∧ pF d x2 Y = some (none, Y1) ∧ BdO X Y X1 Y1) := by
  have hi := h.2.1
  unfold cF pF
  rw [is_fades d h.2.2.2.2, bI_k]
  rcases t_opt d h h0 4 1 99 30 with ⟨c, t1, t2, t3⟩ | ⟨X1, Y1, Y2, b, v, t1, t2, t3, t4⟩
  · refine Or.inl ⟨putI X 3 11 30, Y, 30, i, Nat.le_refl _, t3, h0, by decide, FZ.p, ft_rfl, ?_, ?_⟩
    · rw [t1, bI_k, if_neg (by decide), pI_s]
    · rw [t2, bI_k, if_pos rfl]
  · rcases t4 with ⟨rfl, ⟨r1, r2, r3, r4⟩, r5, r6⟩ | ⟨rfl, rfl, r1⟩
    · refine Or.inl ⟨X1, Y2, v, _, ?_, r1, r2, r6, r3, r4, ?_, ?_⟩
      · omega
      · rw [t1, bI_k, if_neg (by decide), r5]
      · rw [t2, bI_k, if_neg (by decide), t3, bI_k]
    · refine Or.inr ⟨X1, Y2, ?_, ?_, r1⟩
      · rw [t1, bI_k, if_pos b01_f]
      · rw [t2, bI_k, if_neg (by decide), t3, bI_k, ptW_f d r1.1.pos]
/-- the last stage: written, or not -/
theorem s_written (h : RT X Y f n T i) (h0 : Y.1 179 12 = 0) {c : Nat} (c6 : c < 6) (a b : Int) : ∃ (X' Y' Y1 : Mem) (wr : Bool) (j : Nat), cT d X = some (some (vI 1), X') ∧ pT d (c : Int) a b Y = some (none, Y') ∧ i ≤ j ∧ RT X' Y' f n T j ∧ Y'.1 179 12 = 0 ∧ X'.1 39 6 = (bif wr then xor32 (X.1 39 6) (xshl 1 (w32 ((X.1 39 7) - 1))) else X.1 39 6) ∧ (∀ k, k ≠ 6 → X'.1 39 k = X.1 39 k) ∧ (∀ q, q ≠ 3 → q ≠ 39 → X'.1 q = X.1 q) ∧ (∀ q, q ≠ 3 → X'.2.1 q = X.2.1 q) ∧ FT Y Y1 ∧ Y' = putI (putI (putI (putI Y1 184 (1389 + c) a) 184 (1395 + c) b) 184 (1401 + c) (b01 wr)) 184 1380 (w32 ((Y1.1 184 1380) + 1)) := by
  have hi := h.2.1
  have k10 : X.1 3 10 = kwI (wdF f n (tkA f n i)) := h.2.2.1.2.2.2.1
  have w1 : ∀ _ : Unit, w32 (1389 + (c : Int)) = ((1389 + c : Nat) : Int) := by intro _; rw [w32s (by omega)]; omega
  have w2 : ∀ _ : Unit, w32 (1395 + (c : Int)) = ((1395 + c : Nat) : Int) := by intro _; rw [w32s (by omega)]; omega
  have w3 : ∀ _ : Unit, w32 (1401 + (c : Int)) = ((1401 + c : Nat) : Int) := by intro _; rw [w32s (by omega)]; omega
  have b1 : ∀ _ : Unit, (0 : Int) ≤ ((1389 + c : Nat) : Int) ∧ ((1389 + c : Nat) : Int) < 1725 := by intro _; omega
  have b2 : ∀ _ : Unit, (0 : Int) ≤ ((1395 + c : Nat) : Int) ∧ ((1395 + c : Nat) : Int) < 1725 := by intro _; omega
  have b3 : ∀ _ : Unit, (0 : Int) ≤ ((1401 + c : Nat) : Int) ∧ ((1401 + c : Nat) : Int) < 1725 := by intro _; omega
  have n1 : ∀ _ : Unit, (1380 : Nat) ≠ 1389 + c := by intro _; omega
  have n2 : ∀ _ : Unit, (1380 : Nat) ≠ 1395 + c := by intro _; omega
  have n3 : ∀ _ : Unit, (1380 : Nat) ≠ 1401 + c := by intro _; omega
  unfold cT pT
  rw [is_written d h.2.2.2.2, bI_k, k10, (w1 ()), (w2 ()), (w3 ()), Int.toNat_natCast, Int.toNat_natCast, Int.toNat_natCast]
  by_cases cw : kwI (wdF f n (tkA f n i)) = 6
  · have R1 : RT (putI X 39 6 (xor32 (X.1 39 6) (xshl 1 (w32 ((X.1 39 7) - 1))))) Y f n T i := h.x fun a ha => ⟨pI_ne (by omega), rfl⟩
    obtain ⟨X1, Y1, a1, a2, ⟨a3, a4, a5, a6⟩, a7⟩ := go d R1 h0
    have ep : C2 d j_m_perhaps [vR 12 179, vI (b01 (decide (kwI (wdF f n (tkA f n i)) = 6)))] Y = some (some (vI 1), Y1) := by
      rw [decide_eq_true cw, q_m_perhaps, h0, if_neg (by decide), if_neg (by decide), a2, bV_k]
    rw [if_pos cw, a1, bV_k, ep, bI_k, a4, if_neg (by decide), if_pos (b1 ()), if_pos (b2 ()), if_neg (by decide), if_pos (b3 ()), pI_nk (n3 ()), pI_nk (n2 ()), pI_nk (n1 ())]
    refine ⟨_, _, Y1, true, _, rfl, rfl, ?_, (((a3.y184).y184).y184).y184, ?_, ?_, ?_, ?_, ?_, a6, rfl⟩
    · omega
    · rw [pI_ne (by decide), pI_ne (by decide), pI_ne (by decide), pI_ne (by decide)]; exact a4
    · rw [(a5 39 (by decide)).1, pI_s] <;> rfl
    · intro k hk; rw [(a5 39 (by decide)).1, pI_nk hk]
    · intro q q1 q2; rw [(a5 q q1).1, pI_ne q2]
    · intro q q1; exact (a5 q q1).2
  · have ep : C2 d j_m_perhaps [vR 12 179, vI (b01 (decide (kwI (wdF f n (tkA f n i)) = 6)))] Y = some (some (vI 0), Y) := by
      rw [decide_eq_false cw, q_m_perhaps, h0, if_neg (by decide), if_pos b01_f]
    rw [if_neg cw, ep, bI_k, h0, if_neg (by decide), if_pos (b1 ()), if_pos (b2 ()), if_pos rfl, if_pos (b3 ()), pI_nk (n3 ()), pI_nk (n2 ()), pI_nk (n1 ())]
    refine ⟨_, _, Y, false, i, rfl, rfl, Nat.le_refl _, (((h.y184).y184).y184).y184, ?_, rfl, fun _ _ => rfl, fun _ _ _ => rfl, fun _ _ => rfl, ft_rfl, rfl⟩
    rw [pI_ne (by decide), pI_ne (by decide), pI_ne (by decide), pI_ne (by decide)]; exact h0
end Part
