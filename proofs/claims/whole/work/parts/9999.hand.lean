section Hand
variable (d : Nat) {f : Nat → Int} {n T i : Nat} {X Y : Mem}
theorem any_age : ∃ b, C2 d j_m_isAge [vR 12 179] Y = some (some (vI (b01 b)), Y) := by
  rw [q_m_isAge]
  exact any_x d (c := keyC.getD 8 0) (by rw [q_m_spelled]; rfl)
theorem any_price : ∃ b, C2 d j_m_isPrice [vR 12 179] Y = some (some (vI (b01 b)), Y) := by
  rw [q_m_isPrice]
  exact any_x d (c := keyC.getD 9 0) (by rw [q_m_spelled]; rfl)
theorem any_knows : ∃ b, C2 d j_m_isKnows [vR 12 179] Y = some (some (vI (b01 b)), Y) := by
  rw [q_m_isKnows]
  exact any_x d (c := keyC.getD 10 0) (by rw [q_m_spelled]; rfl)
/-- the reference's tails of a hand -/
def hrN (x2 a b s : Int) (M : Mem) : Option Res := if 0 < (M.1 179 12) then (some (none, M)) else (if 0 ≤ (w32 (1413 + x2)) ∧ (w32 (1413 + x2)) < 1725 then (if 0 ≤ (w32 (1421 + x2)) ∧ (w32 (1421 + x2)) < 1725 then (if 0 ≤ (w32 (1429 + x2)) ∧ (w32 (1429 + x2)) < 1725 then (some (none, (putI (putI (putI (putI M 184 (w32 (1413 + x2)).toNat a) 184 (w32 (1421 + x2)).toNat b) 184 (w32 (1429 + x2)).toNat s) 184 1381 (w32 (((putI (putI (putI M 184 (w32 (1413 + x2)).toNat a) 184 (w32 (1421 + x2)).toNat b) 184 (w32 (1429 + x2)).toNat s).1 184 1381) + 1))))) else none) else none) else none)
noncomputable def hrK (x2 a b : Int) (M : Mem) : Option Res := bI (C2 d j_m_isKnows [vR 12 179] M) fun x12 M11 => bI (C2 d j_m_perhaps [vR 12 179, vI x12] M11) fun x14 M13 => if x14 = 0 then hrN x2 a b 0 M13 else bI (C2 d j_m_readParts [vR 12 179] M13) fun x16 M15 => hrN x2 a b x16 M15
noncomputable def hrP (x2 a : Int) (M : Mem) : Option Res := bI (C2 d j_m_isPrice [vR 12 179] M) fun x8 M7 => bI (C2 d j_m_perhaps [vR 12 179, vI x8] M7) fun x10 M9 => if x10 = 0 then hrK d x2 a 10 M9 else bI (C2 d j_m_count [vR 12 179, vI 0, vI 99] M9) fun x18 M17 => hrK d x2 a x18 M17
noncomputable def hrA (x2 : Int) (M : Mem) : Option Res := bI (C2 d j_m_isAge [vR 12 179] M) fun x4 M3 => bI (C2 d j_m_behindWord [vR 12 179, vI x4, vI 0, vI 99] M3) fun x6 M5 => hrP d x2 x6 M5
theorem m_hnd : C2 d j_m_readHand [vR 12 179] Y = bI (C2 d j_m_readNew [vR 12 179, vI 1, vI 8] Y) fun x2 M1 => hrA d x2 M1 := q_m_readHand d Y
/-- the class's -/
noncomputable def hcK (a5 : Nat) (M : Mem) : Option Res := if (M.1 3 10) = 10 then (bI (C2 d j_er_parseKnown [vR 2 8, vR 8 3, vR 1 39, vR 3 a5] M) fun x12 M11 => if x12 = 0 then (some (some (vI 0), M11)) else (some (some (vI 1), M11))) else (some (some (vI 1), M))
noncomputable def hcP (a5 : Nat) (M : Mem) : Option Res := bI (C2 d j_rd_takeOptional [vR 8 3, vI 9, vI 0, vI 99, vI 10] M) fun x10 M9 => if x10 = 0 then (some (some (vI 0), M9)) else hcK d a5 (putI M9 a5 2 (M9.1 3 11))
noncomputable def hcA (a5 : Nat) (M : Mem) : Option Res := bI (C2 d j_rd_takeWordAndNumber [vR 8 3, vI 8, vI 0, vI 99] M) fun x8 M7 => if x8 = 0 then (some (some (vI 0), M7)) else hcP d a5 (putI M7 a5 1 (M7.1 3 11))
theorem c_hnd : C2 d j_er_parseHand [vR 2 8, vR 8 3, vR 1 39] X = (if (X.1 39 8) < 8 then (bV (C2 d j_rd_advance [vR 8 3] X) fun M1 => bI (C2 d j_er_checkNewName [vR 2 8, vR 8 3, vR 1 39] M1) fun x3 M2 => if x3 = 0 then (some (some (vI 0), M2)) else (bR 3 (C2 d j_em_addHand [vR 1 39, vL (M2.2.1 3 9)] M2) fun a5 M4 => bV (C2 d j_rd_advance [vR 8 3] M4) fun M6 => hcA d a5 M6)) else (bI (C2 d j_rd_fail [vR 8 3, vI 6] X) fun x13 M12 => if x13 = 0 ∨ x13 = 1 then some (some (vI x13), M12) else none)) := q_er_parseHand 39 d X
theorem hN_f (h : 0 < Y.1 179 12) (x2 a b s : Int) : hrN x2 a b s Y = some (none, Y) := if_pos h
theorem hK_f (h : 0 < Y.1 179 12) (x2 a b : Int) : hrK d x2 a b Y = some (none, Y) := by
  obtain ⟨w, hw⟩ := any_knows (Y := Y) d
  unfold hrK
  rw [hw, bI_k, f_perh d h, bI_k, if_pos rfl, hN_f h]
theorem hP_f (h : 0 < Y.1 179 12) (x2 a : Int) : hrP d x2 a Y = some (none, Y) := by
  obtain ⟨w, hw⟩ := any_price (Y := Y) d
  unfold hrP
  rw [hw, bI_k, f_perh d h, bI_k, if_pos rfl, hK_f d h]
theorem hA_f (h : 0 < Y.1 179 12) (x2 : Int) : hrA d x2 Y = some (none, Y) := by
  obtain ⟨w, hw⟩ := any_age (Y := Y) d
  unfold hrA
  rw [hw, bI_k, f_behind d h, bI_k, hP_f d h]
theorem s_age (h : RT X Y f n T i) (h0 : Y.1 179 12 = 0) (a5 : Nat) (x2 : Int) : (∃ (X1 Y1 : Mem) (v : Int) (j : Nat), i ≤ j ∧ RT X1 Y1 f n T j ∧ Y1.1 179 12 = 0 ∧ (0 ≤ v ∧ v ≤ 99) ∧ FZ X X1 ∧ FT Y Y1 ∧ hcA d a5 X = hcP d a5 (putI X1 a5 1 v) ∧ hrA d x2 Y = hrP d x2 v Y1) ∨ (∃ X1 Y1 : Mem, hcA d a5 X = some (some (vI 0), X1) ∧ hrA d x2 Y = some (none, Y1) ∧ BdO X Y X1 Y1) := by
  have hi := h.2.1
  unfold hcA hrA
  rw [is_age d h.2.2.2.2, bI_k]
  obtain ⟨X1, Y1, b, v, t1, t2, t4⟩ := t_wn d h h0 8 0 99
  rcases t4 with ⟨rfl, ⟨r1, r2, r3, r4⟩, r5, r6⟩ | ⟨rfl, rfl, r1⟩
  · refine Or.inl ⟨X1, Y1, v, _, ?_, r1, r2, r6, r3, r4, ?_, ?_⟩
    · omega
    · rw [t1, bI_k, if_neg (by decide), r5]
    · rw [t2, bI_k]
  · refine Or.inr ⟨X1, Y1, ?_, ?_, r1⟩
    · rw [t1, bI_k, if_pos b01_f]
    · rw [t2, bI_k, hP_f d r1.1.pos]
theorem s_price (h : RT X Y f n T i) (h0 : Y.1 179 12 = 0) (a5 : Nat) (x2 a : Int) : (∃ (X1 Y1 : Mem) (v : Int) (j : Nat), i ≤ j ∧ RT X1 Y1 f n T j ∧ Y1.1 179 12 = 0 ∧ (0 ≤ v ∧ v ≤ 99) ∧ FZ X X1 ∧ FT Y Y1 ∧ hcP d a5 X = hcK d a5 (putI X1 a5 2 v) ∧ hrP d x2 a Y = hrK d x2 a v Y1) ∨ (∃ X1 Y1 : Mem, hcP d a5 X = some (some (vI 0), X1) ∧ hrP d x2 a Y = some (none, Y1) ∧ BdO X Y X1 Y1) := by
  have hi := h.2.1
  unfold hcP hrP
  rw [is_price d h.2.2.2.2, bI_k]
  rcases t_opt d h h0 9 0 99 10 with ⟨c, t1, t2, t3⟩ | ⟨X1, Y1, Y2, b, v, t1, t2, t3, t4⟩
  · refine Or.inl ⟨putI X 3 11 10, Y, 10, i, Nat.le_refl _, t3, h0, by decide, FZ.p, FT.rfl, ?_, ?_⟩
    · rw [t1, bI_k, if_neg (by decide), pI_s]
    · rw [t2, bI_k, if_pos rfl]
  · rcases t4 with ⟨rfl, ⟨r1, r2, r3, r4⟩, r5, r6⟩ | ⟨rfl, rfl, r1⟩
    · refine Or.inl ⟨X1, Y2, v, _, ?_, r1, r2, r6, r3, r4, ?_, ?_⟩
      · omega
      · rw [t1, bI_k, if_neg (by decide), r5]
      · rw [t2, bI_k, if_neg (by decide), t3, bI_k]
    · refine Or.inr ⟨X1, Y2, ?_, ?_, r1⟩
      · rw [t1, bI_k, if_pos b01_f]
      · rw [t2, bI_k, if_neg (by decide), t3, bI_k, hK_f d r1.1.pos]
theorem cn6_0 : cn6 0 = 0 := by
  unfold cn6
  rw [bt_0, bt_0, bt_0, bt_0, bt_0, bt_0] <;> rfl
theorem s_knows (h : RT X Y f n T i) (h0 : Y.1 179 12 = 0) {q c : Nat} (q1 : 39 < q) (hN : NP X Y c) (hx : X.1 q 3 = 0) (x2 a b : Int) : ∃ (X' Y' : Mem) (g : Bool) (s : Int), hcK d q X = some (some (vI (b01 g)), X') ∧ hrK d x2 a b Y = hrN x2 a b s Y' ∧ KO d q X Y X' Y' f n T i g s := by
  have hi := h.2.1
  have q3 : ∀ _ : Unit, q ≠ 3 := by intro _; omega
  have k10 : X.1 3 10 = kwI (wdF f n (tkA f n i)) := h.2.2.1.2.2.2.1
  unfold hcK hrK
  rw [is_knows d h.2.2.2.2, bI_k, k10]
  by_cases cw : kwI (wdF f n (tkA f n i)) = 10
  · obtain ⟨X1, Y1, a1, a2, ⟨a3, a4, a5, a6⟩, a7⟩ := go d h h0
    have ep : C2 d j_m_perhaps [vR 12 179, vI (b01 (decide (kwI (wdF f n (tkA f n i)) = 10)))] Y = some (some (vI 1), Y1) := by
      rw [decide_eq_true cw, q_m_perhaps, h0, if_neg (by decide), if_neg (by decide), a2, bV_k]
    have hN1 : NP X1 Y1 c := hN.keep (a5 39 (by decide)).1 (fun q hq => (a5 q hq).2) (a6.1 184 (by decide)).1 (a6.1 187 (by decide)).2
    obtain ⟨X', Y', g, s, e1, e2, e3⟩ := k_loop d q1 6 (min (i + 1) T) X1 Y1 0 a3 a4 hN1 (by rw [(a5 q (q3 ())).1]; exact hx) (by decide) (by rw [cn6_0])
    rw [cn6_0] at e1
    have e1' : E2 d r_er_parseKnown 4 [(1, vR 8 3), (2, vR 1 39), (3, vR 3 q), (4, vI 0)] [] X1 = some (some (vI (b01 g)), X') := e1
    refine ⟨X', Y', g, s, ?_, ?_, e3.pre d (a5.k (q3 ())) a6.w (by omega)⟩
    · rw [if_pos cw, q_er_parseKnown, a1, bV_k, e1', bI_k]
      cases g
      · rw [if_pos b01_f] <;> rfl
      · rw [if_neg (by decide)] <;> rfl
    · rw [ep, bI_k, if_neg (by decide), q_m_readParts, e2, bI_k]
  · have ep : C2 d j_m_perhaps [vR 12 179, vI (b01 (decide (kwI (wdF f n (tkA f n i)) = 10)))] Y = some (some (vI 0), Y) := by
      rw [decide_eq_false cw, q_m_perhaps, h0, if_neg (by decide), if_pos b01_f]
    refine ⟨X, Y, true, 0, ?_, ?_, FZ.rfl.k (q3 ()), FW.rfl, Or.inl ⟨rfl, i, Nat.le_refl _, h, h0, hx, by decide, by decide⟩⟩
    · rw [if_neg cw] <;> rfl
    · rw [ep, bI_k, if_pos rfl]
theorem Late.y184 {X' : Mem} {k : Nat} {v : Int} (h : Late d X' Y f n T) : Late d X' (putI Y 184 k v) f n T := by
  obtain ⟨X0, j, h1, h2, h3, h4⟩ := h
  exact ⟨X0, j, h1.y184, by rw [pI_ne (by decide)]; exact h2, h3, h4⟩
theorem hN_g (h0 : Y.1 179 12 = 0) {c : Nat} (c8 : c < 8) (a b s : Int) : hrN (c : Int) a b s Y = some (none, putI (putI (putI (putI Y 184 (1413 + c) a) 184 (1421 + c) b) 184 (1429 + c) s) 184 1381 (w32 ((Y.1 184 1381) + 1))) := by
  have w1 : ∀ _ : Unit, w32 (1413 + (c : Int)) = ((1413 + c : Nat) : Int) := by intro _; rw [w32s (by omega)]; omega
  have w2 : ∀ _ : Unit, w32 (1421 + (c : Int)) = ((1421 + c : Nat) : Int) := by intro _; rw [w32s (by omega)]; omega
  have w3 : ∀ _ : Unit, w32 (1429 + (c : Int)) = ((1429 + c : Nat) : Int) := by intro _; rw [w32s (by omega)]; omega
  have b1 : ∀ _ : Unit, (0 : Int) ≤ ((1413 + c : Nat) : Int) ∧ ((1413 + c : Nat) : Int) < 1725 := by intro _; omega
  have b2 : ∀ _ : Unit, (0 : Int) ≤ ((1421 + c : Nat) : Int) ∧ ((1421 + c : Nat) : Int) < 1725 := by intro _; omega
  have b3 : ∀ _ : Unit, (0 : Int) ≤ ((1429 + c : Nat) : Int) ∧ ((1429 + c : Nat) : Int) < 1725 := by intro _; omega
  have n1 : ∀ _ : Unit, (1381 : Nat) ≠ 1413 + c := by intro _; omega
  have n2 : ∀ _ : Unit, (1381 : Nat) ≠ 1421 + c := by intro _; omega
  have n3 : ∀ _ : Unit, (1381 : Nat) ≠ 1429 + c := by intro _; omega
  unfold hrN
  rw [if_neg (by rw [h0]; decide), (w1 ()), (w2 ()), (w3 ()), if_pos (b1 ()), if_pos (b2 ()), if_pos (b3 ()), Int.toNat_natCast, Int.toNat_natCast, Int.toNat_natCast, pI_nk (n3 ()), pI_nk (n2 ()), pI_nk (n1 ())]
end Hand
