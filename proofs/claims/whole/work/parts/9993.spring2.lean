section Spring2
variable (d : Nat) {f : Nat → Int} {n T i : Nat} {X Y : Mem}
theorem mn4 {i T : Nat} (h : i ≤ T) : i ≤ min (min (min (min (i + 1) T + 1) T + 1) T + 1) T := by omega
theorem pos_ne {x : Int} (h : 0 < x) : ¬ x = 0 := by omega
theorem Bad.y184 {k : Nat} {v : Int} (h : Bad X Y) : Bad X (putI Y 184 k v) := by
  obtain ⟨p, q, p0, p1, p2, p3, p4⟩ := h
  exact ⟨p, q, p0, p1, p2, by rw [pI_ne (by decide)]; exact p3, by rw [pI_ne (by decide)]; exact p4⟩
theorem RT.y184 {k : Nat} {v : Int} (h : RT X Y f n T i) : RT X (putI Y 184 k v) f n T i := by
  obtain ⟨q1, q2, q3, q4, q5⟩ := h
  exact ⟨q1, q2, q3, ⟨fun k hk => by rw [pI_ne (by decide)]; exact q4.1 k hk, by rw [pI_ne (by decide)]; exact q4.2.1, q4.2.2⟩, by
    unfold TS
    rw [pI_ne (by decide)]
    exact q5⟩
/-- the two numbers of a spring -/
theorem spr_tail (h : RT X Y f n T i) (h0 : Y.1 179 12 = 0) {c a : Nat} (c4 : c < 4) (ha : a = 39 + 3 + 21 + 1 * c) : ∃ X' Y' b, (bI (C2 d j_rd_takeWordAndNumber [vR 8 3, vI 12, vI 0, vI 999] X) fun x8 M7 => if x8 = 0 then (some (some (vI 0), M7)) else (bI (C2 d j_rd_takeWordAndNumber [vR 8 3, vI 13, vI 0, vI 99] (putI M7 a 1 (M7.1 3 11))) fun x10 M9 => if x10 = 0 then (some (some (vI 0), M9)) else (some (some (vI 1), (putI M9 a 2 (M9.1 3 11)))))) = some (some (vI (b01 b)), X')
    ∧ (bI (C2 d j_m_isAt [vR 12 179] Y) fun x4 M3 => bI (C2 d j_m_behindWord [vR 12 179, vI x4, vI 0, vI 999] M3) fun x6 M5 => if 0 ≤ (w32 (1445 + (c : Int))) ∧ (w32 (1445 + (c : Int))) < 1725 then (bI (C2 d j_m_isGives [vR 12 179] (putI M5 184 (w32 (1445 + (c : Int))).toNat x6)) fun x8 M7 => bI (C2 d j_m_behindWord [vR 12 179, vI x8, vI 0, vI 99] M7) fun x10 M9 => if 0 ≤ (w32 (1449 + (c : Int))) ∧ (w32 (1449 + (c : Int))) < 1725 then (if ((putI M9 184 (w32 (1449 + (c : Int))).toNat x10).1 179 12) = 0 then (some (none, (putI (putI M9 184 (w32 (1449 + (c : Int))).toNat x10) 184 1382 (w32 (((putI M9 184 (w32 (1449 + (c : Int))).toNat x10).1 184 1382) + 1))))) else (some (none, (putI M9 184 (w32 (1449 + (c : Int))).toNat x10)))) else none) else none) = some (none, Y')
    ∧ FE X X' ∧ FN Y Y' ∧ ((b = true ∧ ∃ (j : Nat) (v1 v2 : Int), i ≤ j ∧ RT X' Y' f n T j ∧ Y'.1 179 12 = 0 ∧ (0 ≤ v1 ∧ v1 ≤ 999) ∧ (0 ≤ v2 ∧ v2 ≤ 99) ∧ X'.1 a 1 = v1 ∧ X'.1 a 2 = v2 ∧ (∀ q, q ≠ 3 → q ≠ a → X'.1 q = X.1 q) ∧ (∀ q, q ≠ 3 → X'.2.1 q = X.2.1 q) ∧ (∀ k, k ≠ 1382 → k ≠ 1445 + c → k ≠ 1449 + c → Y'.1 184 k = Y.1 184 k) ∧ Y'.1 184 1382 = w32 (Y.1 184 1382 + 1) ∧ Y'.1 184 (1445 + c) = v1 ∧ Y'.1 184 (1449 + c) = v2 ∧ Y'.1 179 25 = Y.1 179 25 ∧ Y'.2.1 187 = Y.2.1 187) ∨ (b = false ∧ Bad X' Y')) := by
  have w45 : w32 (1445 + (c : Int)) = ((1445 + c : Nat) : Int) := by
    clear h h0
    rw [w32s (by omega)]; omega
  have w49 : w32 (1449 + (c : Int)) = ((1449 + c : Nat) : Int) := by
    clear h h0
    rw [w32s (by omega)]; omega
  have b45 : (0 : Int) ≤ ((1445 + c : Nat) : Int) ∧ ((1445 + c : Nat) : Int) < 1725 := by
    clear h h0 w45 w49
    omega
  have b49 : (0 : Int) ≤ ((1449 + c : Nat) : Int) ∧ ((1449 + c : Nat) : Int) < 1725 := by
    clear h h0 w45 w49
    omega
  have d1 : a ≠ 3 := by clear h h0; omega
  have d2 : 39 ≤ a ∧ a < 67 := by clear h h0; omega
  have d3 : ∀ k, (3 ≤ k ∧ k ≤ 7) → k ≠ a := by clear h h0; intro k hk; omega
  have d4 : (1382 : Nat) ≠ 1449 + c := by clear h h0; omega
  have d5 : (1382 : Nat) ≠ 1445 + c := by clear h h0; omega
  have d6 : 1445 + c ≠ 1449 + c := by clear h h0; omega
  have d7 : 1380 ≤ 1445 + c ∧ ¬ (1407 ≤ 1445 + c ∧ 1445 + c < 1413) ∧ ¬ (1437 ≤ 1445 + c ∧ 1445 + c < 1445) := by clear h h0; omega
  have d8 : 1380 ≤ 1449 + c ∧ ¬ (1407 ≤ 1449 + c ∧ 1449 + c < 1413) ∧ ¬ (1437 ≤ 1449 + c ∧ 1449 + c < 1445) := by clear h h0; omega
  clear ha c4
  obtain ⟨X1, Y1, b1, v1, a1, a2, a3⟩ := t_wn d h h0 12 0 999
  rw [a1, bI_k, is_at d h.2.2.2.2, bI_k, a2, bI_k, w45, w49, if_pos b45, Int.toNat_natCast, Int.toNat_natCast]
  simp only [if_pos b49]
  rcases a3 with ⟨rfl, ⟨r1, r2, r3, r4⟩, r5, r6, r7⟩ | ⟨rfl, rfl, r1⟩
  · rw [if_neg (by decide), r5]
    have R2 : RT (putI X1 a 1 v1) (putI Y1 184 (1445 + c) v1) f n T _ := (r1.y184).x fun q hq => ⟨pI_ne (d3 q hq), rfl⟩
    have h2 : (putI Y1 184 (1445 + c) v1).1 179 12 = 0 := by rw [pI_ne (by decide)]; exact r2
    obtain ⟨X3, Y3, b3, v3, e1, e2, e3⟩ := t_wn d R2 h2 13 0 99
    rw [e1, bI_k, is_gives d R2.2.2.2.2, bI_k, e2, bI_k]
    have FE1 : FE X (putI X1 a 1 v1) := r3.e.tr (FE.p (Or.inr (Or.inr d2)))
    have FN1 : FN Y (putI Y1 184 (1445 + c) v1) := (fw_n r4.w).tr (FN.p d7)
    rcases e3 with ⟨rfl, ⟨s1, s2, s3, s4⟩, s5, s6, s7⟩ | ⟨rfl, rfl, s1⟩
    · rw [if_neg (by decide), s5, if_pos (show (putI Y3 184 (1449 + c) v3).1 179 12 = 0 by rw [pI_ne (by decide)]; exact s2)]
      have y4 : Y3.1 184 = (putI Y1 184 (1445 + c) v1).1 184 := (s4.1 184 (by decide)).1
      have y1 : Y1.1 184 = Y.1 184 := (r4.1 184 (by decide)).1
      refine ⟨_, _, true, rfl, rfl, (FE1.tr s3.e).tr (FE.p (Or.inr (Or.inr d2))), ((FN1.tr (fw_n s4.w)).tr (FN.p d8)).tr (FN.p (by decide)), Or.inl ⟨rfl, _, v1, v3, ?_, ((s1.y184).y184).x fun q hq => ⟨pI_ne (d3 q hq), rfl⟩, ?_, ⟨r6, r7⟩, ⟨s6, s7⟩, ?_, pI_s, fun q q1 q2 => ?_, fun q q1 => ?_, fun k k1 k2 k3 => ?_, ?_, ?_, ?_, ?_, ?_⟩⟩
      · exact mn4 h.2.1
      · rw [pI_ne (by decide), pI_ne (by decide)]; exact s2
      · rw [pI_nk (by decide), (s3 a d1).1]; exact pI_s
      · rw [pI_ne q2, (s3 q q1).1, pI_ne q2, (r3 q q1).1]
      · exact ((s3 q q1).2).trans (r3 q q1).2
      · rw [pI_nk k1, pI_nk k3, y4, pI_nk k2, y1]
      · rw [pI_s]
        show w32 ((putI Y3 184 (1449 + c) v3).1 184 1382 + 1) = _
        rw [pI_nk d4, y4, pI_nk d5, y1]
      · rw [pI_nk d5.symm, pI_nk d6, y4, pI_s]
      · rw [pI_nk d4.symm, pI_s]
      · rw [pI_ne (by decide), pI_ne (by decide), s4.2.1 25 (by decide), pI_ne (by decide), r4.2.1 25 (by decide)]
      · exact ((s4.1 187 (by decide)).2).trans (r4.1 187 (by decide)).2
    · rw [if_pos b01_f, if_neg (show ¬ (putI Y3 184 (1449 + c) 0).1 179 12 = 0 by rw [pI_ne (by decide)]; exact pos_ne s1.1.pos)]
      exact ⟨_, _, false, rfl, rfl, FE1.tr s1.2.1.e, (FN1.tr (fw_n s1.2.2)).tr (FN.p d8), Or.inr ⟨rfl, s1.1.y184⟩⟩
  · rw [if_pos b01_f]
    obtain ⟨b, hb⟩ := any_gives (Y := putI Y1 184 (1445 + c) 0) d
    have hp : 0 < (putI Y1 184 (1445 + c) 0).1 179 12 := by rw [pI_ne (by decide)]; exact r1.1.pos
    rw [hb, bI_k, f_behind d hp, bI_k, if_neg (show ¬ (putI (putI Y1 184 (1445 + c) 0) 184 (1449 + c) 0).1 179 12 = 0 by rw [pI_ne (by decide)]; exact pos_ne hp)]
    exact ⟨_, _, false, rfl, rfl, r1.2.1.e, ((fw_n r1.2.2).tr (FN.p d7)).tr (FN.p d8), Or.inr ⟨rfl, r1.1.y184.y184⟩⟩
end Spring2
