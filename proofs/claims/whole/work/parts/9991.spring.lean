section Spring
variable (d : Nat) {f : Nat → Int} {n T i : Nat} {X Y : Mem}
theorem any_word (c : Int) : ∃ b, C2 d j_m_isWord [vR 12 179, vL c] Y = some (some (vI (b01 b)), Y) := by
  rw [q_m_isWord]
  by_cases h1 : Y.1 179 14 = 1
  · rw [if_pos h1]
    by_cases h2 : ycmp (Y.2.1 179 19) c = 0
    · rw [if_pos h2]; exact ⟨true, rfl⟩
    · rw [if_neg h2]; exact ⟨false, rfl⟩
  · rw [if_neg h1]; exact ⟨false, rfl⟩
theorem any_at : ∃ b, C2 d j_m_isAt [vR 12 179] Y = some (some (vI (b01 b)), Y) := by
  obtain ⟨b, hb⟩ := any_word (Y := Y) d 52
  refine ⟨b, ?_⟩
  have e : C2 d j_m_spelled [vI 97, vI 116, vI 0, vI 0, vI 0, vI 0] Y = some (some (vL 52), Y) := by rw [q_m_spelled]; rfl
  rw [q_m_isAt, e, bL_k, bI_b hb]
theorem any_gives : ∃ b, C2 d j_m_isGives [vR 12 179] Y = some (some (vI (b01 b)), Y) := by
  obtain ⟨b, hb⟩ := any_word (Y := Y) d (keyC.getD 13 0)
  refine ⟨b, ?_⟩
  rw [q_m_isGives]
  have e : ∀ r : Option Res, r = some (some (vL (keyC.getD 13 0)), Y) → (bL r fun x2 M1 => bI (C2 d j_m_isWord [vR 12 179, vL x2] M1) fun x4 M3 => if x4 = 0 ∨ x4 = 1 then some (some (vI x4), M3) else none) = some (some (vI (b01 b)), Y) := fun r hr => by
    rw [hr, bL_k, bI_b hb]
  exact e _ (by rw [q_m_spelled]; rfl)
/-- the second number of a spring, where a fault stands -/
theorem f_spr2 (h : 0 < Y.1 179 12) {m : Nat} (hm : m < 4) : (bI (C2 d j_m_isGives [vR 12 179] Y) fun x8 M7 => bI (C2 d j_m_behindWord [vR 12 179, vI x8, vI 0, vI 99] M7) fun x10 M9 => if 0 ≤ (w32 (1449 + (m : Int))) ∧ (w32 (1449 + (m : Int))) < 1725 then (if ((putI M9 184 (w32 (1449 + (m : Int))).toNat x10).1 179 12) = 0 then (some (none, (putI (putI M9 184 (w32 (1449 + (m : Int))).toNat x10) 184 1382 (w32 (((putI M9 184 (w32 (1449 + (m : Int))).toNat x10).1 184 1382) + 1))))) else (some (none, (putI M9 184 (w32 (1449 + (m : Int))).toNat x10)))) else none) = some (none, putI Y 184 (1449 + m) 0) := by
  obtain ⟨b, hb⟩ := any_gives (Y := Y) d
  have w : w32 (1449 + (m : Int)) = ((1449 + m : Nat) : Int) := by rw [w32s (by omega)]; omega
  rw [hb, bI_k, f_behind d h, bI_k, w, if_pos (by omega), Int.toNat_natCast, pI_ne (by decide), if_neg (by omega)]
/-- all of it -/
theorem f_spr1 (h : 0 < Y.1 179 12) {m : Nat} (hm : m < 4) {r : Option Res} (hr : r = some (some (vI (m : Int)), Y)) : (bI r fun x2 M1 => bI (C2 d j_m_isAt [vR 12 179] M1) fun x4 M3 => bI (C2 d j_m_behindWord [vR 12 179, vI x4, vI 0, vI 999] M3) fun x6 M5 => if 0 ≤ (w32 (1445 + x2)) ∧ (w32 (1445 + x2)) < 1725 then (bI (C2 d j_m_isGives [vR 12 179] (putI M5 184 (w32 (1445 + x2)).toNat x6)) fun x8 M7 => bI (C2 d j_m_behindWord [vR 12 179, vI x8, vI 0, vI 99] M7) fun x10 M9 => if 0 ≤ (w32 (1449 + x2)) ∧ (w32 (1449 + x2)) < 1725 then (if ((putI M9 184 (w32 (1449 + x2)).toNat x10).1 179 12) = 0 then (some (none, (putI (putI M9 184 (w32 (1449 + x2)).toNat x10) 184 1382 (w32 (((putI M9 184 (w32 (1449 + x2)).toNat x10).1 184 1382) + 1))))) else (some (none, (putI M9 184 (w32 (1449 + x2)).toNat x10)))) else none) else none) = some (none, putI (putI Y 184 (1445 + m) 0) 184 (1449 + m) 0) := by
  obtain ⟨b, hb⟩ := any_at (Y := Y) d
  have w : w32 (1445 + (m : Int)) = ((1445 + m : Nat) : Int) := by rw [w32s (by omega)]; omega
  rw [hr, bI_k, hb, bI_k, f_behind d h, bI_k, w, if_pos (by omega), Int.toNat_natCast]
  exact f_spr2 d (Y := putI Y 184 (1445 + m) 0) (by rw [pI_ne (by decide)]; exact h) hm
end Spring
