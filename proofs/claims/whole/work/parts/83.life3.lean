section Lf3
variable {X Y : Mem} {lf e : Nat} (d : Nat)
theorem bI_b {r : Option Res} {b : Bool} {M' : Mem} (h : r = some (some (vI (b01 b)), M')) : (bI r fun x M1 => if x = 0 ∨ x = 1 then some (some (vI x), M1) else none) = some (some (vI (b01 b)), M') := by
  rw [h, bI_k, if_pos (b01_or _)]
theorem bI_bb {r : Option Res} {f : Int → Mem → Option Res} {b : Bool} {M' : Mem} (h : (bI r f) = some (some (vI (b01 b)), M')) : (bI r fun x M1 => bI (f x M1) fun y M2 => if y = 0 ∨ y = 1 then some (some (vI y), M2) else none) = some (some (vI (b01 b)), M') := by
  have e : (bI r fun x M1 => bI (f x M1) fun y M2 => if y = 0 ∨ y = 1 then some (some (vI y), M2) else none) = (bI (bI r f) fun y M2 => if y = 0 ∨ y = 1 then some (some (vI y), M2) else none) := by
    rcases r with _ | ⟨_ | v, M⟩
    · rfl
    · rfl
    · cases v <;> rfl
  rw [e, bI_b h]
/-- what the row says is done, by both -/
theorem step_a2 (d1 : Nat) (h : LR X Y lf e) (hl : e + 28 ≤ lf) {s r : Nat} (hs : s < 30) (hr : r < 60) (hS : StR X (e + 4) (mV Y) s r) (hk : mV Y (75 + 9 * s) < 8) : ∃ b X' Y', C2 d j_lf_achieve [vR 4 lf, vR 1 e, vI (r : Int)] X = some (some (vI (b01 b)), X') ∧ C2 d1 j_m_does [vR 12 179, vI ((75 + 9 * s : Nat) : Int)] Y = some (some (vI (b01 b)), Y') ∧ StO lf e X Y X' Y' := by
  obtain ⟨hk0, hw, c0, c1, c3, c4, c6, c8, c9⟩ := hS
  have hc := h.2.1.1
  unfold Wc at hc
  have w1 : w32 (((75 + 9 * s : Nat) : Int) + 1) = ((76 + 9 * s : Nat) : Int) := by rw [w32s (by omega)]; omega
  have w2 : w32 (((75 + 9 * s : Nat) : Int) + 2) = ((77 + 9 * s : Nat) : Int) := by rw [w32s (by omega)]; omega
  have w3 : w32 (((75 + 9 * s : Nat) : Int) + 3) = ((78 + 9 * s : Nat) : Int) := by rw [w32s (by omega)]; omega
  have eA := q_lf_achieve lf e (r : Int) d X
  have eD := q_m_does ((75 + 9 * s : Nat) : Int) d1 Y
  rw [if_pos (by omega), if_pos (by omega), Int.toNat_natCast, hw] at eA
  rw [if_pos (by omega), w1, if_pos (by omega), w2, w3, Int.toNat_natCast, Int.toNat_natCast, Int.toNat_natCast, Int.toNat_natCast, show Y.1 184 (75 + 9 * s) = mV Y (75 + 9 * s) from rfl, show Y.1 184 (76 + 9 * s) = mV Y (76 + 9 * s) from rfl, show Y.1 184 (77 + 9 * s) = mV Y (77 + 9 * s) from rfl, show Y.1 184 (78 + 9 * s) = mV Y (78 + 9 * s) from rfl] at eD
  generalize mV Y (75 + 9 * s) = k at *
  have : k = 0 ∨ k = 1 ∨ k = 2 ∨ k = 3 ∨ k = 4 ∨ k = 5 ∨ k = 6 ∨ k = 7 := by omega
  rcases this with g | g | g | g | g | g | g | g <;> subst g
  · obtain ⟨f1, f2, f3⟩ := c0 rfl
    rw [if_pos (by decide), f1] at eA
    rw [if_pos rfl] at eD
    obtain ⟨b, X', Y', r1, r2, r3⟩ := st_age d d1 h hl _ ⟨f2, f3⟩
    exact ⟨b, X', Y', eA.trans (bI_b r1), eD.trans (bI_b r2), r3⟩
  · obtain ⟨f1, f2, f3⟩ := c1 rfl
    rw [if_neg (by decide), if_pos (by decide), f1] at eA
    rw [if_neg (by decide), if_pos rfl] at eD
    obtain ⟨b, X', Y', r1, r2, r3⟩ := st_make d d1 h hl _ ⟨f2, f3⟩
    exact ⟨b, X', Y', eA.trans (bI_bb r1), eD.trans (bI_b r2), r3⟩
  · rw [if_neg (by decide), if_neg (by decide), if_pos (by decide)] at eA
    rw [if_neg (by decide), if_neg (by decide), if_pos rfl] at eD
    obtain ⟨X1, x1, x2, x3⟩ := em_spend d h.1 h.2.1
    exact ⟨_, X1, _, eA.trans (bI_b x1), eD.trans (bI_b (m_uses d1 h.2.1)), h.deed hl x3 x2 (wf_Sp h.2.1) (fun k hk => up_dSp h.2.1.1 hk)⟩
  · obtain ⟨f1, f2, f3, f4, f5, f6⟩ := c3 rfl
    rw [if_neg (by decide), if_neg (by decide), if_neg (by decide), if_pos (by decide), if_pos (by omega), if_pos (by omega), f1, f2, f3] at eA
    rw [if_neg (by decide), if_neg (by decide), if_neg (by decide), if_pos rfl, if_pos (by omega), if_pos (by omega)] at eD
    obtain ⟨a, ha⟩ : ∃ a : Nat, mV Y (76 + 9 * s) = (a : Int) := ⟨_, (Int.toNat_of_nonneg f4.1).symm⟩
    obtain ⟨b, hb⟩ : ∃ a : Nat, mV Y (77 + 9 * s) = (a : Int) := ⟨_, (Int.toNat_of_nonneg f5.1).symm⟩
    obtain ⟨p, hp⟩ : ∃ a : Nat, mV Y (78 + 9 * s) = (a : Int) := ⟨_, (Int.toNat_of_nonneg f6.1).symm⟩
    rw [ha, hb, hp] at eA eD
    obtain ⟨X1, x1, x2, x3⟩ := em_teach d h.1 a b p (by omega) (by omega) (by omega)
    exact ⟨_, X1, _, eA.trans (bI_b x1), eD.trans (bI_b (m_teaches d1 h.2.1 a b p (by omega) (by omega) (by omega))), h.deed hl x3 x2 (wf_T h.2.1 (by omega) (by omega)) (fun k hk => up_dT (by omega) hk)⟩
  · obtain ⟨f1, f2, f3⟩ := c4 (Or.inl rfl)
    rw [if_neg (by decide), if_neg (by decide), if_neg (by decide), if_neg (by decide), if_pos (by decide), f1] at eA
    rw [if_neg (by decide), if_neg (by decide), if_neg (by decide), if_neg (by decide), if_neg (by decide), if_neg (by decide), if_pos rfl] at eD
    obtain ⟨a, ha⟩ : ∃ a : Nat, mV Y (76 + 9 * s) = (a : Int) := ⟨_, (Int.toNat_of_nonneg f2).symm⟩
    rw [ha] at eA eD
    obtain ⟨X1, x1, x2, x3⟩ := em_write d h.1 a (by omega)
    exact ⟨_, X1, _, eA.trans (bI_b x1), eD.trans (bI_b (m_notes d1 h.2.1 a (by omega) true)), h.deed hl x3 x2 (wf_N h.2.1 (by omega)) (fun k hk => up_dN (by omega) hk)⟩
  · obtain ⟨f1, f2, f3⟩ := c4 (Or.inr rfl)
    rw [if_neg (by decide), if_neg (by decide), if_neg (by decide), if_neg (by decide), if_neg (by decide), if_pos (by decide), f1] at eA
    rw [if_neg (by decide), if_neg (by decide), if_neg (by decide), if_neg (by decide), if_neg (by decide), if_neg (by decide), if_neg (by decide)] at eD
    obtain ⟨a, ha⟩ : ∃ a : Nat, mV Y (76 + 9 * s) = (a : Int) := ⟨_, (Int.toNat_of_nonneg f2).symm⟩
    rw [ha] at eA eD
    obtain ⟨X1, x1, x2, x3⟩ := em_burn d h.1 a (by omega)
    exact ⟨_, X1, _, eA.trans (bI_b x1), eD.trans (bI_b (m_notes d1 h.2.1 a (by omega) false)), h.deed hl x3 x2 (wf_N h.2.1 (by omega)) (fun k hk => up_dN (by omega) hk)⟩
  · obtain ⟨f1, f2, f3⟩ := c6 rfl
    rw [if_neg (by decide), if_neg (by decide), if_neg (by decide), if_neg (by decide), if_neg (by decide), if_neg (by decide), if_pos (by decide), f1] at eA
    rw [if_neg (by decide), if_neg (by decide), if_neg (by decide), if_neg (by decide), if_pos rfl] at eD
    obtain ⟨a, ha⟩ : ∃ a : Nat, mV Y (76 + 9 * s) = (a : Int) := ⟨_, (Int.toNat_of_nonneg f2).symm⟩
    rw [ha] at eA eD
    obtain ⟨b, X', Y', r1, r2, r3⟩ := st_seize d d1 h hl a (by omega)
    exact ⟨b, X', Y', eA.trans (bI_bb r1), eD.trans (bI_b r2), r3⟩
  · have e8 : X.1 e 8 = mV Y 1 := h.1.2.1.2.2.2.2.2.2.2.2.1
    rw [if_neg (by decide), if_neg (by decide), if_neg (by decide), if_neg (by decide), if_neg (by decide), if_neg (by decide), if_neg (by decide), if_pos (by decide), e8] at eA
    rw [if_neg (by decide), if_neg (by decide), if_neg (by decide), if_neg (by decide), if_neg (by decide), if_pos rfl, show Y.1 184 1 = mV Y 1 from rfl] at eD
    by_cases hp : 0 < mV Y 1
    · obtain ⟨a, X1, Y1, y0, y1, y2, y3⟩ := st_draw d d1 h hl hp
      obtain ⟨b, X', Y', r1, r2, r3⟩ := st_seize d d1 y3.1 hl a y0
      rw [if_pos hp, y1, bI_k] at eA
      rw [if_pos hp, y2, bI_k, r2, bI_k] at eD
      have eA2 : (bI (bI (C2 d j_em_seize [vR 1 e, vI (a : Int)] X1) fun x4 M3 => C2 d j_lf_countGone [vR 4 lf, vI x4] M3) fun x24 M23 => if x24 = 0 then some (some (vI 0), M23) else some (some (vI 1), M23)) = some (some (vI (b01 b)), X') := by
        rw [r1, bI_k]
        cases b
        · rw [if_pos b01_f]; rfl
        · rw [if_neg (by decide)]; rfl
      refine ⟨b, X', Y', eA.trans ?_, eD.trans ?_, y3.tr r3⟩
      · rw [← eA2]
        obtain ⟨X2, x1, x2, x3⟩ := em_seize d y3.1.1 a y0
        rw [x1, bI_k, bI_k]
      · cases b
        · rw [if_pos b01_f]; rfl
        · rw [if_neg (by decide)]; rfl
    · rw [if_neg hp] at eA eD
      exact ⟨false, X, Y, eA, eD, StO.rfl h⟩
end Lf3
