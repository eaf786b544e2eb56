section Wds
variable (d : Nat) {f : Nat → Int} {n T : Nat}
theorem kw_at : ∀ j : Nat, j < 28 → kwI (keyC.getD j 0) = (j : Int) := by decide +kernel
theorem kw_pos : ∀ j : Nat, j < 28 → 0 < keyC.getD j 0 := by decide +kernel
theorem kwL_of {w : Int} : ∀ (k j : Nat), kwL w k = (j : Int) → keyC.getD j 0 = w
  | 0, j, h => by
    have : (-1 : Int) = (j : Int) := h
    omega
  | k + 1, j, h => by
    have h' : (if keyC.getD k 0 = w then (k : Int) else kwL w k) = (j : Int) := h
    by_cases c : keyC.getD k 0 = w
    · rw [if_pos c] at h'
      have : k = j := by omega
      subst this
      exact c
    · rw [if_neg c] at h'
      exact kwL_of k j h'
theorem kw_iff {w : Int} {j : Nat} (hj : j < 28) : kwI w = (j : Int) ↔ w = keyC.getD j 0 := by
  constructor
  · intro h
    unfold kwI at h
    by_cases c : w = 0
    · rw [if_pos c] at h; omega
    · rw [if_neg c] at h
      exact (kwL_of 28 j h).symm
  · intro h
    rw [h]; exact kw_at j hj
/-- a word of the language stands there -/
theorem m_word {Y : Mem} {a : Nat} (h : TS Y f n a) {j : Nat} (hj : j < 28) : C2 d j_m_isWord [vR 12 179, vL (keyC.getD j 0)] Y = some (some (vI (b01 (decide (kwI (wdF f n a) = (j : Int))))), Y) := by
  obtain ⟨h1, h2, h3, h4, h5, h6⟩ := h
  have hp := kw_pos j hj
  rw [q_m_isWord, h1]
  by_cases c : tK f n a = 1
  · obtain ⟨g1, g2⟩ := h4 c
    have hw : (Y.2.1 179 19 = keyC.getD j 0) ↔ kwI (wdF f n a) = (j : Int) := by
      rw [kw_iff hj]
      unfold wdF
      rw [if_pos c, g2]
      by_cases c8 : en isLe f n a - a ≤ 8
      · rw [if_pos c8, if_pos c8]
      · rw [if_neg c8, if_neg c8]; omega
    rw [if_pos c]
    by_cases e : Y.2.1 179 19 = keyC.getD j 0
    · rw [if_pos (show ycmp (Y.2.1 179 19) (keyC.getD j 0) = 0 by rw [ycmp_eq]; exact e), decide_eq_true (hw.mp e)]; rfl
    · rw [if_neg (show ¬ ycmp (Y.2.1 179 19) (keyC.getD j 0) = 0 by rw [ycmp_eq]; exact e), decide_eq_false (fun q => e (hw.mpr q))]; rfl
  · rw [if_neg c]
    have : kwI (wdF f n a) = -1 := by
      unfold wdF
      rw [if_neg c]; rfl
    rw [this, decide_eq_false (by omega)]; rfl
/-- a spelled word is asked for -/
theorem m_isX {Y : Mem} {a : Nat} (h : TS Y f n a) {j : Nat} (hj : j < 28) {r : Option Res} (hr : r = some (some (vL (keyC.getD j 0)), Y)) : (bL r fun x2 M1 => bI (C2 d j_m_isWord [vR 12 179, vL x2] M1) fun x4 M3 => if x4 = 0 ∨ x4 = 1 then some (some (vI x4), M3) else none) = some (some (vI (b01 (decide (kwI (wdF f n a) = (j : Int))))), Y) := by
  rw [hr, bL_k, m_word d h hj, bI_k, if_pos (b01_or _)]
theorem is_life {Y : Mem} {a : Nat} (h : TS Y f n a) : C2 d j_m_isLife [vR 12 179] Y = some (some (vI (b01 (decide (kwI (wdF f n a) = 0)))), Y) := by
  rw [q_m_isLife]; exact m_isX d h (j := 0) (by decide) (by rw [q_m_spelled]; rfl)
theorem is_border {Y : Mem} {a : Nat} (h : TS Y f n a) : C2 d j_m_isBorder [vR 12 179] Y = some (some (vI (b01 (decide (kwI (wdF f n a) = 1)))), Y) := by
  rw [q_m_isBorder]; exact m_isX d h (j := 1) (by decide) (by rw [q_m_spelled]; rfl)
theorem is_part {Y : Mem} {a : Nat} (h : TS Y f n a) : C2 d j_m_isPart [vR 12 179] Y = some (some (vI (b01 (decide (kwI (wdF f n a) = 3)))), Y) := by
  rw [q_m_isPart]; exact m_isX d h (j := 3) (by decide) (by rw [q_m_spelled]; rfl)
theorem is_fades {Y : Mem} {a : Nat} (h : TS Y f n a) : C2 d j_m_isFades [vR 12 179] Y = some (some (vI (b01 (decide (kwI (wdF f n a) = 4)))), Y) := by
  rw [q_m_isFades]; exact m_isX d h (j := 4) (by decide) (by rw [q_m_spelled]; rfl)
theorem is_ways {Y : Mem} {a : Nat} (h : TS Y f n a) : C2 d j_m_isWays [vR 12 179] Y = some (some (vI (b01 (decide (kwI (wdF f n a) = 5)))), Y) := by
  rw [q_m_isWays]; exact m_isX d h (j := 5) (by decide) (by rw [q_m_spelled]; rfl)
theorem is_hand {Y : Mem} {a : Nat} (h : TS Y f n a) : C2 d j_m_isHand [vR 12 179] Y = some (some (vI (b01 (decide (kwI (wdF f n a) = 7)))), Y) := by
  rw [q_m_isHand]; exact m_isX d h (j := 7) (by decide) (by rw [q_m_spelled]; rfl)
theorem is_age {Y : Mem} {a : Nat} (h : TS Y f n a) : C2 d j_m_isAge [vR 12 179] Y = some (some (vI (b01 (decide (kwI (wdF f n a) = 8)))), Y) := by
  rw [q_m_isAge]; exact m_isX d h (j := 8) (by decide) (by rw [q_m_spelled]; rfl)
theorem is_price {Y : Mem} {a : Nat} (h : TS Y f n a) : C2 d j_m_isPrice [vR 12 179] Y = some (some (vI (b01 (decide (kwI (wdF f n a) = 9)))), Y) := by
  rw [q_m_isPrice]; exact m_isX d h (j := 9) (by decide) (by rw [q_m_spelled]; rfl)
theorem is_knows {Y : Mem} {a : Nat} (h : TS Y f n a) : C2 d j_m_isKnows [vR 12 179] Y = some (some (vI (b01 (decide (kwI (wdF f n a) = 10)))), Y) := by
  rw [q_m_isKnows]; exact m_isX d h (j := 10) (by decide) (by rw [q_m_spelled]; rfl)
theorem is_spring {Y : Mem} {a : Nat} (h : TS Y f n a) : C2 d j_m_isSpring [vR 12 179] Y = some (some (vI (b01 (decide (kwI (wdF f n a) = 11)))), Y) := by
  rw [q_m_isSpring]; exact m_isX d h (j := 11) (by decide) (by rw [q_m_spelled]; rfl)
theorem is_at {Y : Mem} {a : Nat} (h : TS Y f n a) : C2 d j_m_isAt [vR 12 179] Y = some (some (vI (b01 (decide (kwI (wdF f n a) = 12)))), Y) := by
  rw [q_m_isAt]; exact m_isX d h (j := 12) (by decide) (by rw [q_m_spelled]; rfl)
theorem is_gives {Y : Mem} {a : Nat} (h : TS Y f n a) : C2 d j_m_isGives [vR 12 179] Y = some (some (vI (b01 (decide (kwI (wdF f n a) = 13)))), Y) := by
  rw [q_m_isGives]; exact m_isX d h (j := 13) (by decide) (by rw [q_m_spelled]; rfl)
theorem is_end {Y : Mem} {a : Nat} (h : TS Y f n a) : C2 d j_m_isEnd [vR 12 179] Y = some (some (vI (b01 (decide (kwI (wdF f n a) = 26)))), Y) := by
  rw [q_m_isEnd]; exact m_isX d h (j := 26) (by decide) (by rw [q_m_spelled]; rfl)
theorem is_written {Y : Mem} {a : Nat} (h : TS Y f n a) : C2 d j_m_isWritten [vR 12 179] Y = some (some (vI (b01 (decide (kwI (wdF f n a) = 6)))), Y) := by
  have e : C2 d j_m_spelled [vI 119, vI 114, vI 105, vI 116, vI 116, vI 101] Y = some (some (vL 790942341), Y) := by rw [q_m_spelled]; rfl
  rw [q_m_isWritten, e, bL_k, show w64 (w64 (790942341 * 32) + 14) = keyC.getD 6 0 by decide, m_word d h (j := 6) (by decide), bI_k, if_pos (b01_or _)]
  rfl
/-- the kind of a step by its word -/
def stK (k : Int) : Int := if 14 ≤ k ∧ k ≤ 22 then k - 14 else if k = 25 then 9 else if k = 27 then 10 else -1
def teK (k : Int) : Int := if k = 23 then 0 else if k = 24 then 1 else if k = 2 then 2 else -1
theorem is_w {Y : Mem} {a : Nat} (h : TS Y f n a) {j : Nat} (hj : j < 28) {r : Option Res} (hr : r = some (some (vL (keyC.getD j 0)), Y)) (K : Int → Mem → Option Res) : (bL r fun x2 M1 => bI (C2 d j_m_isWord [vR 12 179, vL x2] M1) K) = K (b01 (decide (kwI (wdF f n a) = (j : Int)))) Y := by
  rw [hr, bL_k, m_word d h hj, bI_k]
theorem is_step {Y : Mem} {a : Nat} (h : TS Y f n a) : C2 d j_m_stepWord [vR 12 179] Y = some (some (vI (stK (kwI (wdF f n a)))), Y) := by
  rw [q_m_stepWord]
  unfold stK
  generalize hk : kwI (wdF f n a) = k
  rw [is_w d h (j := 14) (by decide) (by rw [q_m_spelled]; rfl), hk]
  by_cases c0 : k = 14
  · rw [c0]; rfl
  rw [decide_eq_false (show ¬ k = ((14 : Nat) : Int) by omega), if_pos b01_f]
  rw [is_w d h (j := 15) (by decide) (by rw [q_m_spelled]; rfl), hk]
  by_cases c1 : k = 15
  · rw [c1]; rfl
  rw [decide_eq_false (show ¬ k = ((15 : Nat) : Int) by omega), if_pos b01_f]
  rw [is_w d h (j := 16) (by decide) (by rw [q_m_spelled]; rfl), hk]
  by_cases c2 : k = 16
  · rw [c2]; rfl
  rw [decide_eq_false (show ¬ k = ((16 : Nat) : Int) by omega), if_pos b01_f]
  rw [is_w d h (j := 17) (by decide) (by rw [q_m_spelled]; rfl), hk]
  by_cases c3 : k = 17
  · rw [c3]; rfl
  rw [decide_eq_false (show ¬ k = ((17 : Nat) : Int) by omega), if_pos b01_f]
  rw [is_w d h (j := 18) (by decide) (by rw [q_m_spelled]; rfl), hk]
  by_cases c4 : k = 18
  · rw [c4]; rfl
  rw [decide_eq_false (show ¬ k = ((18 : Nat) : Int) by omega), if_pos b01_f]
  rw [is_w d h (j := 19) (by decide) (by rw [q_m_spelled]; rfl), hk]
  by_cases c5 : k = 19
  · rw [c5]; rfl
  rw [decide_eq_false (show ¬ k = ((19 : Nat) : Int) by omega), if_pos b01_f]
  have e6 : C2 d j_m_spelled [vI 99, vI 97, vI 112, vI 116, vI 117, vI 114] Y = some (some (vL 102257330), Y) := by rw [q_m_spelled]; rfl
  rw [e6, bL_k, show w64 (w64 (102257330 * 32) + 5) = keyC.getD 20 0 by decide, m_word d h (j := 20) (by decide), bI_k, hk]
  by_cases c6 : k = 20
  · rw [c6]; rfl
  rw [decide_eq_false (show ¬ k = ((20 : Nat) : Int) by omega), if_pos b01_f]
  rw [is_w d h (j := 21) (by decide) (by rw [q_m_spelled]; rfl), hk]
  by_cases c7 : k = 21
  · rw [c7]; rfl
  rw [decide_eq_false (show ¬ k = ((21 : Nat) : Int) by omega), if_pos b01_f]
  rw [is_w d h (j := 22) (by decide) (by rw [q_m_spelled]; rfl), hk]
  by_cases c8 : k = 22
  · rw [c8]; rfl
  rw [decide_eq_false (show ¬ k = ((22 : Nat) : Int) by omega), if_pos b01_f]
  rw [is_w d h (j := 25) (by decide) (by rw [q_m_spelled]; rfl), hk]
  by_cases c9 : k = 25
  · rw [c9]; rfl
  rw [decide_eq_false (show ¬ k = ((25 : Nat) : Int) by omega), if_pos b01_f]
  rw [is_w d h (j := 27) (by decide) (by rw [q_m_spelled]; rfl), hk]
  by_cases c10 : k = 27
  · rw [c10]; rfl
  rw [decide_eq_false (show ¬ k = ((27 : Nat) : Int) by omega), if_pos b01_f]
  rw [if_neg (by omega), if_neg (by omega), if_neg (by omega)]
theorem is_test {Y : Mem} {a : Nat} (h : TS Y f n a) : C2 d j_m_testWord [vR 12 179] Y = some (some (vI (teK (kwI (wdF f n a)))), Y) := by
  rw [q_m_testWord]
  unfold teK
  generalize hk : kwI (wdF f n a) = k
  rw [is_w d h (j := 23) (by decide) (by rw [q_m_spelled]; rfl), hk]
  by_cases c0 : k = 23
  · rw [c0]; rfl
  rw [decide_eq_false (show ¬ k = ((23 : Nat) : Int) by omega), if_pos b01_f]
  rw [is_w d h (j := 24) (by decide) (by rw [q_m_spelled]; rfl), hk]
  by_cases c1 : k = 24
  · rw [c1]; rfl
  rw [decide_eq_false (show ¬ k = ((24 : Nat) : Int) by omega), if_pos b01_f]
  rw [is_w d h (j := 2) (by decide) (by rw [q_m_spelled]; rfl), hk]
  by_cases c2 : k = 2
  · rw [c2]; rfl
  rw [decide_eq_false (show ¬ k = ((2 : Nat) : Int) by omega), if_pos b01_f]
  rw [if_neg (by omega), if_neg (by omega), if_neg (by omega)]
end Wds
