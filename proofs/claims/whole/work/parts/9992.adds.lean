section AddS
variable {X Y X' Y' : Mem}
/-- a spring more -/
theorem Mk.addS (h : Mk X Y 39 4) {c : Nat} (hc : blk Y 4 2 = (c : Int)) (c4 : c < 4) {a b w : Int} (ha : 0 ≤ a ∧ a ≤ 999) (hb : 0 ≤ b ∧ b ≤ 99)
    (x9 : ∀ k, k ≠ 9 → X'.1 39 k = X.1 39 k) (x99 : X'.1 39 9 = ((c + 1 : Nat) : Int)) (xo : ∀ q, 39 < q → q < 67 → q ≠ 39 + 3 + 21 + 1 * c → X'.1 q = X.1 q ∧ X'.2.1 q = X.2.1 q) (xa : X'.1 (39 + 3 + 21 + 1 * c) 1 = a) (xb : X'.1 (39 + 3 + 21 + 1 * c) 2 = b) (xw : X'.2.1 (39 + 3 + 21 + 1 * c) 0 = w)
    (yo : ∀ k, k ≠ 2 → k ≠ 65 + c → k ≠ 69 + c → blk Y' 4 k = blk Y 4 k) (y2 : blk Y' 4 2 = ((c + 1 : Nat) : Int)) (ya : blk Y' 4 (65 + c) = a) (yb : blk Y' 4 (69 + c) = b) (yn : ∀ k, k ≠ 14 + c → k < 18 → Y'.2.1 187 (18 * 4 + k) = Y.2.1 187 (18 * 4 + k)) (yw : Y'.2.1 187 (18 * 4 + 14 + c) = w) : Mk X' Y' 39 4 := by
  obtain ⟨⟨hc0, ⟨s0, s1, s2, s3, s4, s5, s6, s7, s8, s9⟩, hp, hh, hq⟩, hw, n1, n2, n3, p5, p7, p73⟩ := h
  have hcc := hc0
  unfold Wc at hcc
  obtain ⟨w0, w3, w4, w5, w6, w7, w8, wp, wh, ws⟩ := hw
  have wc' : Wc (blk Y' 4) := by
    unfold Wc
    rw [yo 0 (by omega) (by omega) (by omega), yo 1 (by omega) (by omega) (by omega), y2]
    omega
  have sw : sWr (blk Y' 4) = sWr (blk Y 4) := by
    unfold sWr
    rw [yo 0 (by omega) (by omega) (by omega)]
    apply un_congr
    · intro j hj
      rw [yo (21 + j) (by omega) (by omega) (by omega)]
    · intros; rfl
  refine ⟨⟨wc', ⟨?_, ?_, ?_, ?_, ?_, ?_, ?_, ?_, ?_, ?_⟩, fun p hp' => ?_, fun p hp' => ?_, fun p hp' => ?_⟩, ⟨wc', ?_, ?_, ?_, ?_, ?_, ?_, fun p hp' => ?_, fun p hp' => ?_, fun p hp' => ?_⟩, fun p hp' => ?_, fun p hp' => ?_, fun p hp' => ?_, ?_, ?_, ?_⟩
  · rw [x9 0 (by decide), yo 3 (by omega) (by omega) (by omega)]; exact s0
  · rw [x9 1 (by decide), yo 4 (by omega) (by omega) (by omega)]; exact s1
  · rw [x9 2 (by decide), yo 5 (by omega) (by omega) (by omega)]; exact s2
  · rw [x9 3 (by decide), yo 6 (by omega) (by omega) (by omega)]; exact s3
  · rw [x9 4 (by decide), yo 7 (by omega) (by omega) (by omega)]; exact s4
  · rw [x9 5 (by decide), yo 8 (by omega) (by omega) (by omega)]; exact s5
  · rw [x9 6 (by decide), sw]; exact s6
  · rw [x9 7 (by decide), yo 0 (by omega) (by omega) (by omega)]; exact s7
  · rw [x9 8 (by decide), yo 1 (by omega) (by omega) (by omega)]; exact s8
  · rw [x99, y2]
  · rw [yo 0 (by omega) (by omega) (by omega)] at hp'
    have : p < 6 := by omega
    rw [(xo _ (by omega) (by omega) (by omega)).1, yo (9 + p) (by omega) (by omega) (by omega), yo (15 + p) (by omega) (by omega) (by omega), yo (27 + p) (by omega) (by omega) (by omega)]
    exact hp p hp'
  · rw [yo 1 (by omega) (by omega) (by omega)] at hp'
    have : p < 8 := by omega
    rw [(xo _ (by omega) (by omega) (by omega)).1, yo (33 + p) (by omega) (by omega) (by omega), yo (41 + p) (by omega) (by omega) (by omega), yo (49 + p) (by omega) (by omega) (by omega), yo (57 + p) (by omega) (by omega) (by omega)]
    exact hh p hp'
  · rw [y2] at hp'
    by_cases cp : p = c
    · subst cp
      exact ⟨xa.trans ya.symm, xb.trans yb.symm⟩
    · rw [(xo _ (by omega) (by omega) (by omega)).1, yo (65 + p) (by omega) (by omega) (by omega), yo (69 + p) (by omega) (by omega) (by omega)]
      exact hq p (by omega)
  · rw [yo 3 (by omega) (by omega) (by omega)]; exact w3
  · rw [yo 4 (by omega) (by omega) (by omega)]; exact w4
  · rw [yo 5 (by omega) (by omega) (by omega)]; exact w5
  · rw [yo 6 (by omega) (by omega) (by omega)]; exact w6
  · rw [yo 7 (by omega) (by omega) (by omega)]; exact w7
  · rw [yo 8 (by omega) (by omega) (by omega)]; exact w8
  · rw [yo 0 (by omega) (by omega) (by omega)] at hp'
    have : p < 6 := by omega
    rw [yo (9 + p) (by omega) (by omega) (by omega), yo (15 + p) (by omega) (by omega) (by omega), yo (21 + p) (by omega) (by omega) (by omega), yo (27 + p) (by omega) (by omega) (by omega)]
    exact wp p hp'
  · rw [yo 1 (by omega) (by omega) (by omega)] at hp'
    have : p < 8 := by omega
    rw [yo (33 + p) (by omega) (by omega) (by omega), yo (41 + p) (by omega) (by omega) (by omega), yo (49 + p) (by omega) (by omega) (by omega), yo (57 + p) (by omega) (by omega) (by omega)]
    exact wh p hp'
  · rw [y2] at hp'
    by_cases cp : p = c
    · subst cp
      rw [ya, yb]; exact ⟨ha, hb⟩
    · rw [yo (65 + p) (by omega) (by omega) (by omega), yo (69 + p) (by omega) (by omega) (by omega)]
      exact ws p (by omega)
  · rw [yo 0 (by omega) (by omega) (by omega)] at hp'
    have : p < 6 := by omega
    rw [(xo _ (by omega) (by omega) (by omega)).2, yn p (by omega) (by omega)]
    exact n1 p hp'
  · rw [yo 1 (by omega) (by omega) (by omega)] at hp'
    have : p < 8 := by omega
    have e := yn (6 + p) (by omega) (by omega)
    rw [← Nat.add_assoc] at e
    rw [(xo _ (by omega) (by omega) (by omega)).2, e]
    exact n2 p hp'
  · rw [y2] at hp'
    by_cases cp : p = c
    · subst cp
      rw [xw, yw]
    · have e := yn (14 + p) (by omega) (by omega)
      rw [← Nat.add_assoc] at e
      rw [(xo _ (by omega) (by omega) (by omega)).2, e]
      exact n3 p (by omega)
  · rw [(xo (39 + 4) (by omega) (by omega) (by omega)).1]; exact p5
  · rw [(xo (39 + 4) (by omega) (by omega) (by omega)).1]; exact p7
  · rw [yo 73 (by omega) (by omega) (by omega)]; exact p73
end AddS
