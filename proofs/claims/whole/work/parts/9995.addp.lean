section AddP
variable {X Y X' Y' : Mem}
/-- a part more -/
theorem Mk.addP (h : Mk X Y 39 4) {c : Nat} (hc : blk Y 4 0 = (c : Int)) (c4 : c < 6) {a b w : Int} {wr : Bool} (ha : 1 ≤ a ∧ a ≤ 99) (hb : 1 ≤ b ∧ b ≤ 9)
    (x9 : ∀ k, k ≠ 6 → k ≠ 7 → X'.1 39 k = X.1 39 k) (x97 : X'.1 39 7 = ((c + 1 : Nat) : Int)) (x96 : X'.1 39 6 = bif wr then xor32 (X.1 39 6) (xshl 1 (c : Int)) else X.1 39 6) (xo : ∀ q, 39 < q → q < 67 → q ≠ 39 + 1 + 9 + 1 * c → X'.1 q = X.1 q ∧ X'.2.1 q = X.2.1 q) (xa : X'.1 (39 + 1 + 9 + 1 * c) 1 = a) (xb : X'.1 (39 + 1 + 9 + 1 * c) 2 = b) (x3 : X'.1 (39 + 1 + 9 + 1 * c) 3 = 0) (xw : X'.2.1 (39 + 1 + 9 + 1 * c) 0 = w)
    (yo : ∀ k, k ≠ 0 → k ≠ 9 + c → k ≠ 15 + c → k ≠ 21 + c → blk Y' 4 k = blk Y 4 k) (y0 : blk Y' 4 0 = ((c + 1 : Nat) : Int)) (ya : blk Y' 4 (9 + c) = a) (yb : blk Y' 4 (15 + c) = b) (yr : blk Y' 4 (21 + c) = b01 wr) (yz : blk Y 4 (27 + c) = 0) (yn : ∀ k, k ≠ c → k < 18 → Y'.2.1 187 (18 * 4 + k) = Y.2.1 187 (18 * 4 + k)) (yw : Y'.2.1 187 (18 * 4 + c) = w) : Mk X' Y' 39 4 := by
  obtain ⟨⟨hc0, ⟨s0, s1, s2, s3, s4, s5, s6, s7, s8, s9⟩, hp, hh, hq⟩, hw, n1, n2, n3, p5, p7, p73⟩ := h
  have hcc := hc0
  unfold Wc at hcc
  obtain ⟨w0, w3, w4, w5, w6, w7, w8, wp, wh, ws⟩ := hw
  have e1 := yo 1 (by omega) (by omega) (by omega) (by omega)
  have e2 := yo 2 (by omega) (by omega) (by omega) (by omega)
  have e3 := yo 3 (by omega) (by omega) (by omega) (by omega)
  have e4 := yo 4 (by omega) (by omega) (by omega) (by omega)
  have e5 := yo 5 (by omega) (by omega) (by omega) (by omega)
  have e6 := yo 6 (by omega) (by omega) (by omega) (by omega)
  have e7 := yo 7 (by omega) (by omega) (by omega) (by omega)
  have e8 := yo 8 (by omega) (by omega) (by omega) (by omega)
  have wc' : Wc (blk Y' 4) := by
    unfold Wc
    rw [e1, e2, y0]
    omega
  have sw : sWr (blk Y' 4) = bif wr then xor32 (sWr (blk Y 4)) (xshl 1 (c : Int)) else sWr (blk Y 4) := by
    have e : unB (fun p => decide (blk Y' 4 (21 + p) = 1)) (fun p => xshl 1 (p : Int)) c = unB (fun p => decide (blk Y 4 (21 + p) = 1)) (fun p => xshl 1 (p : Int)) c := by
      apply un_congr
      · intro j hj
        rw [yo (21 + j) (by omega) (by omega) (by omega) (by omega)]
      · intros; rfl
    unfold sWr
    rw [y0, hc, Int.toNat_natCast, Int.toNat_natCast, unB_s, e, yr]
    cases wr
    · rfl
    · rfl
  refine ⟨⟨wc', ⟨?_, ?_, ?_, ?_, ?_, ?_, ?_, ?_, ?_, ?_⟩, fun p hp' => ?_, fun p hp' => ?_, fun p hp' => ?_⟩, ⟨wc', ?_, ?_, ?_, ?_, ?_, ?_, fun p hp' => ?_, fun p hp' => ?_, fun p hp' => ?_⟩, fun p hp' => ?_, fun p hp' => ?_, fun p hp' => ?_, ?_, ?_, ?_⟩
  · rw [x9 0 (by decide) (by decide), e3]; exact s0
  · rw [x9 1 (by decide) (by decide), e4]; exact s1
  · rw [x9 2 (by decide) (by decide), e5]; exact s2
  · rw [x9 3 (by decide) (by decide), e6]; exact s3
  · rw [x9 4 (by decide) (by decide), e7]; exact s4
  · rw [x9 5 (by decide) (by decide), e8]; exact s5
  · rw [x96, sw, s6]
  · rw [x97, y0]
  · rw [x9 8 (by decide) (by decide), e1]; exact s8
  · rw [x9 9 (by decide) (by decide), e2]; exact s9
  · rw [y0] at hp'
    by_cases cp : p = c
    · subst cp
      refine ⟨xa.trans ya.symm, xb.trans yb.symm, ?_⟩
      rw [x3, yo (27 + p) (by omega) (by omega) (by omega) (by omega), yz]
    · rw [(xo _ (by omega) (by omega) (by omega)).1, yo (9 + p) (by omega) (by omega) (by omega) (by omega), yo (15 + p) (by omega) (by omega) (by omega) (by omega), yo (27 + p) (by omega) (by omega) (by omega) (by omega)]
      exact hp p (by omega)
  · rw [e1] at hp'
    have : p < 8 := by omega
    rw [(xo _ (by omega) (by omega) (by omega)).1, yo (33 + p) (by omega) (by omega) (by omega) (by omega), yo (41 + p) (by omega) (by omega) (by omega) (by omega), yo (49 + p) (by omega) (by omega) (by omega) (by omega), yo (57 + p) (by omega) (by omega) (by omega) (by omega)]
    exact hh p hp'
  · rw [e2] at hp'
    have : p < 4 := by omega
    rw [(xo _ (by omega) (by omega) (by omega)).1, yo (65 + p) (by omega) (by omega) (by omega) (by omega), yo (69 + p) (by omega) (by omega) (by omega) (by omega)]
    exact hq p hp'
  · rw [e3]; exact w3
  · rw [e4]; exact w4
  · rw [e5]; exact w5
  · rw [e6]; exact w6
  · rw [e7]; exact w7
  · rw [e8]; exact w8
  · rw [y0] at hp'
    by_cases cp : p = c
    · subst cp
      rw [ya, yb, yr, yo (27 + p) (by omega) (by omega) (by omega) (by omega), yz]
      exact ⟨ha, hb, b01_or _, by decide⟩
    · rw [yo (9 + p) (by omega) (by omega) (by omega) (by omega), yo (15 + p) (by omega) (by omega) (by omega) (by omega), yo (21 + p) (by omega) (by omega) (by omega) (by omega), yo (27 + p) (by omega) (by omega) (by omega) (by omega)]
      exact wp p (by omega)
  · rw [e1] at hp'
    have : p < 8 := by omega
    rw [yo (33 + p) (by omega) (by omega) (by omega) (by omega), yo (41 + p) (by omega) (by omega) (by omega) (by omega), yo (49 + p) (by omega) (by omega) (by omega) (by omega), yo (57 + p) (by omega) (by omega) (by omega) (by omega)]
    exact wh p hp'
  · rw [e2] at hp'
    have : p < 4 := by omega
    rw [yo (65 + p) (by omega) (by omega) (by omega) (by omega), yo (69 + p) (by omega) (by omega) (by omega) (by omega)]
    exact ws p hp'
  · rw [y0] at hp'
    by_cases cp : p = c
    · subst cp
      rw [xw, yw]
    · rw [(xo _ (by omega) (by omega) (by omega)).2, yn p (by omega) (by omega)]
      exact n1 p (by omega)
  · rw [e1] at hp'
    have : p < 8 := by omega
    have e := yn (6 + p) (by omega) (by omega)
    rw [← Nat.add_assoc] at e
    rw [(xo _ (by omega) (by omega) (by omega)).2, e]
    exact n2 p hp'
  · rw [e2] at hp'
    have : p < 4 := by omega
    have e := yn (14 + p) (by omega) (by omega)
    rw [← Nat.add_assoc] at e
    rw [(xo _ (by omega) (by omega) (by omega)).2, e]
    exact n3 p hp'
  · rw [(xo (39 + 4) (by omega) (by omega) (by omega)).1]; exact p5
  · rw [(xo (39 + 4) (by omega) (by omega) (by omega)).1]; exact p7
  · rw [yo 73 (by omega) (by omega) (by omega) (by omega)]; exact p73
/-- a hand more -/
theorem Mk.addH (h : Mk X Y 39 4) {c : Nat} (hc : blk Y 4 1 = (c : Int)) (c4 : c < 8) {a b k0 w : Int} (ha : 0 ≤ a ∧ a ≤ 99) (hb : 0 ≤ b ∧ b ≤ 99) (hk : 0 ≤ k0 ∧ k0 ≤ 63)
    (x9 : ∀ k, k ≠ 8 → X'.1 39 k = X.1 39 k) (x98 : X'.1 39 8 = ((c + 1 : Nat) : Int)) (xo : ∀ q, 39 < q → q < 67 → q ≠ 39 + 2 + 14 + 1 * c → X'.1 q = X.1 q ∧ X'.2.1 q = X.2.1 q) (xa : X'.1 (39 + 2 + 14 + 1 * c) 1 = a) (xb : X'.1 (39 + 2 + 14 + 1 * c) 2 = b) (x3 : X'.1 (39 + 2 + 14 + 1 * c) 3 = k0) (x4 : X'.1 (39 + 2 + 14 + 1 * c) 4 = 0) (xw : X'.2.1 (39 + 2 + 14 + 1 * c) 0 = w)
    (yo : ∀ k, k ≠ 1 → k ≠ 33 + c → k ≠ 41 + c → k ≠ 49 + c → blk Y' 4 k = blk Y 4 k) (y1 : blk Y' 4 1 = ((c + 1 : Nat) : Int)) (ya : blk Y' 4 (33 + c) = a) (yb : blk Y' 4 (41 + c) = b) (yk : blk Y' 4 (49 + c) = k0) (yz : blk Y 4 (57 + c) = 0) (yn : ∀ k, k ≠ 6 + c → k < 18 → Y'.2.1 187 (18 * 4 + k) = Y.2.1 187 (18 * 4 + k)) (yw : Y'.2.1 187 (18 * 4 + 6 + c) = w) : Mk X' Y' 39 4 := by
  obtain ⟨⟨hc0, ⟨s0, s1, s2, s3, s4, s5, s6, s7, s8, s9⟩, hp, hh, hq⟩, hw, n1, n2, n3, p5, p7, p73⟩ := h
  have hcc := hc0
  unfold Wc at hcc
  obtain ⟨w0, w3, w4, w5, w6, w7, w8, wp, wh, ws⟩ := hw
  have e0 := yo 0 (by omega) (by omega) (by omega) (by omega)
  have e2 := yo 2 (by omega) (by omega) (by omega) (by omega)
  have e3 := yo 3 (by omega) (by omega) (by omega) (by omega)
  have e4 := yo 4 (by omega) (by omega) (by omega) (by omega)
  have e5 := yo 5 (by omega) (by omega) (by omega) (by omega)
  have e6 := yo 6 (by omega) (by omega) (by omega) (by omega)
  have e7 := yo 7 (by omega) (by omega) (by omega) (by omega)
  have e8 := yo 8 (by omega) (by omega) (by omega) (by omega)
  have wc' : Wc (blk Y' 4) := by
    unfold Wc
    rw [e0, e2, y1]
    omega
  have sw : sWr (blk Y' 4) = sWr (blk Y 4) := by
    unfold sWr
    rw [e0]
    apply un_congr
    · intro j hj
      rw [yo (21 + j) (by omega) (by omega) (by omega) (by omega)]
    · intros; rfl
  refine ⟨⟨wc', ⟨?_, ?_, ?_, ?_, ?_, ?_, ?_, ?_, ?_, ?_⟩, fun p hp' => ?_, fun p hp' => ?_, fun p hp' => ?_⟩, ⟨wc', ?_, ?_, ?_, ?_, ?_, ?_, fun p hp' => ?_, fun p hp' => ?_, fun p hp' => ?_⟩, fun p hp' => ?_, fun p hp' => ?_, fun p hp' => ?_, ?_, ?_, ?_⟩
  · rw [x9 0 (by decide), e3]; exact s0
  · rw [x9 1 (by decide), e4]; exact s1
  · rw [x9 2 (by decide), e5]; exact s2
  · rw [x9 3 (by decide), e6]; exact s3
  · rw [x9 4 (by decide), e7]; exact s4
  · rw [x9 5 (by decide), e8]; exact s5
  · rw [x9 6 (by decide), sw]; exact s6
  · rw [x9 7 (by decide), e0]; exact s7
  · rw [x98, y1]
  · rw [x9 9 (by decide), e2]; exact s9
  · rw [e0] at hp'
    have : p < 6 := by omega
    rw [(xo _ (by omega) (by omega) (by omega)).1, yo (9 + p) (by omega) (by omega) (by omega) (by omega), yo (15 + p) (by omega) (by omega) (by omega) (by omega), yo (27 + p) (by omega) (by omega) (by omega) (by omega)]
    exact hp p hp'
  · rw [y1] at hp'
    by_cases cp : p = c
    · subst cp
      refine ⟨xa.trans ya.symm, xb.trans yb.symm, x3.trans yk.symm, ?_⟩
      rw [x4, yo (57 + p) (by omega) (by omega) (by omega) (by omega), yz]
    · rw [(xo _ (by omega) (by omega) (by omega)).1, yo (33 + p) (by omega) (by omega) (by omega) (by omega), yo (41 + p) (by omega) (by omega) (by omega) (by omega), yo (49 + p) (by omega) (by omega) (by omega) (by omega), yo (57 + p) (by omega) (by omega) (by omega) (by omega)]
      exact hh p (by omega)
  · rw [e2] at hp'
    have : p < 4 := by omega
    rw [(xo _ (by omega) (by omega) (by omega)).1, yo (65 + p) (by omega) (by omega) (by omega) (by omega), yo (69 + p) (by omega) (by omega) (by omega) (by omega)]
    exact hq p hp'
  · rw [e3]; exact w3
  · rw [e4]; exact w4
  · rw [e5]; exact w5
  · rw [e6]; exact w6
  · rw [e7]; exact w7
  · rw [e8]; exact w8
  · rw [e0] at hp'
    have : p < 6 := by omega
    rw [yo (9 + p) (by omega) (by omega) (by omega) (by omega), yo (15 + p) (by omega) (by omega) (by omega) (by omega), yo (21 + p) (by omega) (by omega) (by omega) (by omega), yo (27 + p) (by omega) (by omega) (by omega) (by omega)]
    exact wp p hp'
  · rw [y1] at hp'
    by_cases cp : p = c
    · subst cp
      rw [ya, yb, yk, yo (57 + p) (by omega) (by omega) (by omega) (by omega), yz]
      exact ⟨⟨ha.1, by omega⟩, hb, hk, by decide, fun _ => ha.2⟩
    · rw [yo (33 + p) (by omega) (by omega) (by omega) (by omega), yo (41 + p) (by omega) (by omega) (by omega) (by omega), yo (49 + p) (by omega) (by omega) (by omega) (by omega), yo (57 + p) (by omega) (by omega) (by omega) (by omega)]
      exact wh p (by omega)
  · rw [e2] at hp'
    have : p < 4 := by omega
    rw [yo (65 + p) (by omega) (by omega) (by omega) (by omega), yo (69 + p) (by omega) (by omega) (by omega) (by omega)]
    exact ws p hp'
  · rw [e0] at hp'
    have : p < 6 := by omega
    rw [(xo _ (by omega) (by omega) (by omega)).2, yn p (by omega) (by omega)]
    exact n1 p hp'
  · rw [y1] at hp'
    by_cases cp : p = c
    · subst cp
      rw [xw, yw]
    · have e := yn (6 + p) (by omega) (by omega)
      rw [← Nat.add_assoc] at e
      rw [(xo _ (by omega) (by omega) (by omega)).2, e]
      exact n2 p (by omega)
  · rw [e2] at hp'
    have : p < 4 := by omega
    have e := yn (14 + p) (by omega) (by omega)
    rw [← Nat.add_assoc] at e
    rw [(xo _ (by omega) (by omega) (by omega)).2, e]
    exact n3 p hp'
  · rw [(xo (39 + 4) (by omega) (by omega) (by omega)).1]; exact p5
  · rw [(xo (39 + 4) (by omega) (by omega) (by omega)).1]; exact p7
  · rw [yo 73 (by omega) (by omega) (by omega) (by omega)]; exact p73
end AddP
