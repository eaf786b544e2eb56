section Lf5
variable {X Y : Mem} {lf e : Nat} (d : Nat)
theorem da_end {s t : Nat} (h : t ≤ s) : C2 d j_m_doAll [vR 12 179, vI (s : Int), vI (t : Int)] Y = some (none, Y) := by
  rw [q_m_doAll, q_m_doAll_2, if_neg (by omega)]
theorem da_stop {s : Int} {t : Nat} (h : ¬ Y.1 179 35 = 0) : C2 d j_m_doAll [vR 12 179, vI s, vI (t : Int)] Y = some (none, Y) := by
  rw [q_m_doAll, q_m_doAll_2, if_neg h]
  by_cases c : s < (t : Int)
  · rw [if_pos c]
  · rw [if_neg c]
theorem da_go {s t : Nat} (h : s < t) (hs : s < 30) (h35 : Y.1 179 35 = 0) : C2 d j_m_doAll [vR 12 179, vI (s : Int), vI (t : Int)] Y = (bV (C2 d j_m_doOne [vR 12 179, vI (s : Int)] Y) fun M1 => C2 d j_m_doAll [vR 12 179, vI (mV M1 (83 + 9 * s)), vI (t : Int)] M1) := by
  have w1 : w32 (w32 (75 + w32 (9 * (s : Int))) + 8) = ((83 + 9 * s : Nat) : Int) := by
    rw [w32s (x := 9 * (s : Int)) (by omega), w32s (x := 75 + 9 * (s : Int)) (by omega), w32s (by omega)]; omega
  rw [q_m_doAll, q_m_doAll_2, if_pos (by omega), if_pos h35, w1, Int.toNat_natCast]
  refine congrArg (bV (C2 d j_m_doOne [vR 12 179, vI (s : Int)] Y)) (funext fun M1 => ?_)
  rw [if_pos (by omega), q_m_doAll]
  rfl
theorem w75 {s : Nat} (hs : s < 30) : w32 (75 + w32 (9 * (s : Int))) = ((75 + 9 * s : Nat) : Int) := by
  rw [w32s (x := 9 * (s : Int)) (by omega), w32s (by omega)]; omega
theorem w83 {s : Nat} (hs : s < 30) : w32 (((75 + 9 * s : Nat) : Int) + 8) = ((83 + 9 * s : Nat) : Int) := by
  rw [w32s (by omega)]; omega
theorem do_300 {s : Nat} (h : Y.1 179 37 = 300) : C2 d j_m_doOne [vR 12 179, vI (s : Int)] Y = some (none, putI (putI Y 179 35 1) 179 42 1) := by
  rw [q_m_doOne, if_pos h]
/-- a step is counted -/
def y1 (Y : Mem) : Mem := putI Y 179 37 (Y.1 179 37 + 1)
theorem do_go {s : Nat} (hs : s < 30) (h : 0 ≤ Y.1 179 37 ∧ Y.1 179 37 < 300) : C2 d j_m_doOne [vR 12 179, vI (s : Int)] Y = (if mV Y (75 + 9 * s) < 8 then (bI (C2 d j_m_does [vR 12 179, vI ((75 + 9 * s : Nat) : Int)] (y1 Y)) fun x2 M1 => if x2 = 0 then (some (none, (putI M1 179 38 (w32 (((y1 Y).1 179 38) + 1))))) else (some (none, (putI M1 179 38 (w32 (((y1 Y).1 179 38) + 0)))))) else (if mV Y (75 + 9 * s) = 8 then (bI (C2 d j_m_isSo [vR 12 179, vI ((75 + 9 * s : Nat) : Int)] (y1 Y)) fun x4 M3 => if x4 = 0 then (if mV Y (75 + 9 * s) = 9 then (E2 d r_m_doOne 68 [(0, vR 12 179), (1, vI (s : Int)), (2, vI ((75 + 9 * s : Nat) : Int)), (4, vI 0)] [] M3) else (if 9 < mV Y (75 + 9 * s) then (some (none, (putI M3 179 35 1))) else (some (none, M3)))) else (dpt true d fun d' => bV (C2 d' j_m_doAll [vR 12 179, vI ((s + 1 : Nat) : Int), vI (mV M3 (83 + 9 * s))] M3) fun M5 => some (none, M5))) else (if mV Y (75 + 9 * s) = 9 then (E2 d r_m_doOne 68 [(0, vR 12 179), (1, vI (s : Int)), (2, vI ((75 + 9 * s : Nat) : Int)), (4, vI 0)] [] (y1 Y)) else (if 9 < mV Y (75 + 9 * s) then (some (none, (putI (y1 Y) 179 35 1))) else (some (none, (y1 Y))))))) := by
  have w : w32 (Y.1 179 37 + 1) = Y.1 179 37 + 1 := w32s (by omega)
  have e1 : (putI Y 179 37 (Y.1 179 37 + 1)).1 184 (75 + 9 * s) = mV Y (75 + 9 * s) := congrFun (pI_ne (by decide)) _
  rw [q_m_doOne, if_neg (by omega), w75 hs, if_pos (by omega), w83 hs, Int.toNat_natCast, Int.toNat_natCast, w, e1, w32n (i := s) (by omega)]
  simp only [show (0 : Int) ≤ ((83 + 9 * s : Nat) : Int) ∧ ((83 + 9 * s : Nat) : Int) < 1725 by omega, if_true]
  rfl
theorem do_act {s : Nat} (hs : s < 30) (h : 0 ≤ Y.1 179 37 ∧ Y.1 179 37 < 300) (hk : mV Y (75 + 9 * s) < 8) {b : Bool} {Y2 : Mem} (hd : C2 d j_m_does [vR 12 179, vI ((75 + 9 * s : Nat) : Int)] (y1 Y) = some (some (vI (b01 b)), Y2)) : C2 d j_m_doOne [vR 12 179, vI (s : Int)] Y = some (none, putI Y2 179 38 (w32 (Y.1 179 38 + b01 (!b)))) := by
  have e : (y1 Y).1 179 38 = Y.1 179 38 := pI_nk (by decide)
  rw [do_go d hs h, if_pos hk, hd, bI_k, e]
  cases b
  · rw [if_pos b01_f]; rfl
  · rw [if_neg (by decide)]; rfl
theorem do_stop {s : Nat} (hs : s < 30) (h : 0 ≤ Y.1 179 37 ∧ Y.1 179 37 < 300) (hk : mV Y (75 + 9 * s) = 10) : C2 d j_m_doOne [vR 12 179, vI (s : Int)] Y = some (none, putI (y1 Y) 179 35 1) := by
  rw [do_go d hs h, hk, if_neg (by decide), if_neg (by decide), if_neg (by decide), if_pos (by decide)]
theorem do_no {s : Nat} (hs : s < 30) (h : 0 ≤ Y.1 179 37 ∧ Y.1 179 37 < 300) (hk : mV Y (75 + 9 * s) = 8) (hd : C2 d j_m_isSo [vR 12 179, vI ((75 + 9 * s : Nat) : Int)] (y1 Y) = some (some (vI (b01 false)), y1 Y)) : C2 d j_m_doOne [vR 12 179, vI (s : Int)] Y = some (none, y1 Y) := by
  rw [do_go d hs h, hk, if_neg (by decide), if_pos rfl, hd, bI_k, if_pos b01_f, if_neg (by decide), if_neg (by decide)]
theorem do_yes {s : Nat} (hs : s < 30) (h : 0 ≤ Y.1 179 37 ∧ Y.1 179 37 < 300) (hk : mV Y (75 + 9 * s) = 8) (hd : C2 (d + 1) j_m_isSo [vR 12 179, vI ((75 + 9 * s : Nat) : Int)] (y1 Y) = some (some (vI (b01 true)), y1 Y)) {Y2 : Mem} (hb : C2 d j_m_doAll [vR 12 179, vI ((s + 1 : Nat) : Int), vI (mV Y (83 + 9 * s))] (y1 Y) = some (none, Y2)) : C2 (d + 1) j_m_doOne [vR 12 179, vI (s : Int)] Y = some (none, Y2) := by
  have e1 : mV (y1 Y) (83 + 9 * s) = mV Y (83 + 9 * s) := congrFun (pI_ne (by decide)) _
  rw [do_go _ hs h, hk, if_neg (by decide), if_pos rfl, hd, bI_k, if_neg (by decide), e1]
  show (bV (C2 d j_m_doAll _ _) _) = _
  rw [hb, bV_k]
theorem do_loop {s : Nat} (hs : s < 30) (h : 0 ≤ Y.1 179 37 ∧ Y.1 179 37 < 300) (hk : mV Y (75 + 9 * s) = 9) : C2 d j_m_doOne [vR 12 179, vI (s : Int)] Y = E2 d r_m_doOne 68 [(0, vR 12 179), (1, vI (s : Int)), (2, vI ((75 + 9 * s : Nat) : Int)), (4, vI 0)] [] (y1 Y) := by
  rw [do_go d hs h, hk, if_neg (by decide), if_neg (by decide), if_pos rfl]
theorem lp_end {s i : Nat} (hs : s < 30) (h : ¬ ((i : Int) < mV Y (76 + 9 * s)) ∨ ¬ Y.1 179 35 = 0) : E2 d r_m_doOne 68 [(0, vR 12 179), (1, vI (s : Int)), (2, vI ((75 + 9 * s : Nat) : Int)), (4, vI (i : Int))] [] Y = some (none, Y) := by
  have w1 : w32 (((75 + 9 * s : Nat) : Int) + 1) = ((76 + 9 * s : Nat) : Int) := by rw [w32s (by omega)]; omega
  rw [q_m_doOne_68, w1, if_pos (by omega), Int.toNat_natCast, show Y.1 184 (76 + 9 * s) = mV Y (76 + 9 * s) from rfl]
  by_cases c : (i : Int) < mV Y (76 + 9 * s)
  · rw [if_pos c]
    rcases h with h | h
    · exact absurd c h
    · rw [if_neg h]
  · rw [if_neg c]
theorem lp_go {s i : Nat} (hs : s < 30) (hi : i < 1000) (h : (i : Int) < mV Y (76 + 9 * s)) (h0 : Y.1 179 35 = 0) {Y2 : Mem} (hb : C2 d j_m_doAll [vR 12 179, vI ((s + 1 : Nat) : Int), vI (mV Y (83 + 9 * s))] Y = some (none, Y2)) : E2 (d + 1) r_m_doOne 68 [(0, vR 12 179), (1, vI (s : Int)), (2, vI ((75 + 9 * s : Nat) : Int)), (4, vI (i : Int))] [] Y = E2 (d + 1) r_m_doOne 68 [(0, vR 12 179), (1, vI (s : Int)), (2, vI ((75 + 9 * s : Nat) : Int)), (4, vI ((i + 1 : Nat) : Int))] [] Y2 := by
  have w1 : w32 (((75 + 9 * s : Nat) : Int) + 1) = ((76 + 9 * s : Nat) : Int) := by rw [w32s (by omega)]; omega
  rw [q_m_doOne_68, w1, if_pos (by omega), Int.toNat_natCast, show Y.1 184 (76 + 9 * s) = mV Y (76 + 9 * s) from rfl, if_pos h, if_pos h0, w83 hs, if_pos (by omega), w32n (i := s) (by omega), w32n (i := i) (by omega), Int.toNat_natCast]
  show (bV (C2 d j_m_doAll [vR 12 179, vI ((s + 1 : Nat) : Int), vI (mV Y (83 + 9 * s))] Y) _) = _
  rw [hb, bV_k]
end Lf5
