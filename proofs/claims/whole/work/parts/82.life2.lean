section Lf2
variable {X Y : Mem} {lf e : Nat} (d : Nat)
theorem put_set9 {W W' : Nat → Int} {k : Nat} {a b : Int} : putI (setC (putI (setC Y W) 179 k a) W') 179 k b = putI (setC Y W') 179 k b := by
  refine Prod.ext (funext fun c => funext fun j => ?_) rfl
  show up2 (setC (putI (setC Y W) 179 k a) W').1 179 k b c j = up2 (setC Y W').1 179 k b c j
  unfold up2
  by_cases h : c = 179 ∧ j = k
  · rw [if_pos h, if_pos h]
  · rw [if_neg h, if_neg h]
    by_cases h4 : c = 184
    · rw [h4, set_at, set_at]
    · rw [set_ne h4, set_ne h4]
      show up2 (setC Y W).1 179 k a c j = Y.1 c j
      unfold up2
      rw [if_neg h, set_ne h4]
theorem m_anyY (hw : Wf (mV Y)) (n : Int) (hn : 1 ≤ n ∧ n ≤ 20) (hg : rI (Y.1 179 41)) : E2 d r_m_anyYears 12 [(0, vR 12 179), (1, vI n), (2, vI 0)] [] Y = some (some (vI 1), putI (putI (setC Y (vY (mV Y) n)) 179 41 (w32 (Y.1 179 41 + sSz (sDie (mV Y) n)))) 179 39 (w32 (Y.1 179 39 + n))) := by
  refine ex_loop (P := fun i (s : Mem) => E2 d r_m_anyYears 12 [(0, vR 12 179), (1, vI n), (2, vI (i : Int))] [] s) (R := fun r => r = some (some (vI 1), putI (putI (setC Y (vY (mV Y) n)) 179 41 (w32 (Y.1 179 41 + sSz (sDie (mV Y) n)))) 179 39 (w32 (Y.1 179 39 + n)))) (fun i s => s = putI (setC Y (vY (mV Y) i)) 179 41 (w32 (Y.1 179 41 + sSz (sDie (mV Y) i)))) n.toNat (fun i s hi hq => ?_) (fun s hq => ?_) Y ?_
  · subst hq
    refine ⟨_, ?_, rfl⟩
    have hm : mV (putI (setC Y (vY (mV Y) i)) 179 41 (w32 (Y.1 179 41 + sSz (sDie (mV Y) i)))) = vY (mV Y) i := by rw [mV_9, mV_set]
    show E2 d r_m_anyYears 12 [(0, vR 12 179), (1, vI n), (2, vI (i : Int))] [] (putI (setC Y (vY (mV Y) i)) 179 41 (w32 (Y.1 179 41 + sSz (sDie (mV Y) i)))) = E2 d r_m_anyYears 12 [(0, vR 12 179), (1, vI n), (2, vI ((i + 1 : Nat) : Int))] [] (putI (setC Y (vY (mV Y) ((i + 1 : Nat) : Int))) 179 41 (w32 (Y.1 179 41 + sSz (sDie (mV Y) ((i + 1 : Nat) : Int)))))
    rw [q_m_anyYears_12, if_pos (by omega), m_goesYear d (W := vY (mV Y) ((i : Int) + 1)) (by rw [hm]; exact wgY hw (by omega)) (by rw [hm]; exact stpY hw (by omega)), bI_k, m_sizeOf, bI_k, hm, pI_s, w32_w, Int.add_assoc, sz_die hw (by omega), put_set9, w32n (by omega), show ((i : Int) + 1) = ((i + 1 : Nat) : Int) by omega]
  · subst hq
    show E2 d r_m_anyYears 12 [(0, vR 12 179), (1, vI n), (2, vI (n.toNat : Int))] [] (putI (setC Y (vY (mV Y) (n.toNat : Int))) 179 41 (w32 (Y.1 179 41 + sSz (sDie (mV Y) (n.toNat : Int))))) = _
    rw [q_m_anyYears_12, if_neg (by omega), show ((n.toNat : Nat) : Int) = n by omega, pI_nk (by decide), set_ne (by decide)]
  · rw [show (((0 : Nat) : Int)) = 0 from rfl, vY_0 hw, set_self, die_0, show sSz 0 = 0 from rfl, Int.add_zero, w32_of hg, put_own rfl]
/-- a year, or more -/
theorem st_age (d1 : Nat) (h : LR X Y lf e) (hl : e + 28 ≤ lf) (n : Int) (hn : 1 ≤ n ∧ n ≤ 20) : ∃ b X' Y', C2 d j_lf_age [vR 4 lf, vR 1 e, vI n] X = some (some (vI (b01 b)), X') ∧ C2 d1 j_m_anyYears [vR 12 179, vI n] Y = some (some (vI (b01 b)), Y') ∧ StO lf e X Y X' Y' := by
  have h6 := h.2.1.2.2.2.2.1
  have e6 : X.1 e 3 = mV Y 6 := h.1.2.1.2.2.2.1
  have hc := h.2.1.1
  have eY : Y.1 184 6 = mV Y 6 := rfl
  by_cases c : 9999 < mV Y 6 + n
  · refine ⟨false, X, Y, ?_, ?_, StO.rfl h⟩
    · rw [q_lf_age, q_em_hasTimeFor, e6, w32s (by omega), if_pos c, bI_k, if_pos rfl]; rfl
    · rw [q_m_anyYears, eY, w32s (by omega), if_pos c]; rfl
  · obtain ⟨X1, x1, x2, x3⟩ := em_years d h.1 h.2.1 n (by omega)
    have hd := die_b hc n
    have g4 : X.1 lf 4 = Y.1 179 41 := h.2.2.1 4 (by decide)
    have g2 : X.1 lf 2 = Y.1 179 39 := h.2.2.1 2 (by decide)
    have hw : Wf (vY (mV Y) n) := (wgY h.2.1 (by omega)).wf (by rw [vY_6]; omega)
    have t1 := h.deed hl x3 x2 hw (fun k hk => by
      rcases hk with hk | hk
      · exact vY_l hc (Or.inl (by omega))
      · exact vY_c (by omega))
    have t2 := t1.1.cnt hl 4 (by decide) (w32 (Y.1 179 41 + sSz (sDie (mV Y) n))) rI_w
    have t3 := t2.1.cnt hl 2 (by decide) (w32 (Y.1 179 39 + n)) rI_w
    refine ⟨true, _, _, ?_, ?_, (t1.tr t2).tr t3⟩
    · rw [q_lf_age, q_em_hasTimeFor, e6, w32s (by omega), if_neg c, bI_k, if_neg (by decide), x1, bI_k, bitC _ hd.1 hd.2, bI_k, pI_nk (by decide), x3.1 lf (by omega), g4, g2]; rfl
    · rw [q_m_anyYears, eY, w32s (by omega), if_neg c, m_anyY d1 h.2.1 n hn (h.2.2.2.2.2.2 4 (by decide) (by decide))]; rfl
theorem st_make (d1 : Nat) (h : LR X Y lf e) (hl : e + 28 ≤ lf) (n : Int) (hn : 1 ≤ n ∧ n ≤ 999) : ∃ b X' Y', (bI (C2 d j_em_brew [vR 1 e, vI n] X) fun x4 M3 => C2 d j_lf_countMade [vR 4 lf, vI x4, vI n] M3) = some (some (vI (b01 b)), X') ∧ C2 d1 j_m_isMade [vR 12 179, vI n] Y = some (some (vI (b01 b)), Y') ∧ StO lf e X Y X' Y' := by
  obtain ⟨X1, x1, x2, x3⟩ := em_brew d h.1 h.2.1 n hn
  have hc := h.2.1.1
  have t1 := h.deed hl x3 x2 (wf_Br h.2.1 hn.1) (fun k hk => up_dBr hc hk)
  have g3 : X1.1 lf 3 = (setC Y (dBr (mV Y) n)).1 179 40 := t1.1.2.2.1 3 (by decide)
  cases hb : okBr (mV Y) n
  · refine ⟨false, X1, _, ?_, ?_, t1⟩
    · rw [x1, bI_k, hb, q_lf_countMade, if_pos b01_f, if_pos (b01_or _), Int.add_zero, g3, w32_of (t1.1.2.2.2.2.2.2 3 (by decide) (by decide)), put_own g3.symm]
    · rw [q_m_isMade, m_makes d1 h.2.1 n hn, bI_k, hb, if_pos b01_f]; rfl
  · have t2 := t1.1.cnt hl 3 (by decide) (w32 ((setC Y (dBr (mV Y) n)).1 179 40 + n)) rI_w
    refine ⟨true, _, _, ?_, ?_, t1.tr t2⟩
    · rw [x1, bI_k, hb, q_lf_countMade, if_neg (by decide), if_pos (b01_or _), g3]
    · rw [q_m_isMade, m_makes d1 h.2.1 n hn, bI_k, hb, if_neg (by decide)]; rfl
theorem st_seize (d1 : Nat) (h : LR X Y lf e) (hl : e + 28 ≤ lf) (a : Nat) (ha : (a : Int) < mV Y 1) : ∃ b X' Y', (bI (C2 d j_em_seize [vR 1 e, vI (a : Int)] X) fun x4 M3 => C2 d j_lf_countGone [vR 4 lf, vI x4] M3) = some (some (vI (b01 b)), X') ∧ C2 d1 j_m_isCaptured [vR 12 179, vI (a : Int)] Y = some (some (vI (b01 b)), Y') ∧ StO lf e X Y X' Y' := by
  obtain ⟨X1, x1, x2, x3⟩ := em_seize d h.1 a ha
  have hc := h.2.1.1
  unfold Wc at hc
  have t1 := h.deed hl x3 x2 (wf_C h.2.1 ha) (fun k hk => up_dC (by omega) hk)
  have g3 : X1.1 lf 4 = (setC Y (dC (mV Y) a)).1 179 41 := t1.1.2.2.1 4 (by decide)
  cases hb : okC' (mV Y) a
  · refine ⟨false, X1, _, ?_, ?_, t1⟩
    · rw [x1, bI_k, hb, q_lf_countGone, if_pos b01_f, if_pos (b01_or _), Int.add_zero, g3, w32_of (t1.1.2.2.2.2.2.2 4 (by decide) (by decide)), put_own g3.symm]
    · rw [q_m_isCaptured, m_captures d1 h.2.1 a ha, bI_k, hb, if_pos b01_f]; rfl
  · have t2 := t1.1.cnt hl 4 (by decide) (w32 ((setC Y (dC (mV Y) a)).1 179 41 + 1)) rI_w
    refine ⟨true, _, _, ?_, ?_, t1.tr t2⟩
    · rw [x1, bI_k, hb, q_lf_countGone, if_neg (by decide), if_pos (b01_or _), g3]
    · rw [q_m_isCaptured, m_captures d1 h.2.1 a ha, bI_k, hb, if_neg (by decide)]; rfl
/-- by chance -/
theorem st_draw (d1 : Nat) (h : LR X Y lf e) (hl : e + 28 ≤ lf) (hp : 0 < mV Y 1) : ∃ (a : Nat) (X' Y' : Mem), (a : Int) < mV Y' 1 ∧ C2 d j_lf_draw [vR 4 lf, vI (mV Y 1)] X = some (some (vI (a : Int)), X') ∧ C2 d1 j_m_draw [vR 12 179, vI (mV Y 1)] Y = some (some (vI (a : Int)), Y') ∧ StO lf e X Y X' Y' := by
  have g6 : X.1 lf 6 = Y.1 179 36 := h.2.2.2.1
  have hb := h.2.2.2.2.1
  have hc := h.2.1.1
  unfold Wc at hc
  have e1 : xrem (w32 (w32 (Y.1 179 36 * 2971) + 10753)) 65536 = (Y.1 179 36 * 2971 + 10753) % 65536 := by
    rw [w32s (x := Y.1 179 36 * 2971) (by omega), w32s (by omega), xrem_of (by omega) (by omega)]
  have hv : 0 ≤ (Y.1 179 36 * 2971 + 10753) % 65536 ∧ (Y.1 179 36 * 2971 + 10753) % 65536 ≤ 65535 := by omega
  have t1 := h.draw hl _ hv
  generalize (Y.1 179 36 * 2971 + 10753) % 65536 = v at *
  have e2 : xrem (xdiv v 8) (mV Y 1) = v / 8 % mV Y 1 := by
    rw [xdiv_of (by omega) (by omega), xrem_of (by omega) (by omega)]
  have m0 : 0 ≤ v / 8 % mV Y 1 := Int.emod_nonneg _ (by omega)
  have m1 : v / 8 % mV Y 1 < mV Y 1 := Int.emod_lt_of_pos _ hp
  have m2 : ((v / 8 % mV Y 1).toNat : Int) = v / 8 % mV Y 1 := Int.toNat_of_nonneg m0
  refine ⟨(v / 8 % mV Y 1).toNat, _, _, ?_, ?_, ?_, t1⟩
  · rw [mV_9, m2]; exact m1
  · rw [q_lf_draw, if_pos hp, if_neg (by omega), g6, e1, pI_s, e2, m2]
  · rw [q_m_draw, if_neg (by omega), e1, pI_s, e2, m2]
end Lf2
