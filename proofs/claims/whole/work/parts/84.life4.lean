section Lf4
variable {X Y : Mem} {lf e : Nat} (d : Nat)
theorem st_holds2 (d1 : Nat) (h : LR X Y lf e) {s r : Nat} (hs : s < 30) (hr : r < 60) (hS : StR X (e + 4) (mV Y) s r) (hk : mV Y (75 + 9 * s) = 8) : ∃ b, C2 d1 j_m_isSo [vR 12 179, vI ((75 + 9 * s : Nat) : Int)] Y = some (some (vI (b01 b)), Y) ∧ C2 d j_lf_holds [vR 1 e, vI (r : Int)] X = some (some (vI (b01 b)), X) := by
  obtain ⟨hk0, hw, c0, c1, c3, c4, c6, c8, c9⟩ := hS
  have w1 : w32 (((75 + 9 * s : Nat) : Int) + 1) = ((76 + 9 * s : Nat) : Int) := by rw [w32s (by omega)]; omega
  have w6 : w32 (((75 + 9 * s : Nat) : Int) + 6) = ((81 + 9 * s : Nat) : Int) := by rw [w32s (by omega)]; omega
  have w7 : w32 (((75 + 9 * s : Nat) : Int) + 7) = ((82 + 9 * s : Nat) : Int) := by rw [w32s (by omega)]; omega
  have eA := q_lf_holds e (r : Int) d X
  have eD := q_m_isSo ((75 + 9 * s : Nat) : Int) d1 Y
  have e5 : X.1 e 2 = mV Y 5 := h.1.2.1.2.2.1
  rw [if_pos (by omega), Int.toNat_natCast, e5] at eA
  rw [w1, w6, w7, if_pos (by omega), if_pos (by omega), Int.toNat_natCast, Int.toNat_natCast, Int.toNat_natCast, show Y.1 184 (76 + 9 * s) = mV Y (76 + 9 * s) from rfl, show Y.1 184 (81 + 9 * s) = mV Y (81 + 9 * s) from rfl, show Y.1 184 (82 + 9 * s) = mV Y (82 + 9 * s) from rfl, show Y.1 184 5 = mV Y 5 from rfl] at eD
  rcases c8 hk with ⟨f1, f2, f3, f4, f5⟩ | ⟨f1, f2⟩ | ⟨f1, f2, f3, f4⟩
  · rw [f2, if_pos rfl, em_knownAfter d h.1, bI_k, if_pos (by omega), f3, sAft_0 h.2.1.1] at eA
    rw [f1, if_pos rfl, m_knownNow d1 h.2.1.1, bI_k, q_m_has] at eD
    by_cases c : xand (xshr (sNow (mV Y)) (mV Y (76 + 9 * s))) 1 = 1
    · rw [if_pos c] at eA eD
      rw [bI_k, if_pos (Or.inr rfl)] at eD
      exact ⟨true, eD, eA⟩
    · rw [if_neg c] at eA eD
      rw [bI_k, if_pos (Or.inl rfl)] at eD
      exact ⟨false, eD, eA⟩
  · rw [f2, if_neg (by decide), if_pos rfl] at eA
    rw [f1, if_neg (by decide), if_pos rfl] at eD
    exact ⟨_, eD.trans (bI_b (m_isWhole d1 h.2.1.1)), eA.trans (bI_b (em_whole d h.1))⟩
  · rw [f2, if_neg (by decide), if_neg (by decide), if_pos (by omega), if_pos (by omega), f3, f4, q_lf_compares] at eA
    rw [f1, if_neg (by decide), if_neg (by decide), if_pos (by omega)] at eD
    by_cases g1 : mV Y (82 + 9 * s) = 60
    · rw [if_pos g1] at eA eD
      by_cases g : mV Y 5 < mV Y (76 + 9 * s)
      · rw [if_pos g] at eA eD
        rw [bI_k, if_pos (Or.inr rfl)] at eA
        exact ⟨true, eD, eA⟩
      · rw [if_neg g] at eA eD
        rw [bI_k, if_pos (Or.inl rfl)] at eA
        exact ⟨false, eD, eA⟩
    · rw [if_neg g1] at eA eD
      rw [if_pos (by omega)] at eD
      by_cases g2 : mV Y (82 + 9 * s) = 62
      · rw [if_pos g2] at eA eD
        by_cases g : mV Y (76 + 9 * s) < mV Y 5
        · rw [if_pos g] at eA eD
          rw [bI_k, if_pos (Or.inr rfl)] at eA
          exact ⟨true, eD, eA⟩
        · rw [if_neg g] at eA eD
          rw [bI_k, if_pos (Or.inl rfl)] at eA
          exact ⟨false, eD, eA⟩
      · rw [if_neg g2] at eA eD
        by_cases g : mV Y 5 = mV Y (76 + 9 * s)
        · rw [if_pos g] at eA eD
          rw [bI_k, if_pos (Or.inr rfl)] at eA
          exact ⟨true, eD, eA⟩
        · rw [if_neg g] at eA eD
          rw [bI_k, if_pos (Or.inl rfl)] at eA
          exact ⟨false, eD, eA⟩
/-- the class at a row -/
noncomputable def pu (lf e r mv : Nat) (X : Mem) : Option Res := E2 d r_lf_pursue 28 [(0, vR 4 lf), (1, vR 1 e), (3, vR 6 (e + 4)), (4, vI (r : Int)), (5, vI (mv : Int))] [] X
variable {m r E mv : Nat}
theorem pu_fin (hm : X.1 (e + 4) 5 = (m : Int)) (hr : m ≤ r) : pu d lf e r mv X = some (none, X) := by
  unfold pu
  rw [q_lf_pursue_28, hm]
  by_cases c : (mv : Int) < 1000000
  · rw [if_pos c, if_neg (by omega)]
  · rw [if_neg c]
theorem pu_left (hv : ¬ X.1 lf 5 = 0) : pu d lf e r mv X = some (none, X) := by
  unfold pu
  rw [q_lf_pursue_28, if_neg hv]
  by_cases c : (mv : Int) < 1000000
  · rw [if_pos c]
    by_cases c2 : (r : Int) < X.1 (e + 4) 5
    · rw [if_pos c2]
    · rw [if_neg c2]
  · rw [if_neg c]
theorem pu_go (hm : X.1 (e + 4) 5 = (m : Int)) (hr : r < m) (h60 : m ≤ 60) (hv : X.1 lf 5 = 0) (hq : mv ≤ 900000) (hw : ¬ X.1 (e + 4 + 1) r = 26) (hd : X.1 lf 0 < 300) : pu d lf e r mv X = (bI (C2 d j_lf_isTurning [vI (X.1 (e + 4 + 1) r)] X) fun x4 M3 => if x4 = 0 then (bI (C2 d j_lf_achieve [vR 4 lf, vR 1 e, vI (r : Int)] (putI M3 lf 0 (w32 ((M3.1 lf 0) + 1)))) fun x6 M5 => if x6 = 0 then pu d lf e (r + 1) (mv + 1) (putI M5 lf 1 (w32 (((putI M3 lf 0 (w32 ((M3.1 lf 0) + 1))).1 lf 1) + 1))) else pu d lf e (r + 1) (mv + 1) (putI M5 lf 1 (w32 (((putI M3 lf 0 (w32 ((M3.1 lf 0) + 1))).1 lf 1) + 0)))) else (bI (C2 d j_lf_behindTurning [vR 4 lf, vR 1 e, vI (r : Int)] (putI M3 lf 0 (w32 ((M3.1 lf 0) + 1)))) fun x8 M7 => E2 d r_lf_pursue 28 [(0, vR 4 lf), (1, vR 1 e), (3, vR 6 (e + 4)), (4, vI x8), (5, vI ((mv + 1 : Nat) : Int))] [] M7)) := by
  unfold pu
  rw [q_lf_pursue_28, hm, if_pos (by omega), if_pos (by omega), if_pos hv, if_pos (by omega), Int.toNat_natCast, if_neg hw, if_pos hd, if_pos (by omega), w32n (i := r) (by omega), w32n (i := mv) (by omega)]
theorem pu_300 (hm : X.1 (e + 4) 5 = (m : Int)) (hr : r < m) (h60 : m ≤ 60) (hv : X.1 lf 5 = 0) (hq : mv ≤ 900000) (hw : ¬ X.1 (e + 4 + 1) r = 26) (hd : ¬ X.1 lf 0 < 300) : pu d lf e r mv X = some (none, putI X lf 5 1) := by
  have h1 : pu d lf e r mv X = pu d lf e r (mv + 1) (putI X lf 5 1) := by
    unfold pu
    rw [q_lf_pursue_28, hm, if_pos (by omega), if_pos (by omega), if_pos hv, if_pos (by omega), Int.toNat_natCast, if_neg hw, if_neg hd, w32n (i := mv) (by omega)]
  rw [h1, pu_left]
  rw [pI_s]; decide
theorem pu_end (hm : X.1 (e + 4) 5 = (m : Int)) (hE : E < m) (h60 : m ≤ 60) (hv : X.1 lf 5 = 0) (hq : mv ≤ 900000) (hw : X.1 (e + 4 + 1) E = 26) (hp : X.1 (e + 4 + 5) E = (r : Int)) (hr : r < 60) {v : Nat} (ht : X.1 (lf + 1) r = ((v + 1 : Nat) : Int)) (hv1 : v < 1000) : pu d lf e E mv X = if 0 < v then pu d lf e (r + 1) (mv + 1) (putI X (lf + 1) r (v : Int)) else pu d lf e (E + 1) (mv + 1) (putI X (lf + 1) r (v : Int)) := by
  have hb := q_lf_behindEnd lf (e + 4) (E : Int) d X
  rw [if_pos (by omega), Int.toNat_natCast, hp, if_pos (by omega), if_pos (by omega), if_pos (by omega), Int.toNat_natCast, ht, w32s (by omega), show (((v + 1 : Nat) : Int) - 1) = (v : Int) by omega, pI_s, w32n (i := r) (by omega), w32n (i := E) (by omega)] at hb
  have h1 : pu d lf e E mv X = (bI (C2 d j_lf_behindEnd [vR 4 lf, vR 6 (e + 4), vI (E : Int)] X) fun x2 M1 => E2 d r_lf_pursue 28 [(0, vR 4 lf), (1, vR 1 e), (3, vR 6 (e + 4)), (4, vI x2), (5, vI ((mv + 1 : Nat) : Int))] [] M1) := by
    unfold pu
    rw [q_lf_pursue_28, hm, if_pos (by omega), if_pos (by omega), if_pos hv, if_pos (by omega), Int.toNat_natCast, if_pos hw, w32n (i := mv) (by omega)]
  rw [h1, hb]
  by_cases c : 0 < v
  · rw [if_pos (by omega), if_pos c, bI_k]; rfl
  · rw [if_neg (by omega), if_neg c, bI_k]; rfl
end Lf4
