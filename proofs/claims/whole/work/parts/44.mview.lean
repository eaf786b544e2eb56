/-! the same of the reference -/
def mV (M : Mem) : Nat → Int := fun k => M.1 184 k
section MdR
variable {M : Mem} (d : Nat)
theorem m_has (x : Int) (k : Nat) (hk : k < 32) : C2 d j_m_has [vI x, vI (k : Int)] M = some (some (vI (b01 (bt x k))), M) := by
  rw [q_m_has, bit_is hk]
  cases bt x k
  · rfl
  · rfl
theorem m_lives (k : Nat) (hk : k < 100) : C2 d j_m_lives [vR 12 179, vI (k : Int)] M = some (some (vI (b01 (decide (mV M (57 + k) = 0)))), M) := by
  rw [q_m_lives, w32s (by omega), if_pos (by omega), show (57 + (k : Int)).toNat = 57 + k by omega]
  unfold mV b01
  by_cases c : M.1 184 (57 + k) = 0
  · rw [if_pos c, decide_eq_true c]; rfl
  · rw [if_neg c, decide_eq_false c]; rfl
theorem m_living (hc : Wc (mV M)) : C2 d j_m_living [vR 12 179] M = some (some (vI (sLiv (mV M))), M) := by
  unfold Wc at hc
  have e1 : M.1 184 1 = mV M 1 := rfl
  rw [q_m_living]
  refine un_loop (r := fun s => some (some (vI s), M)) (u := sLiv (mV M)) (P := fun i s => E2 d r_m_living 4 [(0, vR 12 179), (1, vI s), (2, vI (i : Int))] [] M) rfl (fun i s hi hr => ?_) (fun s hr => ?_)
  · rw [q_m_living_4, if_pos (by omega), m_lives d i (by omega), bI_k, w32n (by omega), or_0 hr]
    cases decide (mV M (57 + i) = 0)
    · rfl
    · rfl
  · rw [q_m_living_4, if_neg (by omega)]
theorem m_written (hc : Wc (mV M)) : C2 d j_m_written [vR 12 179] M = some (some (vI (sWr (mV M))), M) := by
  unfold Wc at hc
  have e1 : M.1 184 0 = mV M 0 := rfl
  rw [q_m_written]
  refine un_loop (r := fun s => some (some (vI s), M)) (u := sWr (mV M)) (P := fun i s => E2 d r_m_written 4 [(0, vR 12 179), (1, vI s), (2, vI (i : Int))] [] M) rfl (fun i s hi hr => ?_) (fun s hr => ?_)
  · rw [q_m_written_4, if_pos (by omega), w32s (x := 21 + (i : Int)) (by omega), if_pos (by omega), show (21 + (i : Int)).toNat = 21 + i by omega, w32n (by omega), or_0 hr]
    by_cases c : M.1 184 (21 + i) = 1
    · rw [if_pos c, decide_eq_true (show mV M (21 + i) = 1 from c)]; rfl
    · rw [if_neg c, decide_eq_false (show ¬ mV M (21 + i) = 1 from c)]; rfl
  · rw [q_m_written_4, if_neg (by omega)]
theorem m_knownTo (hc : Wc (mV M)) (p : Int) : C2 d j_m_knownTo [vR 12 179, vI p] M = some (some (vI (sTo (mV M) p)), M) := by
  unfold Wc at hc
  have e1 : M.1 184 1 = mV M 1 := rfl
  rw [q_m_knownTo]
  refine un_loop (r := fun s => some (some (vI s), M)) (u := sTo (mV M) p) (P := fun i s => E2 d r_m_knownTo 4 [(0, vR 12 179), (1, vI p), (2, vI s), (3, vI (i : Int))] [] M) rfl (fun i s hi hr => ?_) (fun s hr => ?_)
  · rw [q_m_knownTo_4, if_pos (by omega), m_has d p i (by omega), bI_k, w32s (x := 49 + (i : Int)) (by omega), if_pos (show (0 : Int) ≤ 49 + i ∧ (49 + (i : Int)) < 1725 by omega), show (49 + (i : Int)).toNat = 49 + i by omega, w32n (by omega), or_0 hr]
    cases bt p i
    · rfl
    · rfl
  · rw [q_m_knownTo_4, if_neg (by omega)]
theorem m_pricesOf (hc : Wc (mV M)) (p : Int) : C2 d j_m_pricesOf [vR 12 179, vI p] M = some (some (vI (sPr (mV M) p)), M) := by
  unfold Wc at hc
  have e1 : M.1 184 1 = mV M 1 := rfl
  rw [q_m_pricesOf]
  refine sm_loop (r := fun s => some (some (vI s), M)) (u := sPr (mV M) p) (P := fun i s => E2 d r_m_pricesOf 4 [(0, vR 12 179), (1, vI p), (2, vI s), (3, vI (i : Int))] [] M) rfl (fun i s hi hr => ?_) (fun s hr => ?_)
  · rw [q_m_pricesOf_4, if_pos (by omega), m_has d p i (by omega), bI_k, w32s (x := 41 + (i : Int)) (by omega), if_pos (show (0 : Int) ≤ 41 + i ∧ (41 + (i : Int)) < 1725 by omega), show (41 + (i : Int)).toNat = 41 + i by omega, w32n (by omega), Int.add_zero, w32_of hr]
    cases bt p i
    · rfl
    · rfl
  · rw [q_m_pricesOf_4, if_neg (by omega)]
theorem m_knowersOf (hc : Wc (mV M)) (p : Nat) (hp : p < 32) : C2 d j_m_knowersOf [vR 12 179, vI (p : Int)] M = some (some (vI (sWho (mV M) p)), M) := by
  unfold Wc at hc
  have e1 : M.1 184 1 = mV M 1 := rfl
  rw [q_m_knowersOf]
  refine un_loop (r := fun s => some (some (vI s), M)) (u := sWho (mV M) p) (P := fun i s => E2 d r_m_knowersOf 4 [(0, vR 12 179), (1, vI (p : Int)), (2, vI s), (3, vI (i : Int))] [] M) rfl (fun i s hi hr => ?_) (fun s hr => ?_)
  · rw [q_m_knowersOf_4, if_pos (by omega), m_lives d i (by omega), bI_k, w32s (x := 49 + (i : Int)) (by omega), if_pos (show (0 : Int) ≤ 49 + i ∧ (49 + (i : Int)) < 1725 by omega), show (49 + (i : Int)).toNat = 49 + i by omega, m_has d _ p hp, bI_k, w32n (by omega), or_0 hr]
    rw [bit_is hp]
    show (if b01 (decide (mV M (57 + i) = 0)) = 0 then _ else if b01 (bt (mV M (49 + i)) p) = 0 then _ else _) = _
    cases decide (mV M (57 + i) = 0)
    · rfl
    · cases bt (mV M (49 + i)) p
      · rfl
      · rfl
  · rw [q_m_knowersOf_4, if_neg (by omega)]
theorem m_knownNow (hc : Wc (mV M)) : C2 d j_m_knownNow [vR 12 179] M = some (some (vI (sNow (mV M))), M) := by
  rw [q_m_knownNow, m_written d hc, bI_k, m_living d hc, bI_k, m_knownTo d hc, bI_k]; rfl
theorem m_allParts : C2 d j_m_allParts [vR 12 179] M = some (some (vI (sAP (mV M))), M) := q_m_allParts d M
theorem m_allHands : C2 d j_m_allHands [vR 12 179] M = some (some (vI (sAH (mV M))), M) := q_m_allHands d M
theorem m_isWhole (hc : Wc (mV M)) : C2 d j_m_isWhole [vR 12 179] M = some (some (vI (b01 (sWhole (mV M)))), M) := by
  rw [q_m_isWhole, m_knownNow d hc, bI_k, m_allParts, bI_k]
  show (if 0 < mV M 0 then _ else _) = _
  unfold sWhole b01
  by_cases c : 0 < mV M 0
  · by_cases c2 : sNow (mV M) = sAP (mV M)
    · simp [c, c2]
    · simp [c, c2]
  · simp [c]
theorem m_canSell (hc : Wc (mV M)) (p : Int) : C2 d j_m_canSell [vR 12 179, vI p] M = some (some (vI (b01 (sSell (mV M) p))), M) := by
  rw [q_m_canSell, m_knownTo d hc, bI_k, m_allParts, bI_k]
  show (if 0 < mV M 0 then _ else _) = _
  unfold sSell b01
  by_cases c : 0 < mV M 0
  · by_cases c2 : sTo (mV M) p = sAP (mV M)
    · simp [c, c2]
    · simp [c, c2]
  · simp [c]
theorem m_lostBy (hc : Wc (mV M)) (p : Int) : C2 d j_m_lostBy [vR 12 179, vI p] M = some (some (vI (sLost (mV M) p)), M) := by
  rw [q_m_lostBy, m_knownNow d hc, bI_k, m_written d hc, bI_k, m_living d hc, bI_k, m_knownTo d hc, bI_k]; rfl
theorem m_isPartAt (hc : Wc (mV M)) (p : Int) : C2 d j_m_isPartAt [vR 12 179, vI p] M = some (some (vI (if 0 ≤ p ∧ p < mV M 0 then 1 else 0)), M) := by
  unfold Wc at hc
  have e1 : M.1 184 0 = mV M 0 := rfl
  rw [q_m_isPartAt, m_isIn, bI_k, if_pos i01', w32s (by omega)]
  by_cases c : 0 ≤ p ∧ p < mV M 0
  · rw [if_pos c, if_pos (by omega)]
  · rw [if_neg c, if_neg (by omega)]
theorem m_isHandAt (hc : Wc (mV M)) (p : Int) : C2 d j_m_isHandAt [vR 12 179, vI p] M = some (some (vI (if 0 ≤ p ∧ p < mV M 1 then 1 else 0)), M) := by
  unfold Wc at hc
  have e1 : M.1 184 1 = mV M 1 := rfl
  rw [q_m_isHandAt, m_isIn, bI_k, if_pos i01', w32s (by omega)]
  by_cases c : 0 ≤ p ∧ p < mV M 1
  · rw [if_pos c, if_pos (by omega)]
  · rw [if_neg c, if_neg (by omega)]
theorem m_isSpringAt (hc : Wc (mV M)) (p : Int) : C2 d j_m_isSpringAt [vR 12 179, vI p] M = some (some (vI (if 0 ≤ p ∧ p < mV M 2 then 1 else 0)), M) := by
  unfold Wc at hc
  have e1 : M.1 184 2 = mV M 2 := rfl
  rw [q_m_isSpringAt, m_isIn, bI_k, if_pos i01', w32s (by omega)]
  by_cases c : 0 ≤ p ∧ p < mV M 2
  · rw [if_pos c, if_pos (by omega)]
  · rw [if_neg c, if_neg (by omega)]
theorem m_areHands (p : Int) : C2 d j_m_areHands [vR 12 179, vI p] M = some (some (vI (if 0 ≤ p ∧ p ≤ sAH (mV M) then 1 else 0)), M) := by
  rw [q_m_areHands, m_allHands, bI_k, m_isIn, bI_k, if_pos i01']
theorem m_isOurs (s : Nat) (hs : s < 100) : C2 d j_m_isOurs [vR 12 179, vI (s : Int)] M = some (some (vI (if mV M 4 < mV M (65 + s) then 0 else 1)), M) := by
  rw [q_m_isOurs, w32s (by omega), if_pos (by omega), show (65 + (s : Int)).toNat = 65 + s by omega]
  show (if mV M 4 < mV M (65 + s) then _ else _) = _
  by_cases c : mV M 4 < mV M (65 + s)
  · rw [if_pos c, if_pos c]
  · rw [if_neg c, if_neg c]
/-- how many of eight -/
def sSz (x : Int) : Int := smB (fun h => bt x h) (fun _ => 1) 8
theorem m_sizeOf (x : Int) : C2 d j_m_sizeOf [vI x] M = some (some (vI (sSz x)), M) := by
  rw [q_m_sizeOf]
  refine sm_loop (r := fun s => some (some (vI s), M)) (u := sSz x) (P := fun i s => E2 d r_m_sizeOf 4 [(0, vI x), (1, vI s), (2, vI (i : Int))] [] M) rfl (fun i s hi hr => ?_) (fun s hr => ?_)
  · rw [q_m_sizeOf_4, if_pos (by omega), m_has d x i (by omega), bI_k, w32n (by omega), Int.add_zero, w32_of hr]
    cases bt x i
    · rfl
    · rfl
  · rw [q_m_sizeOf_4, if_neg (by omega)]
end MdR
theorem bc_256 : ∀ k : Nat, k < 256 → ∀ d M, C2 d j_int_bitCount [vI (k : Int)] M = some (some (vI (sSz (k : Int))), M) := by
  intro k hk d M
  rw [q_int_bitCount]
  congr 4
  revert k
  decide +kernel
theorem bitC (x : Int) (h0 : 0 ≤ x) (h1 : x < 256) (d : Nat) (M : Mem) : C2 d j_int_bitCount [vI x] M = some (some (vI (sSz x)), M) := by
  obtain ⟨k, rfl⟩ : ∃ k : Nat, x = (k : Int) := ⟨x.toNat, by omega⟩
  exact bc_256 k (by omega) d M
