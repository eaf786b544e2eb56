/-! an empire as numbers by place (the places of the reference): V; what is said of it -/
def sLiv (V : Nat → Int) : Int := unB (fun h => decide (V (57 + h) = 0)) (fun h => xshl 1 (h : Int)) (V 1).toNat
def sWr (V : Nat → Int) : Int := unB (fun p => decide (V (21 + p) = 1)) (fun p => xshl 1 (p : Int)) (V 0).toNat
def sTo (V : Nat → Int) (set : Int) : Int := unB (fun h => bt set h) (fun h => V (49 + h)) (V 1).toNat
def sWho (V : Nat → Int) (p : Int) : Int := unB (fun h => decide (V (57 + h) = 0) && decide (xand (xshr (V (49 + h)) p) 1 = 1)) (fun h => xshl 1 (h : Int)) (V 1).toNat
def sPr (V : Nat → Int) (set : Int) : Int := smB (fun h => bt set h) (fun h => V (41 + h)) (V 1).toNat
def sAP (V : Nat → Int) : Int := w32 (xshl 1 (V 0) - 1)
def sAH (V : Nat → Int) : Int := w32 (xshl 1 (V 1) - 1)
def sLeft (V : Nat → Int) (h : Nat) : Int := max 1 (w32 (V 3 - V (33 + h)))
def sFad (V : Nat → Int) (y : Int) : Int := unB (fun p => decide (0 < y) && !decide (w32 (V (27 + p) + y) < V (9 + p))) (fun p => xshl 1 (p : Int)) (V 0).toNat
def sKA (V : Nat → Int) (y : Int) : Int := unB (fun h => decide (V (57 + h) = 0) && decide (y < sLeft V h)) (fun h => V (49 + h)) (V 1).toNat
def sAft (V : Nat → Int) (y : Int) : Int := xor32 (sWr V) (xand (sKA V y) (xxor (sFad V y) (-1)))
def sNow (V : Nat → Int) : Int := xor32 (sWr V) (sTo V (sLiv V))
def sWhole (V : Nat → Int) : Bool := decide (0 < V 0) && decide (sNow V = sAP V)
def sSell (V : Nat → Int) (set : Int) : Bool := decide (0 < V 0) && decide (sTo V set = sAP V)
def sLost (V : Nat → Int) (set : Int) : Int := xand (sNow V) (xxor (xor32 (sWr V) (sTo V (xand (sLiv V) (xxor set (-1))))) (-1))
def b01 (b : Bool) : Int := bif b then 1 else 0
theorem b01_or (b : Bool) : b01 b = 0 ∨ b01 b = 1 := by cases b <;> simp [b01]
/-- the counts -/
def Wc (V : Nat → Int) : Prop := 0 ≤ V 0 ∧ V 0 ≤ 6 ∧ 0 ≤ V 1 ∧ V 1 ≤ 8 ∧ 0 ≤ V 2 ∧ V 2 ≤ 4
/-- the empire at a cell says what V says -/
def Rl (M : Mem) (e : Nat) (V : Nat → Int) : Prop :=
  Wc V ∧ (M.1 e 0 = V 3 ∧ M.1 e 1 = V 4 ∧ M.1 e 2 = V 5 ∧ M.1 e 3 = V 6 ∧ M.1 e 4 = V 7 ∧ M.1 e 5 = V 8 ∧ M.1 e 6 = sWr V ∧ M.1 e 7 = V 0 ∧ M.1 e 8 = V 1 ∧ M.1 e 9 = V 2) ∧
  (∀ p : Nat, (p : Int) < V 0 → M.1 ((e + 1) + 9 + 1 * p) 1 = V (9 + p) ∧ M.1 ((e + 1) + 9 + 1 * p) 2 = V (15 + p) ∧ M.1 ((e + 1) + 9 + 1 * p) 3 = V (27 + p)) ∧
  (∀ h : Nat, (h : Int) < V 1 → M.1 ((e + 2) + 14 + 1 * h) 1 = V (33 + h) ∧ M.1 ((e + 2) + 14 + 1 * h) 2 = V (41 + h) ∧ M.1 ((e + 2) + 14 + 1 * h) 3 = V (49 + h) ∧ M.1 ((e + 2) + 14 + 1 * h) 4 = V (57 + h)) ∧
  (∀ s : Nat, (s : Int) < V 2 → M.1 ((e + 3) + 21 + 1 * s) 1 = V (65 + s) ∧ M.1 ((e + 3) + 21 + 1 * s) 2 = V (69 + s))
section EmR
variable {M : Mem} {e : Nat} {V : Nat → Int} (d : Nat)
theorem em_living (h : Rl M e V) : C2 d j_em_living [vR 1 e] M = some (some (vI (sLiv V)), M) := by
  obtain ⟨hc, hs, hp, hh, hq⟩ := h
  unfold Wc at hc
  rw [q_em_living]
  refine un_loop (r := fun s => some (some (vI s), M)) (u := sLiv V) (P := fun i s => E2 d r_em_living 4 [(0, vR 1 e), (1, vI s), (2, vI (i : Int))] [] M) rfl (fun i s hi hr => ?_) (fun s hr => ?_)
  · have h1 := hh i (by omega)
    rw [q_em_living_4, if_pos (by omega), if_pos (by omega), Int.toNat_natCast, h1.2.2.2, w32n (by omega)]
    by_cases c : V (57 + i) = 0
    · simp only [c, if_true, decide_true, cond_true]
    · simp only [c, if_false, decide_false, cond_false]
  · rw [q_em_living_4, if_neg (by omega)]
theorem em_livingThatKnow (h : Rl M e V) (p : Int) : C2 d j_em_livingThatKnow [vR 1 e, vI p] M = some (some (vI (sWho V p)), M) := by
  obtain ⟨hc, hs, hp, hh, hq⟩ := h
  unfold Wc at hc
  rw [q_em_livingThatKnow]
  refine un_loop (r := fun s => some (some (vI s), M)) (u := sWho V p) (P := fun i s => E2 d r_em_livingThatKnow 4 [(0, vR 1 e), (1, vI p), (2, vI s), (3, vI (i : Int))] [] M) rfl (fun i s hi hr => ?_) (fun s hr => ?_)
  · have h1 := hh i (by omega)
    rw [q_em_livingThatKnow_4, if_pos (by omega), if_pos (by omega), Int.toNat_natCast, h1.2.2.2, h1.2.2.1, w32n (by omega)]
    by_cases c : V (57 + i) = 0
    · rw [if_pos c, if_pos (by omega)]
      by_cases c2 : xand (xshr (V (49 + i)) p) 1 = 1
      · simp only [c, c2, if_true, decide_true, cond_true, Bool.and_self]
      · simp only [c, c2, if_false, decide_false, cond_false, Bool.and_false]
    · simp only [c, if_false, decide_false, cond_false, Bool.false_and]
  · rw [q_em_livingThatKnow_4, if_neg (by omega)]
theorem em_knowledgeOf (h : Rl M e V) (p : Int) : C2 d j_em_knowledgeOf [vR 1 e, vI p] M = some (some (vI (sTo V p)), M) := by
  obtain ⟨hc, hs, hp, hh, hq⟩ := h
  unfold Wc at hc
  rw [q_em_knowledgeOf]
  refine un_loop (r := fun s => some (some (vI s), M)) (u := sTo V p) (P := fun i s => E2 d r_em_knowledgeOf 4 [(0, vR 1 e), (1, vI p), (2, vI s), (3, vI (i : Int))] [] M) rfl (fun i s hi hr => ?_) (fun s hr => ?_)
  · have h1 := hh i (by omega)
    rw [q_em_knowledgeOf_4, if_pos (by omega), if_pos (show (0 : Int) ≤ i ∧ (i : Int) < 8 by omega), Int.toNat_natCast, h1.2.2.1, w32n (by omega), bit_is (by omega)]
    cases bt p i
    · rfl
    · rfl
  · rw [q_em_knowledgeOf_4, if_neg (by omega)]
theorem em_priceOf (h : Rl M e V) (p : Int) : C2 d j_em_priceOf [vR 1 e, vI p] M = some (some (vI (sPr V p)), M) := by
  obtain ⟨hc, hs, hp, hh, hq⟩ := h
  unfold Wc at hc
  rw [q_em_priceOf]
  refine sm_loop (r := fun s => some (some (vI s), M)) (u := sPr V p) (P := fun i s => E2 d r_em_priceOf 4 [(0, vR 1 e), (1, vI p), (2, vI s), (3, vI (i : Int))] [] M) rfl (fun i s hi hr => ?_) (fun s hr => ?_)
  · have h1 := hh i (by omega)
    rw [q_em_priceOf_4, if_pos (by omega), if_pos (show (0 : Int) ≤ i ∧ (i : Int) < 8 by omega), Int.toNat_natCast, h1.2.1, w32n (by omega), bit_is (by omega)]
    cases bt p i
    · rfl
    · rfl
  · rw [q_em_priceOf_4, if_neg (by omega)]
theorem em_yearsLeft (h : Rl M e V) (k : Nat) (hk : (k : Int) < V 1) : C2 d j_em_yearsLeft [vR 1 e, vR 3 ((e + 2) + 14 + 1 * k)] M = some (some (vI (sLeft V k)), M) := by
  obtain ⟨hc, hs, hp, hh, hq⟩ := h
  rw [q_em_yearsLeft, mx_I, bI_k, hs.1, (hh k hk).1]
  rfl
theorem em_fadedWithin (h : Rl M e V) (y : Int) : C2 d j_em_fadedWithin [vR 1 e, vI y] M = some (some (vI (sFad V y)), M) := by
  obtain ⟨hc, hs, hp, hh, hq⟩ := h
  unfold Wc at hc
  rw [q_em_fadedWithin]
  by_cases hy : 0 < y
  · refine un_loop (r := fun s => some (some (vI s), M)) (u := sFad V y) (P := fun i s => E2 d r_em_fadedWithin 4 [(0, vR 1 e), (1, vI y), (2, vI s), (3, vI (i : Int))] [] M) rfl (fun i s hi hr => ?_) (fun s hr => ?_)
    · have h1 := hp i (by omega)
      rw [q_em_fadedWithin_4, if_pos (by omega), if_pos hy, if_pos (by omega), if_pos (by omega), Int.toNat_natCast, h1.2.2, h1.1, w32n (by omega)]
      by_cases c : w32 (V (27 + i) + y) < V (9 + i)
      · simp only [c, hy, if_true, decide_true, Bool.not_true, Bool.and_false, cond_false]
      · simp only [c, hy, if_false, decide_false, decide_true, Bool.not_false, Bool.and_self, cond_true]
    · rw [q_em_fadedWithin_4, if_neg (by omega)]
  · have e0 : sFad V y = 0 := by
      unfold sFad
      refine itr_ind (P := fun _ s => s = 0) rfl _ (fun i s _ hs => ?_)
      rw [hs]; simp [hy]
    rw [e0, q_em_fadedWithin_4]
    by_cases c : (0 : Int) < M.1 e 7
    · rw [if_pos c, if_neg hy]
    · rw [if_neg c]
theorem em_knownAfter (h : Rl M e V) (y : Int) : C2 d j_em_knownAfter [vR 1 e, vI y] M = some (some (vI (sAft V y)), M) := by
  have h0 := h
  obtain ⟨hc, hs, hp, hh, hq⟩ := h
  unfold Wc at hc
  rw [q_em_knownAfter]
  refine un_loop (P := fun i s => E2 d r_em_knownAfter 4 [(0, vR 1 e), (1, vI y), (2, vI s), (3, vI (i : Int))] [] M) (r := fun s => some (some (vI (xor32 (sWr V) (xand s (xxor (sFad V y) (-1))))), M)) (u := sKA V y) rfl (fun i s hi hr => ?_) (fun s hr => ?_)
  · have h1 := hh i (by omega)
    rw [q_em_knownAfter_4, if_pos (by omega), if_pos (by omega), Int.toNat_natCast, h1.2.2.2, em_yearsLeft d h0 i (by omega), bI_k, h1.2.2.1, w32n (by omega)]
    by_cases c : V (57 + i) = 0
    · rw [if_pos c]
      by_cases c2 : y < sLeft V i
      · simp only [c, c2, if_true, decide_true, cond_true, Bool.and_self]
      · simp only [c, c2, if_false, decide_false, cond_false, Bool.and_false]
    · simp only [c, if_false, decide_false, cond_false, Bool.false_and]
  · rw [q_em_knownAfter_4, if_neg (by omega), em_fadedWithin d h0, bI_k, hs.2.2.2.2.2.2.1]
theorem em_allParts (h : Rl M e V) : C2 d j_em_allParts [vR 1 e] M = some (some (vI (sAP V)), M) := by
  rw [q_em_allParts, h.2.1.2.2.2.2.2.2.2.1]; rfl
theorem em_allHands (h : Rl M e V) : C2 d j_em_allHands [vR 1 e] M = some (some (vI (sAH V)), M) := by
  rw [q_em_allHands, h.2.1.2.2.2.2.2.2.2.2.1]; rfl
theorem em_hasPart (h : Rl M e V) (p : Int) : C2 d j_em_hasPart [vR 1 e, vI p] M = some (some (vI (if 0 ≤ p ∧ p < V 0 then 1 else 0)), M) := by
  have hc := h.1
  unfold Wc at hc
  rw [q_em_hasPart, h.2.1.2.2.2.2.2.2.2.1, x_within, bI_k, if_pos i01', w32s (by omega)]
  by_cases c : 0 ≤ p ∧ p < V 0
  · rw [if_pos c, if_pos (by omega)]
  · rw [if_neg c, if_neg (by omega)]
theorem em_hasHand (h : Rl M e V) (p : Int) : C2 d j_em_hasHand [vR 1 e, vI p] M = some (some (vI (if 0 ≤ p ∧ p < V 1 then 1 else 0)), M) := by
  have hc := h.1
  unfold Wc at hc
  rw [q_em_hasHand, h.2.1.2.2.2.2.2.2.2.2.1, x_within, bI_k, if_pos i01', w32s (by omega)]
  by_cases c : 0 ≤ p ∧ p < V 1
  · rw [if_pos c, if_pos (by omega)]
  · rw [if_neg c, if_neg (by omega)]
theorem em_hasSpring (h : Rl M e V) (p : Int) : C2 d j_em_hasSpring [vR 1 e, vI p] M = some (some (vI (if 0 ≤ p ∧ p < V 2 then 1 else 0)), M) := by
  have hc := h.1
  unfold Wc at hc
  rw [q_em_hasSpring, h.2.1.2.2.2.2.2.2.2.2.2, x_within, bI_k, if_pos i01', w32s (by omega)]
  by_cases c : 0 ≤ p ∧ p < V 2
  · rw [if_pos c, if_pos (by omega)]
  · rw [if_neg c, if_neg (by omega)]
theorem em_isHandSet (h : Rl M e V) (p : Int) : C2 d j_em_isHandSet [vR 1 e, vL p] M = some (some (vI (if 0 ≤ p ∧ p ≤ sAH V then 1 else 0)), M) := by
  rw [q_em_isHandSet, em_allHands d h, bI_k, x_within, bI_k, if_pos i01']
theorem em_canSell (h : Rl M e V) (p : Int) : C2 d j_em_canSell [vR 1 e, vI p] M = some (some (vI (b01 (sSell V p))), M) := by
  rw [q_em_canSell, em_knowledgeOf d h, bI_k, em_allParts d h, bI_k, h.2.1.2.2.2.2.2.2.2.1]
  unfold sSell b01
  by_cases c : 0 < V 0
  · by_cases c2 : sTo V p = sAP V
    · simp [c, c2]
    · simp [c, c2]
  · simp [c]
end EmR
/-- known at once is known now -/
theorem sFad_0 {V : Nat → Int} : sFad V 0 = 0 := by
  unfold sFad
  refine itr_ind (P := fun _ s => s = 0) rfl _ (fun i s _ hs => ?_)
  rw [hs]; simp
theorem sAft_0 {V : Nat → Int} (hc : Wc V) : sAft V 0 = sNow V := by
  unfold Wc at hc
  unfold sAft sNow
  rw [sFad_0, and_m1 (show rI (sKA V 0) from rI_un)]
  congr 1
  unfold sKA sTo
  apply un_congr
  · intro i hi
    unfold sLiv
    rw [bt_msk (by omega) (by omega), decide_eq_true hi]
    have : (0 : Int) < sLeft V i := by unfold sLeft; omega
    rw [decide_eq_true this, Bool.and_true, Bool.true_and]
  · intros; rfl
section EmW
variable {M : Mem} {e : Nat} {V : Nat → Int} (d : Nat)
theorem em_whole (h : Rl M e V) : C2 d j_em_isWholeAfter [vR 1 e, vI 0] M = some (some (vI (b01 (sWhole V))), M) := by
  rw [q_em_isWholeAfter, em_knownAfter d h, bI_k, em_allParts d h, bI_k, h.2.1.2.2.2.2.2.2.2.1, sAft_0 h.1]
  unfold sWhole b01
  by_cases c : 0 < V 0
  · by_cases c2 : sNow V = sAP V
    · simp [c, c2]
    · simp [c, c2]
  · simp [c]
theorem em_lostBy (h : Rl M e V) (p : Int) : C2 d j_em_lostBy [vR 1 e, vI p] M = some (some (vI (sLost V p)), M) := by
  rw [q_em_lostBy, em_knownAfter d h, bI_k, em_living d h, bI_k, em_knowledgeOf d h, bI_k, sAft_0 h.1, h.2.1.2.2.2.2.2.2.1]
  rfl
end EmW
