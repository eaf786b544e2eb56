/-! which parts are needed -/
def al (q : Nat → Bool) : Nat → Bool
  | 0 => true
  | n + 1 => al q n && q n
theorem al_iff {q : Nat → Bool} : ∀ {n : Nat}, al q n = true ↔ ∀ i, i < n → q i = true
  | 0 => ⟨fun _ i hi => absurd hi (by omega), fun _ => rfl⟩
  | n + 1 => by
    show (al q n && q n) = true ↔ _
    rw [Bool.and_eq_true, al_iff (n := n)]
    constructor
    · rintro ⟨h1, h2⟩ i hi
      by_cases c : i = n
      · rw [c]; exact h2
      · exact h1 i (by omega)
    · intro h
      exact ⟨fun i hi => h i (by omega), h n (by omega)⟩
theorem al_c {p q : Nat → Bool} {n : Nat} (h : ∀ i, i < n → p i = q i) : al p n = al q n := by
  induction n with
  | zero => rfl
  | succ n ih =>
    show (al p n && p n) = (al q n && q n)
    rw [ih (fun i hi => h i (by omega)), h n (by omega)]
/-- the set w of parts lies within k -/
def sb (w : Nat) (k : Int) : Bool := al (fun p => bt k p || !w.testBit p) 6
theorem bt_nat {w i : Nat} (hw : w < 2147483648) (hi : i < 32) : bt (w : Int) i = w.testBit i := by
  show (BitVec.ofInt 32 (w : Int)).getLsbD i = _
  rw [BitVec.ofInt_natCast, BitVec.getLsbD_ofNat, decide_eq_true hi, Bool.true_and]
theorem sb_x {w : Nat} {k : Int} (hw : w < 64) : (xand (w : Int) (xxor k (-1)) = 0) ↔ sb w k = true := by
  unfold sb
  rw [al_iff]
  constructor
  · intro h p hp
    have h1 : bt (xand (w : Int) (xxor k (-1))) p = false := by rw [h]; exact bt_0 p
    rw [bt_and, bt_not (by omega), bt_nat (by omega) (by omega)] at h1
    revert h1
    cases w.testBit p <;> cases bt k p <;> simp
  · intro h
    refine bt_ext (rI_and _ _) rI_0 fun i hi => ?_
    rw [bt_and, bt_not hi, bt_nat (by omega) hi, bt_0]
    by_cases c : i < 6
    · have := h i c
      revert this
      cases w.testBit i <;> cases bt k i <;> simp
    · have : w.testBit i = false := Nat.testBit_lt_two_pow (Nat.lt_of_lt_of_le (show w < 2 ^ 6 from hw) (Nat.pow_le_pow_right (by omega) (by omega)))
      rw [this]; rfl
theorem yb_and {x y : Int} {i : Nat} : yb (yand x y) i = (yb x i && yb y i) := by
  unfold yb
  rw [u6_and, Nat.testBit_and]
theorem u6_m1 : u6 (-1) = 2 ^ 64 - 1 := by decide +kernel
theorem yb_not {x : Int} {i : Nat} (hi : i < 64) : yb (yxor x (-1)) i = !yb x i := by
  unfold yb
  rw [u6_xor, Nat.testBit_xor, u6_m1, Nat.testBit_two_pow_sub_one, decide_eq_true hi]
  cases (u6 x).testBit i <;> rfl
theorem sets_dec : (List.range 6).all (fun p => (List.range 64).all fun w => decide (yb (setsF.getD p 0) w = w.testBit p)) = true := by decide +kernel
theorem yb_set {p w : Nat} (hp : p < 6) (hw : w < 64) : yb (setsF.getD p 0) w = w.testBit p := of_decide_eq_true (List.all_eq_true.mp (List.all_eq_true.mp sets_dec p (List.mem_range.mpr hp)) w (List.mem_range.mpr hw))
theorem m2_dec : (List.range 64).all (fun w => decide (yb (-2) w = decide (w ≠ 0))) = true := by decide +kernel
theorem yb_m2 {w : Nat} (hw : w < 64) : yb (-2) w = decide (w ≠ 0) := of_decide_eq_true (List.all_eq_true.mp m2_dec w (List.mem_range.mpr hw))
theorem sAP_dec : (List.range 7).all (fun n => decide (w32 (xshl 1 ((n : Nat) : Int) - 1) = ((2 ^ n - 1 : Nat) : Int)) && (List.range 64).all fun w => decide (sb w (w32 (xshl 1 ((n : Nat) : Int) - 1)) = decide (w ≤ 2 ^ n - 1))) = true := by decide +kernel
theorem sAH_dec : (List.range 9).all (fun n => decide (w32 (xshl 1 ((n : Nat) : Int) - 1) = ((2 ^ n - 1 : Nat) : Int) ∧ 2 ^ n - 1 < 256)) = true := by decide +kernel
theorem sAP_n {V : Nat → Int} (hc : Wc V) : ∃ m : Nat, m < 64 ∧ sAP V = (m : Int) ∧ (0 < V 0 → 0 < m) ∧ ∀ w, w < 64 → sb w (sAP V) = decide (w ≤ m) := by
  unfold Wc at hc
  have h := List.all_eq_true.mp sAP_dec (V 0).toNat (List.mem_range.mpr (by omega))
  rw [Bool.and_eq_true] at h
  have e : (((V 0).toNat : Nat) : Int) = V 0 := by omega
  have h1 := of_decide_eq_true h.1
  rw [e] at h1
  refine ⟨2 ^ (V 0).toNat - 1, ?_, h1, fun h0 => ?_, fun w hw => ?_⟩
  · have : 2 ^ (V 0).toNat ≤ 2 ^ 6 := Nat.pow_le_pow_right (by omega) (by omega)
    have : (2 : Nat) ^ 6 = 64 := rfl
    omega
  · have : 2 ^ 1 ≤ 2 ^ (V 0).toNat := Nat.pow_le_pow_right (by omega) (by omega)
    omega
  · have h2 := of_decide_eq_true (List.all_eq_true.mp h.2 w (List.mem_range.mpr hw))
    rw [e] at h2
    exact h2
theorem sAH_n {V : Nat → Int} (hc : Wc V) : ∃ m : Nat, m < 256 ∧ sAH V = (m : Int) := by
  unfold Wc at hc
  have h := of_decide_eq_true (List.all_eq_true.mp sAH_dec (V 1).toNat (List.mem_range.mpr (by omega)))
  have e : (((V 1).toNat : Nat) : Int) = V 1 := by omega
  rw [e] at h
  exact ⟨2 ^ (V 1).toNat - 1, h.2, h.1⟩
/-- it agrees with all that is told -/
def ft (V nu : Nat → Int) (n w : Nat) : Bool := al (fun i => sb w (sTo V (w32 (nu (2 * i)))) == decide (nu (2 * i + 1) = 1)) n
section Need
variable {M : Mem} {e : Nat} {V : Nat → Int} (d : Nat)
theorem em_within (x k : Int) : ∃ y, C2 d j_em_waysWithin [vL x, vI k] M = some (some (vL y), M) ∧ ∀ w, w < 64 → yb y w = (yb x w && sb w k) := by
  rw [q_em_waysWithin]
  refine ex_loop (P := fun i y => E2 d r_em_waysWithin 4 [(2, vI k), (3, vL y), (5, vI (i : Int))] [] M) (R := fun r => ∃ y, r = some (some (vL y), M) ∧ ∀ w, w < 64 → yb y w = (yb x w && sb w k)) (fun i y => ∀ w, w < 64 → yb y w = (yb x w && al (fun p => bt k p || !w.testBit p) i)) 6 (fun i y hi hq => ?_) (fun y hq => ?_) x (fun w _ => by show _ = (yb x w && true); rw [Bool.and_true])
  · rw [q_em_waysWithin_4, if_pos (by omega), bit_is (by omega), if_pos (show (0 : Int) ≤ i ∧ (i : Int) < 6 by omega), Int.toNat_natCast, w32n (by omega)]
    cases hb : bt k i
    · refine ⟨yand y (yxor (setsF.getD i 0) (-1)), rfl, fun w hw => ?_⟩
      show _ = (yb x w && (al _ i && (bt k i || !w.testBit i)))
      rw [yb_and, yb_not hw, yb_set hi hw, hq w hw, hb, Bool.false_or, Bool.and_assoc]
    · refine ⟨y, rfl, fun w hw => ?_⟩
      show _ = (yb x w && (al _ i && (bt k i || !w.testBit i)))
      rw [hq w hw, hb, Bool.true_or, Bool.and_true]
  · rw [q_em_waysWithin_4, if_neg (by decide)]
    exact ⟨y, rfl, hq⟩
theorem em_ways (h : Rl M e V) (a1 n : Nat) (hn : n ≤ 20) : ∃ y, C2 d j_em_waysNeeded [vR 1 e, vR 23 a1, vI (n : Int)] M = some (some (vL y), M) ∧ ∀ w, w < 64 → yb y w = ((decide (w ≠ 0) && sb w (sAP V)) && ft V (M.2.1 a1) n w) := by
  obtain ⟨y0, g1, g2⟩ := em_within (M := M) d (-2) (sAP V)
  rw [q_em_waysNeeded, em_allParts d h, bI_k, g1, bL_k]
  refine ex_loop (P := fun i y => E2 d r_em_waysNeeded 7 [(0, vR 1 e), (1, vR 23 a1), (2, vI (n : Int)), (3, vL y), (5, vI (i : Int))] [] M) (R := fun r => ∃ y, r = some (some (vL y), M) ∧ ∀ w, w < 64 → yb y w = ((decide (w ≠ 0) && sb w (sAP V)) && ft V (M.2.1 a1) n w)) (fun i y => ∀ w, w < 64 → yb y w = ((decide (w ≠ 0) && sb w (sAP V)) && ft V (M.2.1 a1) i w)) n (fun i y hi hq => ?_) (fun y hq => ?_) y0 (fun w hw => by rw [g2 w hw, yb_m2 hw]; show _ = (_ && true); rw [Bool.and_true])
  · obtain ⟨y1, k1, k2⟩ := em_within (M := M) d y (sTo V (w32 (M.2.1 a1 (2 * i))))
    rw [q_em_waysNeeded_7, if_pos (by omega), w32s (x := 2 * (i : Int)) (by omega), if_pos (by omega), show (2 * (i : Int)).toNat = 2 * i by omega, em_knowledgeOf d h, bI_k, k1, bL_k, w32s (x := 2 * (i : Int) + 1) (by omega), if_pos (by omega), show (2 * (i : Int) + 1).toNat = 2 * i + 1 by omega, w32n (by omega)]
    simp only [ycmp_eq]
    have es : ∀ w, ft V (M.2.1 a1) (i + 1) w = (ft V (M.2.1 a1) i w && (sb w (sTo V (w32 (M.2.1 a1 (2 * i)))) == decide (M.2.1 a1 (2 * i + 1) = 1))) := fun _ => rfl
    by_cases c : M.2.1 a1 (2 * i + 1) = 1
    · rw [if_pos c]
      refine ⟨y1, rfl, fun w hw => ?_⟩
      rw [k2 w hw, hq w hw, es, decide_eq_true c]
      cases sb w (sTo V (w32 (M.2.1 a1 (2 * i)))) <;> simp
    · rw [if_neg c]
      refine ⟨yand y (yxor y1 (-1)), rfl, fun w hw => ?_⟩
      rw [yb_and, yb_not hw, k2 w hw, hq w hw, es, decide_eq_false c]
      cases sb w (sTo V (w32 (M.2.1 a1 (2 * i)))) <;> simp
  · rw [q_em_waysNeeded_7, if_neg (by omega)]
    exact ⟨y, rfl, hq⟩
theorem m_num (t j : Nat) (ht : t < 4) (hj : j < 60) : C2 d j_m_numberOf [vR 12 179, vI (t : Int), vI (j : Int)] M = some (some (vL (M.2.1 182 (60 * t + j))), M) := by
  rw [q_m_numberOf, w32s (x := 60 * (t : Int)) (by omega), w32s (x := 60 * (t : Int) + (j : Int)) (by omega), if_pos (by omega), show (60 * (t : Int) + (j : Int)).toNat = 60 * t + j by omega]
theorem m_fits (hc : Wc (mV M)) (t n w : Nat) (ht : t < 4) (hn : n ≤ 20) (hw : w < 64) : C2 d j_m_fits [vR 12 179, vI (w : Int), vI (t : Int), vI (n : Int)] M = some (some (vI (b01 (ft (mV M) (fun j => M.2.1 182 (60 * t + j)) n w))), M) := by
  have st : ∀ i : Nat, i < n → E2 d r_m_fits 2 [(0, vR 12 179), (1, vI (w : Int)), (2, vI (t : Int)), (3, vI (n : Int)), (4, vI (i : Int))] [] M = bif (sb w (sTo (mV M) (w32 (M.2.1 182 (60 * t + 2 * i)))) == decide (M.2.1 182 (60 * t + (2 * i + 1)) = 1)) then E2 d r_m_fits 2 [(0, vR 12 179), (1, vI (w : Int)), (2, vI (t : Int)), (3, vI (n : Int)), (4, vI ((i + 1 : Nat) : Int))] [] M else some (some (vI 0), M) := by
    intro i hi
    rw [q_m_fits_2, if_pos (by omega), w32s (x := 2 * (i : Int)) (by omega), show (2 * (i : Int)) = ((2 * i : Nat) : Int) by omega, m_num d t (2 * i) ht (by omega), bL_k, m_knownTo d hc, bI_k, w32s (x := ((2 * i : Nat) : Int) + 1) (by omega), show ((2 * i : Nat) : Int) + 1 = ((2 * i + 1 : Nat) : Int) by omega, m_num d t (2 * i + 1) ht (by omega), bL_k, bL_k, w32n (by omega)]
    simp only [ycmp_eq]
    by_cases c1 : xand (w : Int) (xxor (sTo (mV M) (w32 (M.2.1 182 (60 * t + 2 * i)))) (-1)) = 0
    · rw [if_pos c1, (sb_x hw).mp c1]
      by_cases c2 : M.2.1 182 (60 * t + (2 * i + 1)) = 1
      · rw [if_pos c2, decide_eq_true c2]; rfl
      · rw [if_neg c2, decide_eq_false c2]; rfl
    · have : sb w (sTo (mV M) (w32 (M.2.1 182 (60 * t + 2 * i)))) = false := by
        cases hx : sb w (sTo (mV M) (w32 (M.2.1 182 (60 * t + 2 * i))))
        · rfl
        · exact absurd ((sb_x hw).mpr hx) c1
      rw [if_neg c1, this]
      by_cases c2 : M.2.1 182 (60 * t + (2 * i + 1)) = 1
      · rw [if_pos c2, decide_eq_true c2]; rfl
      · rw [if_neg c2, decide_eq_false c2]; rfl
  rw [q_m_fits]
  rcases least (fun i => sb w (sTo (mV M) (w32 (M.2.1 182 (60 * t + 2 * i)))) == decide (M.2.1 182 (60 * t + (2 * i + 1)) = 1)) n with hall | ⟨u, hu, hf, hb⟩
  · have e1 : ft (mV M) (fun j => M.2.1 182 (60 * t + j)) n w = true := al_iff.mpr hall
    rw [e1]
    refine up_loop (P := fun i => E2 d r_m_fits 2 [(0, vR 12 179), (1, vI (w : Int)), (2, vI (t : Int)), (3, vI (n : Int)), (4, vI (i : Int))] [] M) (n := n) (fun i hi => by rw [st i hi, hall i hi, cond_true]) ?_ 0 (by omega)
    rw [q_m_fits_2, if_neg (by omega)]; rfl
  · have e1 : ft (mV M) (fun j => M.2.1 182 (60 * t + j)) n w = false := by
      cases hx : ft (mV M) (fun j => M.2.1 182 (60 * t + j)) n w
      · rfl
      · have := al_iff.mp hx u hu
        rw [show (sb w (sTo (mV M) (w32 (M.2.1 182 (60 * t + 2 * u)))) == decide (M.2.1 182 (60 * t + (2 * u + 1)) = 1)) = false from hf] at this
        cases this
    rw [e1]
    refine up_loop (P := fun i => E2 d r_m_fits 2 [(0, vR 12 179), (1, vI (w : Int)), (2, vI (t : Int)), (3, vI (n : Int)), (4, vI (i : Int))] [] M) (n := u) (fun i hi => by rw [st i (by omega), hb i hi, cond_true]) ?_ 0 (by omega)
    rw [st u hu, show (sb w (sTo (mV M) (w32 (M.2.1 182 (60 * t + 2 * u)))) == decide (M.2.1 182 (60 * t + (2 * u + 1)) = 1)) = false from hf, cond_false]; rfl
end Need
