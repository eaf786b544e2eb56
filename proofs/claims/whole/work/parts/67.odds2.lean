/-! battles: foreseen, by both; the greatest divisor -/
section Odds2
variable {M : Mem} (d : Nat)
theorem bt_foresee (a1 : Nat) (ha : a1 ≠ 68 ∧ ¬ (70 ≤ a1 ∧ a1 < 83)) (n fr : Nat) (hn : n ≤ 12) (hfr : fr ≤ n) (hw : ∀ i, i < n → 0 ≤ M.2.1 a1 i ∧ M.2.1 a1 i ≤ 16) : ∃ M', C2 d j_bt_foresee [vR 0 68, vR 23 a1, vI (n : Int), vI (fr : Int)] M = some (none, M') ∧ BT M M' (p16 (n - fr)) (bT (M.2.1 a1) n (n - fr)) := by
  rw [q_bt_foresee]
  have hB0 : BT M (putL M 68 1 1) 1 (fun j e => M.2.1 (69 + 1 + 1 * j) e) := ⟨rfl, fun a g1 g2 => by rw [pL_ne g1], by rw [pL_s], fun j e hj he => by rw [pL_ne (by omega)]⟩
  refine ex_loop (P := fun i M' => E2 d r_bt_foresee 5 [(0, vR 0 68), (1, vR 23 a1), (2, vI (n : Int)), (3, vI (fr : Int)), (4, vI (i : Int))] [] M') (R := fun r => ∃ M', r = some (none, M') ∧ BT M M' (p16 (n - fr)) (bT (M.2.1 a1) n (n - fr))) (fun i M' => BT M M' 1 (fun j e => if j < i then (if e = 0 then 1 else 0) else M.2.1 (69 + 1 + 1 * j) e)) 13 (fun i M' hi hq => ?_) (fun M' hq => ?_) _ (hB0.eq fun a b ha hb => if_neg (by omega))
  · show ∃ s', E2 d r_bt_foresee 5 [(0, vR 0 68), (1, vR 23 a1), (2, vI (n : Int)), (3, vI (fr : Int)), (4, vI (i : Int))] [] M' = E2 d r_bt_foresee 5 [(0, vR 0 68), (1, vR 23 a1), (2, vI (n : Int)), (3, vI (fr : Int)), (4, vI ((i + 1 : Nat) : Int))] [] s' ∧ _
    rw [q_bt_foresee_5, if_neg (by omega)]
    refine ex_loop (P := fun k M' => E2 d r_bt_foresee 10 [(0, vR 0 68), (1, vR 23 a1), (2, vI (n : Int)), (3, vI (fr : Int)), (4, vI (i : Int)), (5, vI (k : Int))] [] M') (R := fun r => ∃ s', r = E2 d r_bt_foresee 5 [(0, vR 0 68), (1, vR 23 a1), (2, vI (n : Int)), (3, vI (fr : Int)), (4, vI ((i + 1 : Nat) : Int))] [] s' ∧ BT M s' 1 (fun j e => if j < i + 1 then (if e = 0 then 1 else 0) else M.2.1 (69 + 1 + 1 * j) e)) (fun k M' => BT M M' 1 (fun j e => if j < i ∨ (j = i ∧ e < k) then (if e = 0 then 1 else 0) else M.2.1 (69 + 1 + 1 * j) e)) 13 (fun k M' hk hq => ?_) (fun M' hq => ?_) M' (hq.eq fun a b ha hb => ?_)
    · refine ⟨putL M' (69 + 1 + 1 * i) k (if k = 0 then 1 else 0), ?_, hq.put hi (if_pos (by omega)) (fun a b ha hb hab => ?_)⟩
      · rw [q_bt_foresee_10, if_neg (by omega), if_pos (by omega), if_pos (show (0 : Int) ≤ k ∧ (k : Int) < 13 by omega), Int.toNat_natCast, Int.toNat_natCast, w32n (by omega)]
        by_cases c : k = 0
        · rw [if_pos (by omega), if_pos c]
        · rw [if_neg (by omega), if_neg c, if_pos (by omega)]
      · by_cases c : a < i ∨ (a = i ∧ b < k)
        · rw [if_pos c, if_pos (by omega)]
        · rw [if_neg c, if_neg (by omega)]
    · rw [q_bt_foresee_10, if_pos (by decide), w32n (by omega)]
      refine ⟨M', rfl, hq.eq fun a b ha hb => ?_⟩
      by_cases c : a < i + 1
      · rw [if_pos c, if_pos (show a < i ∨ a = i ∧ b < 13 by omega)]
      · rw [if_neg c, if_neg (by omega)]
    · by_cases c : a < i
      · rw [if_pos c, if_pos (by omega)]
      · rw [if_neg c, if_neg (by omega)]
  · rw [q_bt_foresee_5, if_pos (by decide), w32s (by omega)]
    refine ex_loop (P := fun k M' => E2 d r_bt_foresee 32 [(0, vR 0 68), (1, vR 23 a1), (3, vI (fr : Int)), (4, vI ((n : Int) - 1 - k))] [] M') (R := fun r => ∃ M', r = some (none, M') ∧ BT M M' (p16 (n - fr)) (bT (M.2.1 a1) n (n - fr))) (fun k M' => BT M M' (p16 k) (bT (M.2.1 a1) n k)) (n - fr) (fun k M' hk hq => ?_) (fun M' hq => ?_) M' (hq.eq fun a b ha hb => (if_pos (by omega)).symm) |> fun h => by
      rw [show ((0 : Nat) : Int) = 0 from rfl, Int.sub_zero] at h
      exact h
    · have hb := bT_b (wd := M.2.1 a1) (n := n) hw k (by omega)
      have hp := p16_b (k := k) (by omega)
      have e1 : M'.2.1 a1 (n - 1 - k) = M.2.1 a1 (n - 1 - k) := by rw [hq.2.1 a1 ha.1 ha.2]
      obtain ⟨M2, h1, h2⟩ := bt_turn d hq (w := M.2.1 a1 (n - 1 - k)) (hw _ (by omega)) (fun j e => ⟨(hb j e).1, by have := (hb j e).2; omega⟩)
      refine ⟨putL M2 68 1 (p16 (k + 1)), ?_, ?_⟩
      · show E2 d r_bt_foresee 32 [(0, vR 0 68), (1, vR 23 a1), (3, vI (fr : Int)), (4, vI ((n : Int) - 1 - k))] [] M' = E2 d r_bt_foresee 32 [(0, vR 0 68), (1, vR 23 a1), (3, vI (fr : Int)), (4, vI ((n : Int) - 1 - ((k + 1 : Nat) : Int)))] [] _
        rw [q_bt_foresee_32, if_neg (by omega), if_pos (by omega), show ((n : Int) - 1 - k).toNat = n - 1 - k by omega, e1, h1, bV_k, h2.2.2.1, ← p16_s, w64s (by have := p16_b (k := k + 1) (by omega); omega), w32s (by omega), show (n : Int) - 1 - k + -1 = (n : Int) - 1 - ((k + 1 : Nat) : Int) by omega]
      · obtain ⟨q1, q2, q3, q4⟩ := h2
        refine ⟨q1, fun a g1 g2 => by rw [pL_ne g1]; exact q2 a g1 g2, by rw [pL_s], fun j e hj he => by rw [pL_ne (by omega)]; exact q4 j e hj he⟩
    · show ∃ M'_1, E2 d r_bt_foresee 32 [(0, vR 0 68), (1, vR 23 a1), (3, vI (fr : Int)), (4, vI ((n : Int) - 1 - ((n - fr : Nat) : Int)))] [] M' = _ ∧ _
      rw [q_bt_foresee_32, if_pos (by omega)]
      exact ⟨M', rfl, hq⟩
/-- remainders, of numbers that are not below 0 -/
theorem yrem_of {x y : Int} (hx : 0 ≤ x ∧ x < 9223372036854775808) (hy : 0 < y ∧ y < 9223372036854775808) : yrem x y = x % y := by
  unfold yrem
  have e : (Int64.ofInt x / Int64.ofInt y).toInt = x / y := by
    rw [Int64.toInt_div, toL' (by unfold rL; omega), toL' (by unfold rL; omega), Int.tdiv_eq_ediv_of_nonneg hx.1, w64_bmod]
    have h1 : 0 ≤ x / y := Int.ediv_nonneg hx.1 (by omega)
    have h2 : x / y ≤ x := Int.ediv_le_self y hx.1
    exact w64s (by omega)
  have e2 : Int64.ofInt x / Int64.ofInt y = Int64.ofInt (x / y) := by rw [← e, ofL]
  rw [e2, ← Int64.ofInt_mul, ← Int64.ofInt_sub, toL]
  have h3 : x % y = x - x / y * y := by
    have := Int.emod_def x y
    rw [this, Int.mul_comm]
  rw [← h3]
  have h4 := Int.emod_nonneg x (show y ≠ 0 by omega)
  have h5 := Int.emod_lt_of_pos x hy.1
  exact w64s (by omega)
theorem xrem_of {x y : Int} (hx : 0 ≤ x ∧ x < 2147483648) (hy : 0 < y ∧ y < 2147483648) : xrem x y = x % y := by
  unfold xrem
  have e : (Int32.ofInt x / Int32.ofInt y).toInt = x / y := xdiv_of hx hy
  have e2 : Int32.ofInt x / Int32.ofInt y = Int32.ofInt (x / y) := by rw [← e, ofI]
  rw [e2, ← Int32.ofInt_mul, ← Int32.ofInt_sub, toI]
  have h3 : x % y = x - x / y * y := by
    have := Int.emod_def x y
    rw [this, Int.mul_comm]
  rw [← h3]
  have h4 := Int.emod_nonneg x (show y ≠ 0 by omega)
  have h5 := Int.emod_lt_of_pos x hy.1
  exact w32s (by omega)
theorem half {b r : Int} (hr : 0 < r) (hb : r < b) : 2 * (b % r) < b := by
  have h1 := Int.emod_nonneg b (show r ≠ 0 by omega)
  have h2 := Int.emod_lt_of_pos b hr
  have h3 := Int.emod_add_mul_ediv b r
  have h4 : 1 ≤ b / r := by
    have := (Int.le_ediv_iff_mul_le hr (a := 1) (b := b)).mpr (by omega)
    exact this
  have h5 : r * 1 ≤ r * (b / r) := Int.mul_le_mul_of_nonneg_left h4 (by omega)
  omega
theorem gcd_both : ∀ (k : Nat) (a b : Int), 0 ≤ a → a < 4611686018427387904 → 0 ≤ b → b < 2 ^ k → k ≤ 62 → (0 < a ∨ 0 < b) → ∃ g, 0 < g ∧ g < 4611686018427387904 ∧ (∀ (i : Nat) (M : Mem), i + 2 * k ≤ 200 → E2 d r_x_commonDivisor 2 [(0, vL a), (2, vL b), (4, vI (i : Int))] [] M = some (some (vL g), M)) ∧ (∀ (t u : Int) (M : Mem), E2 d r_m_fraction 5 [(0, vR 12 179), (1, vL t), (3, vL u), (5, vL a), (7, vL b)] [] M = some (some (vI 1), putL (putL M 179 2 (ydiv t g)) 179 3 (ydiv u g))) := by
  have base : ∀ (a b : Int), 0 ≤ a → a < 4611686018427387904 → b = 0 → (0 < a ∨ 0 < b) → ∃ g, 0 < g ∧ g < 4611686018427387904 ∧ (∀ (i : Nat) (M : Mem), E2 d r_x_commonDivisor 2 [(0, vL a), (2, vL b), (4, vI (i : Int))] [] M = some (some (vL g), M)) ∧ (∀ (t u : Int) (M : Mem), E2 d r_m_fraction 5 [(0, vR 12 179), (1, vL t), (3, vL u), (5, vL a), (7, vL b)] [] M = some (some (vI 1), putL (putL M 179 2 (ydiv t g)) 179 3 (ydiv u g))) := by
    intro a b ha ha2 hb hp
    subst hb
    refine ⟨a, by omega, ha2, fun i M => ?_, fun t u M => ?_⟩
    · rw [q_x_commonDivisor_2]
      simp only [ycmp_eq]
      by_cases c : (i : Int) < 200
      · rw [if_pos c, if_pos trivial]
      · rw [if_neg c]
    · rw [q_m_fraction_5]
      simp only [ycmp_eq]
      rw [if_pos trivial, if_neg (by omega), if_neg (by omega)]
  intro k
  induction k with
  | zero =>
    intro a b ha ha2 hb hb2 hk hp
    have hb3 : b < 1 := hb2
    obtain ⟨g, g1, g2, g3, g4⟩ := base a b ha ha2 (by omega) hp
    exact ⟨g, g1, g2, fun i M _ => g3 i M, g4⟩
  | succ k ih =>
    intro a b ha ha2 hb hb2 hk hp
    have hpow : (2 : Int) ^ (k + 1) = 2 ^ k * 2 := rfl
    have hp62 : (2 : Int) ^ k ≤ 2305843009213693952 := by
      have h1 : (2 : Nat) ^ k ≤ 2 ^ 61 := Nat.pow_le_pow_right (by omega) (by omega)
      have h2 : ((2 ^ k : Nat) : Int) ≤ ((2 ^ 61 : Nat) : Int) := Int.ofNat_le.mpr h1
      rw [Int.natCast_pow, Int.natCast_pow] at h2
      exact h2
    by_cases c : b = 0
    · obtain ⟨g, g1, g2, g3, g4⟩ := base a b ha ha2 c hp
      exact ⟨g, g1, g2, fun i M _ => g3 i M, g4⟩
    · have hr1 := Int.emod_nonneg a c
      have hr2 := Int.emod_lt_of_pos a (show 0 < b by omega)
      have er : yrem a b = a % b := yrem_of (by omega) (by omega)
      have sx : ∀ (i : Nat) (M : Mem), i < 200 → E2 d r_x_commonDivisor 2 [(0, vL a), (2, vL b), (4, vI (i : Int))] [] M = E2 d r_x_commonDivisor 2 [(0, vL b), (2, vL (a % b)), (4, vI ((i + 1 : Nat) : Int))] [] M := by
        intro i M hi
        rw [q_x_commonDivisor_2]
        simp only [ycmp_eq]
        rw [if_pos (by omega), if_neg c, if_neg c, er, w32n (by omega)]
      have sm : ∀ (t u : Int) (M : Mem), E2 d r_m_fraction 5 [(0, vR 12 179), (1, vL t), (3, vL u), (5, vL a), (7, vL b)] [] M = E2 d r_m_fraction 5 [(0, vR 12 179), (1, vL t), (3, vL u), (5, vL b), (7, vL (a % b))] [] M := by
        intro t u M
        rw [q_m_fraction_5]
        simp only [ycmp_eq]
        rw [if_neg c, if_neg c, er]
      by_cases c2 : a % b = 0
      · obtain ⟨g, g1, g2, g3, g4⟩ := base b (a % b) hb (by omega) c2 (Or.inl (by omega))
        exact ⟨g, g1, g2, fun i M hi => by rw [sx i M (by omega)]; exact g3 _ M, fun t u M => by rw [sm]; exact g4 t u M⟩
      · have hh := half (b := b) (r := a % b) (by omega) (by omega)
        have hq1 := Int.emod_nonneg b c2
        have er2 : yrem b (a % b) = b % (a % b) := yrem_of (by omega) (by omega)
        obtain ⟨g, g1, g2, g3, g4⟩ := ih (a % b) (b % (a % b)) hr1 (by omega) hq1 (by omega) (by omega) (Or.inl (by omega))
        refine ⟨g, g1, g2, fun i M hi => ?_, fun t u M => ?_⟩
        · rw [sx i M (by omega), q_x_commonDivisor_2]
          simp only [ycmp_eq]
          rw [if_pos (by omega), if_neg c2, if_neg c2, er2, w32n (by omega)]
          exact g3 (i + 1 + 1) M (by omega)
        · rw [sm, q_m_fraction_5]
          simp only [ycmp_eq]
          rw [if_neg c2, if_neg c2, er2]
          exact g4 t u M
/-- a fraction told by both -/
theorem frac_both (x y : Int) (hx : 0 ≤ x ∧ x < 4611686018427387904) (hy : 0 < y ∧ y < 4611686018427387904) : ∃ t b, (∀ M, C2 d j_x_tellFraction [vR 11 0, vL x, vL y] M = some (none, putL (putL M 0 1 t) 0 2 b)) ∧ (∀ M, C2 d j_m_fraction [vR 12 179, vL x, vL y] M = some (some (vI 1), putL (putL M 179 2 t) 179 3 b)) := by
  obtain ⟨g, g1, g2, g3, g4⟩ := gcd_both d 62 x y hx.1 hx.2 (by omega) hy.2 (by omega) (Or.inr hy.1)
  refine ⟨ydiv x g, ydiv y g, fun M => ?_, fun M => ?_⟩
  · have h0 : E2 d r_x_commonDivisor 2 [(0, vL x), (2, vL y), (4, vI 0)] [] M = some (some (vL g), M) := g3 0 M (by omega)
    rw [q_x_tellFraction, q_x_commonDivisor, h0, bL_k]
    simp only [ycmp_eq]
    rw [if_neg (show ¬ g = 0 by omega), if_neg (show ¬ g = 0 by omega), if_neg (show ¬ g = 0 by omega), if_neg (show ¬ g = 0 by omega)]
  · rw [q_m_fraction, q_math_abs_J]
    simp only [ycmp_lt]
    rw [if_neg (by omega), bL_k, g4]
end Odds2
