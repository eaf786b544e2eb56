/-! battles: the odds of the class -/
def nxt (w : Int) (f : Nat → Nat → Int) (j e : Nat) : Int := if j = 0 ∨ e = 0 then 16 * f j e else max (16 * f j e) (w * f (j - 1) (e - 1) + (16 - w) * f (j - 1) e)
def bT (wd : Nat → Int) (n : Nat) : Nat → Nat → Nat → Int
  | 0 => fun _ e => if e = 0 then 1 else 0
  | k + 1 => nxt (wd (n - 1 - k)) (bT wd n k)
def p16 (k : Nat) : Int := 16 ^ k
theorem p16_s {k : Nat} : p16 (k + 1) = p16 k * 16 := rfl
theorem p16_b {k : Nat} (h : k ≤ 12) : 1 ≤ p16 k ∧ p16 k ≤ 281474976710656 := by
  have hcs : k = 0 ∨ k = 1 ∨ k = 2 ∨ k = 3 ∨ k = 4 ∨ k = 5 ∨ k = 6 ∨ k = 7 ∨ k = 8 ∨ k = 9 ∨ k = 10 ∨ k = 11 ∨ k = 12 := by omega
  rcases hcs with rfl | rfl | rfl | rfl | rfl | rfl | rfl | rfl | rfl | rfl | rfl | rfl | rfl <;> decide
theorem mix_b {w a b c : Int} (hw : 0 ≤ w ∧ w ≤ 16) (ha : 0 ≤ a ∧ a ≤ c) (hb : 0 ≤ b ∧ b ≤ c) : (0 ≤ w * a ∧ w * a ≤ 16 * c) ∧ (0 ≤ (16 - w) * b ∧ (16 - w) * b ≤ 16 * c) ∧ w * a + (16 - w) * b ≤ c * 16 := by
  have h1 : 0 ≤ w * a := Int.mul_nonneg hw.1 ha.1
  have h2 : 0 ≤ (16 - w) * b := Int.mul_nonneg (by omega) hb.1
  have h3 : w * a ≤ w * c := Int.mul_le_mul_of_nonneg_left ha.2 hw.1
  have h4 : (16 - w) * b ≤ (16 - w) * c := Int.mul_le_mul_of_nonneg_left hb.2 (by omega)
  have h5 : (16 - w) * c = 16 * c - w * c := Int.sub_mul 16 w c
  have h6 : 0 ≤ w * c := Int.mul_nonneg hw.1 (by omega)
  have h7 : 0 ≤ (16 - w) * c := Int.mul_nonneg (by omega) (by omega)
  omega
theorem nxt_b {w c : Int} {f : Nat → Nat → Int} (hw : 0 ≤ w ∧ w ≤ 16) (hf : ∀ j e, 0 ≤ f j e ∧ f j e ≤ c) (j e : Nat) : 0 ≤ nxt w f j e ∧ nxt w f j e ≤ c * 16 := by
  unfold nxt
  have h1 := hf j e
  have h2 := mix_b hw (hf (j - 1) (e - 1)) (hf (j - 1) e)
  by_cases c1 : j = 0 ∨ e = 0
  · rw [if_pos c1]; omega
  · rw [if_neg c1]; omega
theorem bT_b {wd : Nat → Int} {n : Nat} (hw : ∀ i, i < n → 0 ≤ wd i ∧ wd i ≤ 16) : ∀ k, k ≤ n → ∀ j e, 0 ≤ bT wd n k j e ∧ bT wd n k j e ≤ p16 k
  | 0, _ => fun j e => by
    show 0 ≤ (if e = 0 then (1 : Int) else 0) ∧ (if e = 0 then (1 : Int) else 0) ≤ 1
    by_cases c : e = 0
    · rw [if_pos c]; omega
    · rw [if_neg c]; omega
  | k + 1, hk => fun j e => nxt_b (hw _ (by omega)) (bT_b hw k (by omega)) j e
theorem bT_0 {wd : Nat → Int} {n : Nat} : ∀ k j, bT wd n k j 0 = p16 k
  | 0, _ => rfl
  | k + 1, j => by
    show nxt _ (bT wd n k) j 0 = p16 k * 16
    unfold nxt
    rw [if_pos (Or.inr rfl), bT_0 k j]; omega
/-- the class's table -/
def BT (M0 M : Mem) (s : Int) (f : Nat → Nat → Int) : Prop := M.1 = M0.1 ∧ (∀ a, a ≠ 68 → ¬ (70 ≤ a ∧ a < 83) → M.2.1 a = M0.2.1 a) ∧ M.2.1 68 1 = s ∧ ∀ j e, j < 13 → e < 13 → M.2.1 (69 + 1 + 1 * j) e = f j e
theorem BT.put {M0 M : Mem} {s : Int} {f g : Nat → Nat → Int} (h : BT M0 M s f) {j e : Nat} {v : Int} (hj : j < 13) (hv : g j e = v) (hg : ∀ a b, a < 13 → b < 13 → ¬ (a = j ∧ b = e) → g a b = f a b) : BT M0 (putL M (69 + 1 + 1 * j) e v) s g := by
  obtain ⟨h1, h2, h3, h4⟩ := h
  refine ⟨h1, fun a g1 g2 => ?_, ?_, fun a b ha hb => ?_⟩
  · rw [pL_ne (by omega)]; exact h2 a g1 g2
  · rw [pL_ne (by omega)]; exact h3
  · by_cases c : a = j ∧ b = e
    · rw [c.1, c.2, pL_s, hv]
    · rw [hg a b ha hb c]
      by_cases c2 : a = j
      · rw [pL_nk (by omega)]; exact h4 a b ha hb
      · rw [pL_ne (by omega)]; exact h4 a b ha hb
theorem BT.eq {M0 M : Mem} {s : Int} {f g : Nat → Nat → Int} (h : BT M0 M s f) (hg : ∀ a b, a < 13 → b < 13 → g a b = f a b) : BT M0 M s g := ⟨h.1, h.2.1, h.2.2.1, fun j e hj he => by rw [hg j e hj he]; exact h.2.2.2 j e hj he⟩
section Odds
variable {M0 M : Mem} (d : Nat)
theorem bt_kept {s v : Int} {f : Nat → Nat → Int} (h : BT M0 M s f) (j e : Nat) (hj : j < 13) (he : e < 13) (hv : f j e = v) (hf : 0 ≤ v ∧ v ≤ 281474976710656) : C2 d j_bt_kept [vR 0 68, vI (j : Int), vI (e : Int)] M = some (some (vL (16 * v)), M) := by
  rw [q_bt_kept, if_pos (by omega), if_pos (by omega), Int.toNat_natCast, Int.toNat_natCast, h.2.2.2 j e hj he, hv, w64s (by omega)]
theorem bt_thrown {s w v x y : Int} {f : Nat → Nat → Int} (h : BT M0 M s f) (j e : Nat) (hj : j < 13) (he : e < 13) (hw : 0 ≤ w ∧ w ≤ 16) (hv : f j e = v) (hx : j ≠ 0 → e ≠ 0 → f (j - 1) (e - 1) = x) (hy : j ≠ 0 → e ≠ 0 → f (j - 1) e = y) (bv : 0 ≤ v ∧ v ≤ 281474976710656) (bx : 0 ≤ x ∧ x ≤ 281474976710656) (bY : 0 ≤ y ∧ y ≤ 281474976710656) : C2 d j_bt_thrown [vR 0 68, vL w, vI (j : Int), vI (e : Int)] M = some (some (vL (if j = 0 ∨ e = 0 then 16 * v else w * x + (16 - w) * y)), M) := by
  rw [q_bt_thrown, bt_kept d h j e hj he hv bv, bL_k]
  by_cases c1 : j = 0
  · rw [if_neg (by omega), if_pos (Or.inl c1)]
  · by_cases c2 : e = 0
    · rw [if_pos (by omega), if_neg (by omega), if_pos (Or.inr c2)]
    · have b := mix_b hw bx bY
      rw [if_pos (by omega), if_pos (by omega), w32s (x := (j : Int) - 1) (by omega), w32s (x := (e : Int) - 1) (by omega), if_pos (by omega), if_pos (by omega), if_pos (by omega), if_pos (by omega), show ((j : Int) - 1).toNat = j - 1 by omega, show ((e : Int) - 1).toNat = e - 1 by omega, Int.toNat_natCast, h.2.2.2 (j - 1) (e - 1) (by omega) (by omega), h.2.2.2 (j - 1) e (by omega) he, hx c1 c2, hy c1 c2, if_neg (by omega), w64s (x := 16 - w) (by omega), w64s (x := w * x) (by omega), w64s (x := (16 - w) * y) (by omega), w64s (by omega)]
theorem bt_turn {s w : Int} {f : Nat → Nat → Int} (h : BT M0 M s f) (hw : 0 ≤ w ∧ w ≤ 16) (hf : ∀ j e, 0 ≤ f j e ∧ f j e ≤ 281474976710656) : ∃ M', C2 d j_bt_foreseeTurn [vR 0 68, vL w] M = some (none, M') ∧ BT M0 M' s (nxt w f) := by
  rw [q_bt_foreseeTurn]
  refine ex_loop (P := fun i M' => E2 d r_bt_foreseeTurn 2 [(0, vR 0 68), (1, vL w), (3, vI (12 - (i : Int)))] [] M') (R := fun r => ∃ M', r = some (none, M') ∧ BT M0 M' s (nxt w f)) (fun i M' => BT M0 M' s (fun j e => if 13 - i ≤ j then nxt w f j e else f j e)) 13 (fun i M' hi hq => ?_) (fun M' hq => ?_) M (h.eq fun a b ha hb => if_neg (by omega))
  · show ∃ s', E2 d r_bt_foreseeTurn 2 [(0, vR 0 68), (1, vL w), (3, vI (12 - (i : Int)))] [] M' = E2 d r_bt_foreseeTurn 2 [(0, vR 0 68), (1, vL w), (3, vI (12 - ((i + 1 : Nat) : Int)))] [] s' ∧ _
    rw [q_bt_foreseeTurn_2, if_neg (by omega)]
    refine ex_loop (P := fun k M' => E2 d r_bt_foreseeTurn 6 [(0, vR 0 68), (1, vL w), (3, vI (12 - (i : Int))), (4, vI (12 - (k : Int)))] [] M') (R := fun r => ∃ s', r = E2 d r_bt_foreseeTurn 2 [(0, vR 0 68), (1, vL w), (3, vI (12 - ((i + 1 : Nat) : Int)))] [] s' ∧ BT M0 s' s (fun j e => if 13 - (i + 1) ≤ j then nxt w f j e else f j e)) (fun k M' => BT M0 M' s (fun j e => if 13 - i ≤ j ∨ (j = 12 - i ∧ 13 - k ≤ e) then nxt w f j e else f j e)) 13 (fun k M' hk hq => ?_) (fun M' hq => ?_) M' (hq.eq fun a b ha hb => ?_)
    · have ei : (12 - (i : Int)) = ((12 - i : Nat) : Int) := by omega
      have ek : (12 - (k : Int)) = ((12 - k : Nat) : Int) := by omega
      have v0 : (fun j e => if 13 - i ≤ j ∨ (j = 12 - i ∧ 13 - k ≤ e) then nxt w f j e else f j e) (12 - i) (12 - k) = f (12 - i) (12 - k) := if_neg (by omega)
      have hth := bt_thrown d hq (12 - i) (12 - k) (by omega) (by omega) hw v0 (x := f (12 - i - 1) (12 - k - 1)) (y := f (12 - i - 1) (12 - k)) (fun g1 g2 => if_neg (by omega)) (fun g1 g2 => if_neg (by omega)) (hf _ _) (hf _ _) (hf _ _)
      have hkp := bt_kept d hq (12 - i) (12 - k) (by omega) (by omega) v0 (hf _ _)
      refine ⟨putL M' (69 + 1 + 1 * (12 - i)) (12 - k) (nxt w f (12 - i) (12 - k)), ?_, hq.put (by omega) (if_pos (by omega)) (fun a b ha hb hab => ?_)⟩
      · show E2 d r_bt_foreseeTurn 6 [(0, vR 0 68), (1, vL w), (3, vI (12 - (i : Int))), (4, vI (12 - (k : Int)))] [] M' = E2 d r_bt_foreseeTurn 6 [(0, vR 0 68), (1, vL w), (3, vI (12 - (i : Int))), (4, vI (12 - ((k + 1 : Nat) : Int)))] [] _
        rw [q_bt_foreseeTurn_6, if_neg (by omega), if_pos (by omega), w32s (x := 12 - (k : Int) + -1) (by omega), ei, ek, hkp, bL_k, hth, bL_k, mx_J, bL_k, if_pos (by omega), Int.toNat_natCast, Int.toNat_natCast, show (((12 - k : Nat) : Int) + -1) = 12 - ((k + 1 : Nat) : Int) by omega]
        congr 2
        unfold nxt
        by_cases c : 12 - i = 0 ∨ 12 - k = 0
        · rw [if_pos c, if_pos c, show max (16 * f (12 - i) (12 - k)) (16 * f (12 - i) (12 - k)) = 16 * f (12 - i) (12 - k) by omega]
        · rw [if_neg c, if_neg c]
      · by_cases c : 13 - i ≤ a ∨ (a = 12 - i ∧ 13 - k ≤ b)
        · rw [if_pos c, if_pos (by omega)]
        · rw [if_neg c, if_neg (by omega)]
    · show ∃ s', E2 d r_bt_foreseeTurn 6 [(0, vR 0 68), (1, vL w), (3, vI (12 - (i : Int))), (4, vI (12 - ((13 : Nat) : Int)))] [] M' = _ ∧ _
      rw [q_bt_foreseeTurn_6, if_pos (by decide), w32s (by omega), show 12 - (i : Int) + -1 = 12 - ((i + 1 : Nat) : Int) by omega]
      refine ⟨M', rfl, hq.eq fun a b ha hb => ?_⟩
      by_cases c : 13 - (i + 1) ≤ a
      · rw [if_pos c, if_pos (by omega)]
      · rw [if_neg c, if_neg (by omega)]
    · by_cases c : 13 - i ≤ a
      · rw [if_pos c, if_pos (by omega)]
      · rw [if_neg c, if_neg (by omega)]
  · show ∃ M'_1, E2 d r_bt_foreseeTurn 2 [(0, vR 0 68), (1, vL w), (3, vI (12 - ((13 : Nat) : Int)))] [] M' = _ ∧ _
    rw [q_bt_foreseeTurn_2, if_pos (by decide)]
    exact ⟨M', rfl, hq.eq fun a b ha hb => (if_pos (by omega)).symm⟩
end Odds
