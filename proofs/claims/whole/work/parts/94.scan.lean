section Scan
variable {M : Mem} (d : Nat) {f : Nat → Int} {n T : Nat}
/-- the text, and where its tokens go -/
def Tx (M : Mem) (f : Nat → Int) (n T : Nat) : Prop := (∀ k, k < n → M.1 2 k = f k) ∧ M.1 3 6 = (n : Int) ∧ M.1 3 4 = (T : Int) ∧ n ≤ 900 ∧ T ≤ n
theorem p32 : ∀ l : Nat, l < 9 → (32 : Int) ^ l ≤ 1099511627776 := by decide +kernel
theorem p10 : ∀ l : Nat, l < 5 → (10 : Int) ^ l ≤ 10000 := by decide +kernel
theorem letter_step {a l : Nat} (hl : l < 8) (h : ∀ i, i < l + 1 → isLe (f (a + i)) = true) : yor (yshl (cd f a l) 5) (w32 (w32 (f (a + l) - 97) + 1)) = cd f a (l + 1) := by
  have b := cd_b l (fun i hi => h i (by omega))
  have k := isLe_t (h l (by omega))
  have p8 := p32 l (by omega)
  obtain ⟨m, hm⟩ : ∃ m : Nat, cd f a l = (m : Int) := ⟨(cd f a l).toNat, by omega⟩
  obtain ⟨v, hv⟩ : ∃ v : Nat, f (a + l) - 96 = (v : Int) := ⟨(f (a + l) - 96).toNat, by omega⟩
  rw [w32s (x := f (a + l) - 97) (by omega), w32s (by omega), show f (a + l) - 97 + 1 = (v : Int) by omega, hm, yor_add (by omega) (by omega)]
  show _ = cd f a l * 32 + (f (a + l) - 96)
  rw [hm, hv]; omega
theorem scanW (h : Tx M f n T) {a : Nat} (ha : a < n) : ∀ (k b : Nat) (c : Int), n - b = k → a ≤ b → b ≤ n → (∀ i, a ≤ i → i < b → isLe (f i) = true) → (b - a ≤ 8 → c = cd f a (b - a)) → E2 d r_rd_scanWord 4 [(0, vR 8 3), (1, vR 21 2), (2, vI (a : Int)), (3, vI (b : Int)), (4, vL c)] [] M = some (some (vI ((en isLe f n b : Nat) : Int)), putL (putI M 5 T 1) 7 T (if en isLe f n b - a ≤ 8 then cd f a (en isLe f n b - a) else 0)) := by
  obtain ⟨h1, h2, h3, h4, h5⟩ := h
  have hT : (0 : Int) ≤ (T : Int) ∧ (T : Int) < 901 := by omega
  intro k
  induction k with
  | zero =>
    intro b c hb hab hbn hl hc
    rw [en_st (Or.inl (by omega)), q_rd_scanWord_4, h2, if_neg (by omega), w32s (by omega)]
    simp only [up2_ne (show (3 : Nat) ≠ 5 by decide), h3, Int.toNat_natCast, if_pos hT]
    by_cases c8 : b - a ≤ 8
    · rw [if_neg (by omega), if_pos c8, hc c8]
    · rw [if_pos (by omega), if_neg c8]
  | succ k ih =>
    intro b c hb hab hbn hl hc
    rw [q_rd_scanWord_4, h2, if_pos (by omega), if_pos (by omega), Int.toNat_natCast, h1 b (by omega), rd_isLe, bI_k]
    cases hq : isLe (f b)
    · rw [en_st (Or.inr hq), if_pos b01_f, w32s (by omega)]
      simp only [up2_ne (show (3 : Nat) ≠ 5 by decide), h3, Int.toNat_natCast, if_pos hT]
      by_cases c8 : b - a ≤ 8
      · rw [if_neg (by omega), if_pos c8, hc c8]
      · rw [if_pos (by omega), if_neg c8]
    · rw [if_neg (by decide), if_pos (by omega), q_rd_withLetter, bL_k, h1 b (by omega), w32n (by omega), en_go (by omega) hq]
      refine ih (b + 1) _ (by omega) (by omega) (by omega) (fun i i1 i2 => ?_) (fun c8 => ?_)
      · by_cases ci : i = b
        · rw [ci]; exact hq
        · exact hl i i1 (by omega)
      · rw [hc (by omega)]
        have := letter_step (f := f) (a := a) (l := b - a) (by omega) (fun i hi => by
          by_cases ci : a + i = b
          · rw [ci]; exact hq
          · exact hl (a + i) (by omega) (by omega))
        rw [show a + (b - a) = b by omega] at this
        rw [this, show b + 1 - a = b - a + 1 by omega]
theorem nm_b {a : Nat} : ∀ l : Nat, l ≤ 4 → (∀ i, i < l → isDi (f (a + i)) = true) → 0 ≤ nm f a l ∧ nm f a l < 10 ^ l
  | 0, _, _ => ⟨Int.le_refl _, (by decide : (0 : Int) < 10 ^ 0)⟩
  | l + 1, h4, h => by
    have g := nm_b l (by omega) (fun i hi => h i (by omega))
    have k := isDi_t (h l (by omega))
    show 0 ≤ 10 * nm f a l + f (a + l) - 48 ∧ 10 * nm f a l + f (a + l) - 48 < 10 ^ (l + 1)
    rw [Int.pow_succ]
    omega
theorem scanN (h : Tx M f n T) {a : Nat} (ha : a < n) : ∀ (k b : Nat) (c : Int), n - b = k → a ≤ b → b ≤ n → (∀ i, a ≤ i → i < b → isDi (f i) = true) → (b - a ≤ 4 → c = nm f a (b - a)) → ∃ v, E2 d r_rd_scanNumber 4 [(0, vR 8 3), (1, vR 21 2), (2, vI (a : Int)), (3, vI (b : Int)), (4, vI c)] [] M = some (some (vI ((en isDi f n b : Nat) : Int)), putL (putI M 5 T (if en isDi f n b - a ≤ 4 then 2 else 4)) 7 T v) ∧ (en isDi f n b - a ≤ 4 → v = nm f a (en isDi f n b - a)) := by
  obtain ⟨h1, h2, h3, h4, h5⟩ := h
  have hT : (0 : Int) ≤ (T : Int) ∧ (T : Int) < 901 := by omega
  intro k
  induction k with
  | zero =>
    intro b c hb hab hbn hl hc
    rw [en_st (Or.inl (by omega))]
    refine ⟨c, ?_, hc⟩
    rw [q_rd_scanNumber_4, h2, if_neg (by omega), w32s (by omega)]
    simp only [up2_ne (show (3 : Nat) ≠ 5 by decide), h3, Int.toNat_natCast, if_pos hT]
    by_cases c4 : b - a ≤ 4
    · rw [if_neg (by omega), if_pos c4]
    · rw [if_pos (by omega), if_neg c4]
  | succ k ih =>
    intro b c hb hab hbn hl hc
    cases hq : isDi (f b)
    · rw [en_st (Or.inr hq)]
      refine ⟨c, ?_, hc⟩
      rw [q_rd_scanNumber_4, h2, if_pos (by omega), if_pos (by omega), Int.toNat_natCast, h1 b (by omega), rd_isDi, bI_k, hq, if_pos b01_f, w32s (by omega)]
      simp only [up2_ne (show (3 : Nat) ≠ 5 by decide), h3, Int.toNat_natCast, if_pos hT]
      by_cases c4 : b - a ≤ 4
      · rw [if_neg (by omega), if_pos c4]
      · rw [if_pos (by omega), if_neg c4]
    · rw [en_go (by omega) hq]
      have hl' : ∀ i, a ≤ i → i < b + 1 → isDi (f i) = true := fun i i1 i2 => by
        by_cases ci : i = b
        · rw [ci]; exact hq
        · exact hl i i1 (by omega)
      by_cases c4 : b - a < 4
      · have hc' := hc (by omega)
        have nb := nm_b (f := f) (a := a) (b - a) (by omega) (fun i hi => hl (a + i) (by omega) (by omega))
        have p4 := p10 (b - a) (by omega)
        have kd := isDi_t hq
        obtain ⟨v, g1, g2⟩ := ih (b + 1) (10 * nm f a (b - a) + f b - 48) (by omega) (by omega) (by omega) hl' (fun _ => by
          rw [show b + 1 - a = b - a + 1 by omega]
          show _ = 10 * nm f a (b - a) + f (a + (b - a)) - 48
          rw [show a + (b - a) = b by omega])
        refine ⟨v, ?_, g2⟩
        rw [q_rd_scanNumber_4, h2, if_pos (by omega), if_pos (by omega), Int.toNat_natCast, h1 b (by omega), rd_isDi, bI_k, hq, if_neg (by decide), w32s (x := (b : Int) - a) (by omega), if_pos (by omega), if_pos (by omega), h1 b (by omega), hc', w32s (x := 10 * nm f a (b - a)) (by omega), w32s (x := 10 * nm f a (b - a) + f b) (by omega), w32n (by omega), w32s (x := 10 * nm f a (b - a) + f b - 48) (by omega)]
        exact g1
      · obtain ⟨v, g1, g2⟩ := ih (b + 1) 0 (by omega) (by omega) (by omega) hl' (fun c5 => by omega)
        refine ⟨v, ?_, g2⟩
        rw [q_rd_scanNumber_4, h2, if_pos (by omega), if_pos (by omega), Int.toNat_natCast, h1 b (by omega), rd_isDi, bI_k, hq, if_neg (by decide), w32s (x := (b : Int) - a) (by omega), if_neg (by omega), w32n (by omega)]
        exact g1
end Scan
