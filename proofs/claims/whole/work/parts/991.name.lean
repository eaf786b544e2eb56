section Nam
variable (d : Nat) {f : Nat → Int} {n T : Nat}
theorem kw_rng {w : Int} : -1 ≤ kwI w ∧ kwI w ≤ 27 := by
  have e : ∀ k : Nat, -1 ≤ kwL w k ∧ kwL w k ≤ (k : Int) - 1 := by
    intro k
    induction k with
    | zero => exact ⟨Int.le_refl _, Int.le_refl _⟩
    | succ k ih =>
      show -1 ≤ (if keyC.getD k 0 = w then (k : Int) else kwL w k) ∧ (if keyC.getD k 0 = w then (k : Int) else kwL w k) ≤ ((k + 1 : Nat) : Int) - 1
      by_cases c : keyC.getD k 0 = w
      · rw [if_pos c]; omega
      · rw [if_neg c]; omega
  unfold kwI
  by_cases c : w = 0
  · rw [if_pos c]; omega
  · rw [if_neg c]
    have := e 28
    omega
theorem is_kept {Y : Mem} {a : Nat} (h : TS Y f n a) : C2 d j_m_isKept [vR 12 179] Y = some (some (vI (b01 (!decide (kwI (wdF f n a) = -1)))), Y) := by
  have hr := kw_rng (w := wdF f n a)
  rw [q_m_isKept]
  have r1 : ∀ k : Int, 0 ≤ k → b01 (!decide (k = -1)) = 1 := fun k hk => by rw [decide_eq_false (by omega)]; rfl
  rw [is_life d h, bI_k]
  by_cases c0 : kwI (wdF f n a) = 0
  · rw [decide_eq_true c0, if_neg (by decide), r1 _ (by omega)]
  rw [decide_eq_false c0, if_pos b01_f]
  rw [is_border d h, bI_k]
  by_cases c1 : kwI (wdF f n a) = 1
  · rw [decide_eq_true c1, if_neg (by decide), r1 _ (by omega)]
  rw [decide_eq_false c1, if_pos b01_f]
  rw [is_part d h, bI_k]
  by_cases c3 : kwI (wdF f n a) = 3
  · rw [decide_eq_true c3, if_neg (by decide), r1 _ (by omega)]
  rw [decide_eq_false c3, if_pos b01_f]
  rw [is_fades d h, bI_k]
  by_cases c4 : kwI (wdF f n a) = 4
  · rw [decide_eq_true c4, if_neg (by decide), r1 _ (by omega)]
  rw [decide_eq_false c4, if_pos b01_f]
  rw [is_ways d h, bI_k]
  by_cases c5 : kwI (wdF f n a) = 5
  · rw [decide_eq_true c5, if_neg (by decide), r1 _ (by omega)]
  rw [decide_eq_false c5, if_pos b01_f]
  rw [is_written d h, bI_k]
  by_cases c6 : kwI (wdF f n a) = 6
  · rw [decide_eq_true c6, if_neg (by decide), r1 _ (by omega)]
  rw [decide_eq_false c6, if_pos b01_f]
  rw [is_hand d h, bI_k]
  by_cases c7 : kwI (wdF f n a) = 7
  · rw [decide_eq_true c7, if_neg (by decide), r1 _ (by omega)]
  rw [decide_eq_false c7, if_pos b01_f]
  rw [is_age d h, bI_k]
  by_cases c8 : kwI (wdF f n a) = 8
  · rw [decide_eq_true c8, if_neg (by decide), r1 _ (by omega)]
  rw [decide_eq_false c8, if_pos b01_f]
  rw [is_price d h, bI_k]
  by_cases c9 : kwI (wdF f n a) = 9
  · rw [decide_eq_true c9, if_neg (by decide), r1 _ (by omega)]
  rw [decide_eq_false c9, if_pos b01_f]
  rw [is_knows d h, bI_k]
  by_cases c10 : kwI (wdF f n a) = 10
  · rw [decide_eq_true c10, if_neg (by decide), r1 _ (by omega)]
  rw [decide_eq_false c10, if_pos b01_f]
  rw [is_spring d h, bI_k]
  by_cases c11 : kwI (wdF f n a) = 11
  · rw [decide_eq_true c11, if_neg (by decide), r1 _ (by omega)]
  rw [decide_eq_false c11, if_pos b01_f]
  rw [is_at d h, bI_k]
  by_cases c12 : kwI (wdF f n a) = 12
  · rw [decide_eq_true c12, if_neg (by decide), r1 _ (by omega)]
  rw [decide_eq_false c12, if_pos b01_f]
  rw [is_gives d h, bI_k]
  by_cases c13 : kwI (wdF f n a) = 13
  · rw [decide_eq_true c13, if_neg (by decide), r1 _ (by omega)]
  rw [decide_eq_false c13, if_pos b01_f]
  rw [is_step d h, bI_k]
  by_cases cs : stK (kwI (wdF f n a)) < 0
  · rw [if_pos cs, is_test d h, bI_k]
    by_cases ct : teK (kwI (wdF f n a)) < 0
    · rw [if_pos ct, is_end d h, bI_k]
      by_cases ce : kwI (wdF f n a) = 26
      · rw [decide_eq_true ce, if_neg (by decide), r1 _ (by omega)]
      · rw [decide_eq_false ce, if_pos b01_f]
        have : kwI (wdF f n a) = -1 := by
          unfold stK at cs
          unfold teK at ct
          generalize kwI (wdF f n a) = k at *
          by_cases s1 : 14 ≤ k ∧ k ≤ 22
          · rw [if_pos s1] at cs; omega
          · rw [if_neg s1] at cs
            by_cases s2 : k = 25
            · rw [if_pos s2] at cs; omega
            · rw [if_neg s2] at cs
              by_cases s3 : k = 27
              · rw [if_pos s3] at cs; omega
              · by_cases s4 : k = 23
                · rw [if_pos s4] at ct; omega
                · rw [if_neg s4] at ct
                  by_cases s5 : k = 24
                  · rw [if_pos s5] at ct; omega
                  · rw [if_neg s5] at ct
                    by_cases s6 : k = 2
                    · rw [if_pos s6] at ct; omega
                    · omega
        rw [this]; rfl
    · rw [if_neg ct, r1]
      unfold teK at ct
      generalize kwI (wdF f n a) = k at *
      by_cases s4 : k = 23
      · omega
      · rw [if_neg s4] at ct
        by_cases s5 : k = 24
        · omega
        · rw [if_neg s5] at ct
          by_cases s6 : k = 2
          · omega
          · rw [if_neg s6] at ct; omega
  · rw [if_neg cs, r1]
    unfold stK at cs
    generalize kwI (wdF f n a) = k at *
    by_cases s1 : 14 ≤ k ∧ k ≤ 22
    · omega
    · rw [if_neg s1] at cs
      by_cases s2 : k = 25
      · omega
      · rw [if_neg s2] at cs
        by_cases s3 : k = 27
        · omega
        · rw [if_neg s3] at cs; omega
/-- a NAME stands there -/
def nmB (f : Nat → Int) (n a : Nat) : Bool := decide (tK f n a = 1) && (decide (en isLe f n a - a ≤ 8) && decide (kwI (wdF f n a) = -1))
theorem is_name {Y : Mem} {a : Nat} (h : TS Y f n a) : C2 d j_m_isName [vR 12 179] Y = some (some (vI (b01 (nmB f n a))), Y) := by
  unfold nmB
  rw [q_m_isName, h.1]
  by_cases c : tK f n a = 1
  · rw [if_pos c, decide_eq_true c, Bool.true_and, (h.2.2.2.1 c).1]
    by_cases c8 : en isLe f n a - a ≤ 8
    · rw [if_neg (by omega), decide_eq_true c8, Bool.true_and, is_kept d h, bI_k]
      by_cases ck : kwI (wdF f n a) = -1
      · rw [decide_eq_true ck, if_pos (show b01 (!true) = 0 from rfl)]; rfl
      · rw [decide_eq_false ck, if_neg (by decide)]; rfl
    · rw [if_pos (by omega), decide_eq_false c8]; rfl
  · rw [if_neg c, decide_eq_false c]; rfl
theorem cd_pos {a : Nat} : ∀ l : Nat, (∀ i, i < l + 1 → isLe (f (a + i)) = true) → 0 < cd f a (l + 1) := fun l h => by
  have b := cd_b l (fun i hi => h i (by omega))
  have k := isLe_t (h l (by omega))
  show 0 < cd f a l * 32 + (f (a + l) - 96)
  omega
theorem len1 {a : Nat} (h : tK f n a = 1) : isLe (f a) = true ∧ a < n := by
  unfold tK at h
  by_cases c : a < n
  · rw [if_pos c] at h
    refine ⟨?_, c⟩
    cases c1 : isLe (f a)
    · rw [c1] at h
      cases c2 : isDi (f a) <;> rw [c2] at h
      · cases c3 : isSg (f a) <;> rw [c3] at h <;> simp at h
      · by_cases c4 : en isDi f n a - a ≤ 4
        · rw [if_pos c4] at h; simp at h
        · rw [if_neg c4] at h; simp at h
    · rfl
  · rw [if_neg c] at h; simp at h
theorem wd_0 {a : Nat} (h : tK f n a = 1) : wdF f n a = 0 ↔ ¬ en isLe f n a - a ≤ 8 := by
  obtain ⟨g1, g2⟩ := len1 h
  have ge := en_ge (q := isLe) (f := f) (n := n) (p := a + 1)
  have e := en_go (q := isLe) g2 g1
  unfold wdF
  rw [if_pos h]
  by_cases c : en isLe f n a - a ≤ 8
  · rw [if_pos c]
    obtain ⟨l, hl⟩ : ∃ l, en isLe f n a - a = l + 1 := ⟨en isLe f n a - a - 1, by omega⟩
    have p := cd_pos (f := f) (a := a) l (fun i hi => en_all (n := n) (n - a) a rfl (a + i) (by omega) (by omega))
    rw [hl]
    constructor
    · intro q; omega
    · intro q; omega
  · rw [if_neg c]
    exact ⟨fun _ => c, fun _ => rfl⟩
theorem rd_name {X : Mem} {i : Nat} (h : RdS X f n i) : C2 d j_rd_atName [vR 8 3] X = some (some (vI (b01 (nmB f n (tkA f n i)))), X) := by
  obtain ⟨h1, h2, h3, h4, h5, h6⟩ := h
  unfold nmB
  rw [q_rd_atName, h2, h3, h4]
  by_cases c : tK f n (tkA f n i) = 1
  · rw [if_pos c, decide_eq_true c, Bool.true_and]
    by_cases c8 : en isLe f n (tkA f n i) - tkA f n i ≤ 8
    · have w0 : ¬ wdF f n (tkA f n i) = 0 := fun q => (wd_0 c).mp q c8
      rw [if_neg (show ¬ ycmp (wdF f n (tkA f n i)) 0 = 0 by rw [ycmp_eq]; exact w0), decide_eq_true c8, Bool.true_and]
      by_cases ck : kwI (wdF f n (tkA f n i)) = -1
      · rw [if_pos ck, decide_eq_true ck]; rfl
      · rw [if_neg ck, decide_eq_false ck]; rfl
    · have w0 : wdF f n (tkA f n i) = 0 := (wd_0 c).mpr c8
      rw [if_pos (show ycmp (wdF f n (tkA f n i)) 0 = 0 by rw [ycmp_eq]; exact w0), decide_eq_false c8]; rfl
  · rw [if_neg c, decide_eq_false c]; rfl
end Nam
