section Begin
variable {M : Mem} (d : Nat) {f : Nat → Int} {n T : Nat}
theorem Tx.p6 (h : Tx M f n T) {k : Nat} {v : Int} : Tx (putI M 6 k v) f n T := by
  obtain ⟨h1, h2, h3, h4, h5⟩ := h
  refine ⟨fun k hk => ?_, ?_, ?_, h4, h5⟩
  · rw [pI_ne (by decide)]; exact h1 k hk
  · rw [pI_ne (by decide)]; exact h2
  · rw [pI_ne (by decide)]; exact h3
theorem tB_b {a : Nat} (ha : a < n) : a < tB f n a ∧ tB f n a ≤ n := by
  unfold tB
  rw [if_pos ha]
  cases h1 : isLe (f a)
  · cases h2 : isDi (f a)
    · simp only [cond_false]; omega
    · simp only [cond_false, cond_true]
      rw [en_go ha h2]
      have := en_ge (q := isDi) (f := f) (n := n) (p := a + 1)
      have := en_n (q := isDi) (f := f) (n := n) (p := a + 1) (by omega)
      omega
  · simp only [cond_true]
    rw [en_go ha h1]
    have := en_ge (q := isLe) (f := f) (n := n) (p := a + 1)
    have := en_n (q := isLe) (f := f) (n := n) (p := a + 1) (by omega)
    omega
theorem scanT (h : Tx M f n T) (hT : T < n) {a : Nat} (ha : a < n) : ∃ v, C2 d j_rd_scanToken [vR 8 3, vR 21 2, vI (a : Int)] M = some (some (vI ((tB f n a : Nat) : Int)), putI (putL (putI (putI M 6 T (a : Int)) 5 T (tK f n a)) 7 T v) 3 4 ((T + 1 : Nat) : Int)) ∧ Vs f n a v := by
  have h6 : Tx (putI M 6 T (a : Int)) f n T := h.p6
  obtain ⟨h1, h2, h3, h4, h5⟩ := h6
  have k3 := h.2.2.1
  have hx := q_rd_scanToken (a : Int) d M
  rw [k3, if_pos (by omega), if_pos (by omega), Int.toNat_natCast, Int.toNat_natCast, h1 a ha, rd_isLe, bI_k] at hx
  have uK : tK f n a = bif isLe (f a) then 1 else bif isDi (f a) then (if en isDi f n a - a ≤ 4 then 2 else 4) else bif isSg (f a) then 3 else 4 := if_pos ha
  have uB : tB f n a = bif isLe (f a) then en isLe f n a else bif isDi (f a) then en isDi f n a else a + 1 := if_pos ha
  unfold Vs
  cases c1 : isLe (f a)
  · rw [c1, if_pos b01_f, if_pos (by omega), h1 a ha, rd_isDi, bI_k] at hx
    rw [c1] at uK uB
    cases c2 : isDi (f a)
    · have hT9 : (0 : Int) ≤ (T : Int) ∧ (T : Int) < 901 := by omega
      have ha9 : (0 : Int) ≤ (a : Int) ∧ (a : Int) < 900 := by omega
      have k2 : M.1 2 a = f a := h.1 a ha
      rw [c2, if_pos b01_f, if_pos (by omega), h1 a ha, rd_isSg, bI_k, w32n (i := a) (by omega)] at hx
      simp only [up2_ne (show (3 : Nat) ≠ 5 by decide), up2_ne (show (3 : Nat) ≠ 6 by decide), up2_ne (show (2 : Nat) ≠ 5 by decide), up2_ne (show (2 : Nat) ≠ 6 by decide), k3, k2, Int.toNat_natCast, if_pos hT9, if_pos ha9, w32n (show T < 1000000000 by omega)] at hx
      rw [c2] at uK uB
      refine ⟨f a, ?_, ?_, ?_, fun _ => rfl⟩
      · rw [hx, uK, uB]
        cases c3 : isSg (f a)
        · rw [if_pos b01_f]; rfl
        · rw [if_neg (by decide)]; rfl
      · intro g; rw [uK] at g; cases c3 : isSg (f a) <;> rw [c3] at g <;> simp at g
      · intro g; rw [uK] at g; cases c3 : isSg (f a) <;> rw [c3] at g <;> simp at g
    · rw [c2, if_neg (by decide), q_rd_scanNumber] at hx
      rw [c2] at uK uB
      obtain ⟨v, g1, g2⟩ := scanN d (h.p6 (k := T) (v := (a : Int))) ha (n - a) a 0 rfl (Nat.le_refl _) (by omega) (fun i i1 i2 => by omega) (fun _ => by rw [Nat.sub_self]; rfl)
      rw [g1, bI_k] at hx
      refine ⟨v, ?_, ?_, ?_, ?_⟩
      · have e9 : w32 ((putL (putI (putI M 6 T (a : Int)) 5 T (if en isDi f n a - a ≤ 4 then 2 else 4)) 7 T v).1 3 4 + 1) = ((T + 1 : Nat) : Int) := by
          show w32 ((putI (putI M 6 T (a : Int)) 5 T (if en isDi f n a - a ≤ 4 then 2 else 4)).1 3 4 + 1) = _
          rw [pI_ne (by decide), h3, w32n (by omega)]
        rw [hx, e9, uK, uB]
        rfl
      · intro g; rw [uK] at g
        simp only [cond_false, cond_true] at g
        by_cases c4 : en isDi f n a - a ≤ 4
        · rw [if_pos c4] at g; exact absurd g (by decide)
        · rw [if_neg c4] at g; exact absurd g (by decide)
      · intro g; rw [uK] at g
        simp only [cond_false, cond_true] at g
        by_cases c4 : en isDi f n a - a ≤ 4
        · exact g2 c4
        · rw [if_neg c4] at g; exact absurd g (by decide)
      · intro g; rw [uK] at g
        simp only [cond_false, cond_true] at g
        by_cases c4 : en isDi f n a - a ≤ 4
        · rw [if_pos c4] at g; exact absurd g (by decide)
        · rw [if_neg c4] at g; exact absurd g (by decide)
  · rw [c1, if_neg (by decide), q_rd_scanWord, scanW d (h.p6 (k := T) (v := (a : Int))) ha (n - a) a 0 rfl (Nat.le_refl _) (by omega) (fun i i1 i2 => by omega) (fun _ => by rw [Nat.sub_self]; rfl), bI_k] at hx
    rw [c1] at uK uB
    refine ⟨_, ?_, fun _ => rfl, ?_, ?_⟩
    · rw [hx, uK, uB]
      show some (some _, putI _ 3 4 (w32 ((putI (putI M 6 T (a : Int)) 5 T 1).1 3 4 + 1))) = _
      rw [pI_ne (by decide), h3, w32n (by omega)]
      rfl
    · intro g; rw [uK] at g; exact absurd (show (1 : Int) = 2 from g) (by decide)
    · intro g; rw [uK] at g; exact absurd (show (1 : Int) = 3 from g) (by decide)
/-- the first tokens lie there -/
def RA (M : Mem) (f : Nat → Int) (n m : Nat) : Prop := ∀ j, j < m → M.1 5 j = tK f n (tkA f n j) ∧ M.1 6 j = ((tkA f n j : Nat) : Int) ∧ Vs f n (tkA f n j) (M.2.1 7 j) ∧ tkA f n j < n
def FRd (M M' : Mem) : Prop := ∀ a, a ≠ 3 → a ≠ 5 → a ≠ 6 → a ≠ 7 → M'.1 a = M.1 a ∧ M'.2.1 a = M.2.1 a
theorem FRd.tr {A B C : Mem} (h : FRd A B) (g : FRd B C) : FRd A C := fun a h1 h2 h3 h4 => ⟨(g a h1 h2 h3 h4).1.trans (h a h1 h2 h3 h4).1, (g a h1 h2 h3 h4).2.trans (h a h1 h2 h3 h4).2⟩
theorem begL : ∀ (k p i T : Nat) (M : Mem), n - p ≤ k → p ≤ n → i ≤ p → T ≤ p → Tx M f n T → en isBl f n p = tkA f n T → RA M f n T → ∃ (T' i' : Nat) (M' : Mem), E2 d r_rd_begin 17 [(0, vR 8 3), (1, vR 21 2), (3, vI (p : Int)), (4, vI (i : Int))] [] M = E2 d r_rd_begin 17 [(0, vR 8 3), (1, vR 21 2), (3, vI (n : Int)), (4, vI (i' : Int))] [] M' ∧ Tx M' f n T' ∧ RA M' f n T' ∧ tkA f n T' = n ∧ FRd M M' := by
  intro k
  induction k with
  | zero =>
    intro p i T M hk hp hi hT hx he hr
    have : p = n := by omega
    subst this
    refine ⟨T, i, M, rfl, hx, hr, ?_, fun a _ _ _ _ => ⟨rfl, rfl⟩⟩
    rw [← he, en_st (Or.inl (by omega))]
  | succ k ih =>
    intro p i T M hk hp hi hT hx he hr
    by_cases hpn : p = n
    · subst hpn
      refine ⟨T, i, M, rfl, hx, hr, ?_, fun a _ _ _ _ => ⟨rfl, rfl⟩⟩
      rw [← he, en_st (Or.inl (by omega))]
    · have hpl : p < n := by omega
      have hx0 := hx
      obtain ⟨h1, h2, h3, h4, h5⟩ := hx
      have hq := q_rd_begin_17 (p : Int) (i : Int) d M
      rw [h2, if_pos (by omega), if_pos (by omega), if_pos (by omega), Int.toNat_natCast, h1 p hpl, rd_isBl, bI_k] at hq
      cases hb : isBl (f p)
      · rw [hb, if_pos b01_f] at hq
        have hA : tkA f n T = p := by rw [← he, en_st (Or.inr hb)]
        obtain ⟨v, g1, g2⟩ := scanT d hx0 (by omega) hpl
        have hB := tB_b (f := f) hpl
        rw [g1, bI_k, w32n (by omega)] at hq
        have m5 : ∀ j, (putI (putL (putI (putI M 6 T (p : Int)) 5 T (tK f n p)) 7 T v) 3 4 ((T + 1 : Nat) : Int)).1 5 j = if j = T then tK f n p else M.1 5 j := fun j => by
          rw [pI_ne (by decide)]
          show (putI (putI M 6 T (p : Int)) 5 T (tK f n p)).1 5 j = _
          by_cases c : j = T
          · rw [c, pI_s, if_pos rfl]
          · rw [pI_nk c, pI_ne (by decide), if_neg c]
        have m6 : ∀ j, (putI (putL (putI (putI M 6 T (p : Int)) 5 T (tK f n p)) 7 T v) 3 4 ((T + 1 : Nat) : Int)).1 6 j = if j = T then (p : Int) else M.1 6 j := fun j => by
          rw [pI_ne (by decide)]
          show (putI (putI M 6 T (p : Int)) 5 T (tK f n p)).1 6 j = _
          rw [pI_ne (by decide)]
          by_cases c : j = T
          · rw [c, pI_s, if_pos rfl]
          · rw [pI_nk c, if_neg c]
        have m7 : ∀ j, (putI (putL (putI (putI M 6 T (p : Int)) 5 T (tK f n p)) 7 T v) 3 4 ((T + 1 : Nat) : Int)).2.1 7 j = if j = T then v else M.2.1 7 j := fun j => by
          show (putL (putI (putI M 6 T (p : Int)) 5 T (tK f n p)) 7 T v).2.1 7 j = _
          by_cases c : j = T
          · rw [c, pL_s, if_pos rfl]
          · rw [pL_nk c, if_neg c]
        have mF : FRd M (putI (putL (putI (putI M 6 T (p : Int)) 5 T (tK f n p)) 7 T v) 3 4 ((T + 1 : Nat) : Int)) := fun a g3 g5 g6 g7 => by
          constructor
          · rw [pI_ne g3]
            show (putI (putI M 6 T (p : Int)) 5 T (tK f n p)).1 a = _
            rw [pI_ne g5, pI_ne g6]
          · show (putL (putI (putI M 6 T (p : Int)) 5 T (tK f n p)) 7 T v).2.1 a = _
            rw [pL_ne g7]
        have mT : Tx (putI (putL (putI (putI M 6 T (p : Int)) 5 T (tK f n p)) 7 T v) 3 4 ((T + 1 : Nat) : Int)) f n (T + 1) := by
          refine ⟨fun k hk => ?_, ?_, pI_s, h4, by omega⟩
          · rw [(mF 2 (by decide) (by decide) (by decide) (by decide)).1]; exact h1 k hk
          · rw [pI_nk (by decide)]
            show (putI (putI M 6 T (p : Int)) 5 T (tK f n p)).1 3 6 = _
            rw [pI_ne (by decide), pI_ne (by decide)]; exact h2
        generalize (putI (putL (putI (putI M 6 T (p : Int)) 5 T (tK f n p)) 7 T v) 3 4 ((T + 1 : Nat) : Int)) = M1 at *
        obtain ⟨T', i', M', e1, e2, e3, e4, e5⟩ := ih (tB f n p) (i + 1) (T + 1) M1 (by omega) (by omega) (by omega) (by omega) mT (by
          show _ = en isBl f n (tB f n (tkA f n T))
          rw [hA]) (fun j hj => by
          rw [m5, m6, m7]
          by_cases c : j = T
          · rw [if_pos c, if_pos c, if_pos c, c, hA]
            exact ⟨rfl, rfl, g2, hpl⟩
          · rw [if_neg c, if_neg c, if_neg c]
            exact hr j (by omega))
        exact ⟨T', i', M', hq.trans e1, e2, e3, e4, mF.tr e5⟩
      · rw [hb, if_neg (by decide), w32n (by omega), w32n (by omega)] at hq
        obtain ⟨T', i', M', e1, e2, e3, e4, e5⟩ := ih (p + 1) (i + 1) T M (by omega) (by omega) (by omega) (by omega) hx0 (by rw [← he, en_go hpl hb]) hr
        exact ⟨T', i', M', hq.trans e1, e2, e3, e4, e5⟩
/-- behind the last token -/
def bgM (M : Mem) (n T : Nat) : Mem := putI (putI (putI (putL (putI (putI M 5 T 0) 6 T (n : Int)) 7 T 0) 3 12 0) 3 13 (-1)) 3 5 (-1)
theorem begE (h : Tx M f n T) {i : Nat} : E2 d r_rd_begin 17 [(0, vR 8 3), (1, vR 21 2), (3, vI (n : Int)), (4, vI (i : Int))] [] M = (bV (C2 d j_rd_advance [vR 8 3] (bgM M n T)) fun M5 => some (none, M5)) := by
  obtain ⟨h1, h2, h3, h4, h5⟩ := h
  have hT9 : (0 : Int) ≤ (T : Int) ∧ (T : Int) < 901 := by omega
  have hx := q_rd_begin_17 (n : Int) (i : Int) d M
  simp only [up2_ne (show (3 : Nat) ≠ 5 by decide), up2_ne (show (3 : Nat) ≠ 6 by decide), h2, h3, Int.toNat_natCast, if_pos hT9, Int.lt_irrefl, if_false] at hx
  rw [hx]
  by_cases c : (i : Int) < (n : Int)
  · rw [if_pos c]; rfl
  · rw [if_neg c]; rfl
end Begin
