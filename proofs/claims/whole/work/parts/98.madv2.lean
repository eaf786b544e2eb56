section Madv2
variable (d : Nat) {f : Nat → Int} {n : Nat}
theorem m_numL {a : Nat} (ha : a < n) : ∀ (k b : Nat) (Y : Mem), n - b = k → a ≤ b → b ≤ n → Ty Y f n → (∀ i, a ≤ i → i < b → isDi (f i) = true) → Y.1 179 15 = (a : Int) → Y.1 179 16 = (b : Int) → (b - a ≤ 4 → Y.1 179 17 = nm f a (b - a)) → ∃ Y', E2 d r_m_advance 105 [(0, vR 12 179)] [] Y = some (none, Y') ∧ FT Y Y' ∧ Y'.1 179 14 = (if en isDi f n b - a ≤ 4 then 2 else 4) ∧ Y'.1 179 15 = (a : Int) ∧ Y'.1 179 16 = ((en isDi f n b : Nat) : Int) ∧ (en isDi f n b - a ≤ 4 → Y'.1 179 17 = nm f a (en isDi f n b - a)) := by
  intro k
  induction k with
  | zero =>
    intro b Y hk hab hbn hY hl g5 g6 g7
    have hn := hY.2.2
    rw [en_st (Or.inl (by omega))]
    refine ⟨putI Y 179 14 (if b - a ≤ 4 then 2 else 4), ?_, FT.p (by decide), pI_s, ?_, ?_, ?_⟩
    · rw [q_m_advance_105, g6, m_look d hY, bI_k, m_isDi, lk_di hY, decide_eq_false (by omega), bI_k, Bool.false_and, if_pos b01_f, g6, g5, w32s (by omega)]
      by_cases c4 : b - a ≤ 4
      · rw [if_neg (by omega), if_pos c4]
      · rw [if_pos (by omega), if_neg c4]
    · rw [pI_nk (by decide)]; exact g5
    · rw [pI_nk (by decide)]; exact g6
    · rw [pI_nk (by decide)]; exact g7
  | succ k ih =>
    intro b Y hk hab hbn hY hl g5 g6 g7
    have hn := hY.2.2
    have hx := q_m_advance_105 d Y
    rw [g6, m_look d hY, bI_k, m_isDi, lk_di hY, decide_eq_true (show b < n by omega), bI_k, Bool.true_and, g6, g5, w32s (x := (b : Int) - a) (by omega), m_look d hY b, if_pos (show b < n by omega)] at hx
    cases hq : isDi (f b)
    · rw [en_st (Or.inr hq)]
      rw [hq, if_pos b01_f] at hx
      refine ⟨putI Y 179 14 (if b - a ≤ 4 then 2 else 4), ?_, FT.p (by decide), pI_s, ?_, ?_, ?_⟩
      · rw [hx]
        by_cases c4 : b - a ≤ 4
        · rw [if_neg (by omega), if_pos c4]
        · rw [if_pos (by omega), if_neg c4]
      · rw [pI_nk (by decide)]; exact g5
      · rw [pI_nk (by decide)]; exact g6
      · rw [pI_nk (by decide)]; exact g7
    · rw [hq, if_neg (by decide)] at hx
      have hl' : ∀ i, a ≤ i → i < b + 1 → isDi (f i) = true := fun i i1 i2 => by
        by_cases ci : i = b
        · rw [ci]; exact hq
        · exact hl i i1 (by omega)
      rw [en_go (by omega) hq]
      have kb := isDi_t hq
      have uf : xand (f b) 255 = f b := by rw [u255 (hY.1 b (by omega)).2, if_neg (by omega)]
      by_cases c4 : b - a < 4
      · rw [if_pos (by omega), uf, bI_k, g7 (by omega)] at hx
        have cb := nm_b (f := f) (a := a) (b - a) (by omega) (fun i hi => hl (a + i) (by omega) (by omega))
        have p4 := p10 (b - a) (by omega)
        have e1 : w32 (w32 (w32 (10 * nm f a (b - a)) + f b) - 48) = nm f a (b - a + 1) := by
          show _ = 10 * nm f a (b - a) + f (a + (b - a)) - 48
          rw [show a + (b - a) = b by omega, w32s (x := 10 * nm f a (b - a)) (by omega), w32s (x := 10 * nm f a (b - a) + f b) (by omega), w32s (by omega)]
        rw [e1, pI_nk (by decide), g6, w32n (by omega)] at hx
        obtain ⟨Y', r1, r2, r3⟩ := ih (b + 1) (putI (putI Y 179 17 (nm f a (b - a + 1))) 179 16 ((b + 1 : Nat) : Int)) (by omega) (by omega) (by omega) (hY.ft ((FT.p (by decide)).tr (FT.p (by decide)))) hl' (by rw [pI_nk (by decide), pI_nk (by decide)]; exact g5) pI_s (fun _ => by
          rw [pI_nk (by decide), pI_s, show b + 1 - a = b - a + 1 by omega])
        exact ⟨Y', hx.trans r1, ((FT.p (by decide)).tr (FT.p (by decide))).tr r2, r3⟩
      · rw [if_neg (by omega), w32n (by omega)] at hx
        obtain ⟨Y', r1, r2, r3⟩ := ih (b + 1) (putI Y 179 16 ((b + 1 : Nat) : Int)) (by omega) (by omega) (by omega) (hY.ft (FT.p (by decide))) hl' (by rw [pI_nk (by decide)]; exact g5) pI_s (fun c5 => by omega)
        exact ⟨Y', hx.trans r1, (FT.p (by decide)).tr r2, r3⟩
/-- what stands at a place that is no blank -/
noncomputable def mFin (M : Mem) : Option Res := if ((putI M 179 16 (M.1 179 15)).1 179 15) < ((putI M 179 16 (M.1 179 15)).1 179 9) then (bI (C2 d j_m_look2 [vR 12 179, vI ((putI M 179 16 (M.1 179 15)).1 179 15)] (putI M 179 16 (M.1 179 15))) fun x14 M13 => bI (C2 d j_m_isLetter [vI x14] M13) fun x16 M15 => if x16 = 0 then (bI (C2 d j_m_isDigit [vI x14] M15) fun x18 M17 => if x18 = 0 then (bI (C2 d j_m_isSignByte [vR 12 179, vI x14] (putI (putI M17 179 16 (w32 ((M17.1 179 15) + 1))) 179 17 x14)) fun x20 M19 => if x20 = 0 then (some (none, (putI M19 179 14 4))) else (some (none, (putI M19 179 14 3)))) else (E2 d r_m_advance 105 [(0, vR 12 179)] [] (putI M17 179 17 0))) else (E2 d r_m_advance 55 [(0, vR 12 179)] [] (putL (putI M15 179 14 1) 179 19 0))) else (some (none, (putI (putI M 179 16 (M.1 179 15)) 179 14 0)))
theorem m_isSg {M : Mem} (c : Int) : C2 d j_m_isSignByte [vR 12 179, vI c] M = some (some (vI (b01 (isSg c))), M) := by
  rw [q_m_isSignByte]
  unfold isSg
  by_cases h : c = 59
  · rw [if_pos h, decide_eq_true h]; rfl
  · rw [if_neg h, decide_eq_false h]
    by_cases g : c = 60
    · rw [if_pos g, decide_eq_true g]; rfl
    · rw [if_neg g, decide_eq_false g]
      by_cases g2 : c = 62
      · rw [if_pos g2, decide_eq_true g2]; rfl
      · rw [if_neg g2, decide_eq_false g2]
        by_cases g3 : c = 61
        · rw [if_pos g3, decide_eq_true g3]; rfl
        · rw [if_neg g3, decide_eq_false g3]; rfl
theorem m_fin {Y : Mem} (hY : Ty Y f n) {a : Nat} (ha : a ≤ n) (g5 : Y.1 179 15 = (a : Int)) : ∃ Y', mFin d Y = some (none, Y') ∧ TS Y' f n a ∧ FT Y Y' := by
  have hn := hY.2.2
  have F1 : FT Y (putI Y 179 16 (a : Int)) := FT.p (by decide)
  have hY1 := hY.ft F1
  have e15 : (putI Y 179 16 (a : Int)).1 179 15 = (a : Int) := by rw [pI_nk (by decide)]; exact g5
  unfold mFin
  rw [g5, e15, hY1.2.1]
  by_cases c : a < n
  · have uK : tK f n a = bif isLe (f a) then 1 else bif isDi (f a) then (if en isDi f n a - a ≤ 4 then 2 else 4) else bif isSg (f a) then 3 else 4 := if_pos c
    have uB : tB f n a = bif isLe (f a) then en isLe f n a else bif isDi (f a) then en isDi f n a else a + 1 := if_pos c
    have rg := (hY.1 a c).2
    rw [if_pos (by omega), m_look d hY1, bI_k, m_isLe, bI_k, if_pos c, u_le rg]
    cases c1 : isLe (f a)
    · rw [if_pos b01_f, m_isDi, bI_k, u_di rg]
      rw [c1] at uK uB
      cases c2 : isDi (f a)
      · rw [if_pos b01_f, m_isSg, bI_k, u_sg rg, e15, w32n (by omega)]
        rw [c2] at uK uB
        have F2 : FT Y (putI (putI (putI Y 179 16 (a : Int)) 179 16 ((a + 1 : Nat) : Int)) 179 17 (xand (f a) 255)) := (F1.tr (FT.p (by decide))).tr (FT.p (by decide))
        have k15 : ∀ v, (putI (putI (putI (putI Y 179 16 (a : Int)) 179 16 ((a + 1 : Nat) : Int)) 179 17 (xand (f a) 255)) 179 14 v).1 179 15 = (a : Int) := fun v => by
          rw [pI_nk (by decide), pI_nk (by decide), pI_nk (by decide)]; exact e15
        have k16 : ∀ v, (putI (putI (putI (putI Y 179 16 (a : Int)) 179 16 ((a + 1 : Nat) : Int)) 179 17 (xand (f a) 255)) 179 14 v).1 179 16 = ((a + 1 : Nat) : Int) := fun v => by
          rw [pI_nk (by decide), pI_nk (by decide), pI_s]
        cases c3 : isSg (f a)
        · rw [if_pos b01_f]
          rw [c3] at uK
          refine ⟨_, rfl, ⟨?_, k15 4, ?_, ?_, ?_, ?_⟩, F2.tr (FT.p (by decide))⟩
          · rw [pI_s, uK]; rfl
          · rw [k16, uB]; rfl
          · intro g; rw [uK] at g; simp at g
          · intro g; rw [uK] at g; simp at g
          · intro g; rw [uK] at g; simp at g
        · rw [if_neg (by decide)]
          rw [c3] at uK
          refine ⟨_, rfl, ⟨?_, k15 3, ?_, ?_, ?_, ?_⟩, F2.tr (FT.p (by decide))⟩
          · rw [pI_s, uK]; rfl
          · rw [k16, uB]; rfl
          · intro g; rw [uK] at g; simp at g
          · intro g; rw [uK] at g; simp at g
          · intro _
            have : 0 ≤ f a := by
              unfold isSg at c3
              simp only [Bool.or_eq_true, decide_eq_true_eq] at c3
              omega
            rw [pI_nk (by decide), pI_s, u255 rg, if_neg (by omega)]
      · rw [if_neg (by decide)]
        rw [c2] at uK uB
        have F2 : FT Y (putI (putI Y 179 16 (a : Int)) 179 17 0) := F1.tr (FT.p (by decide))
        obtain ⟨Y', r1, r2, r3, r4, r5, r6⟩ := m_numL d (f := f) c (n - a) a (putI (putI Y 179 16 (a : Int)) 179 17 0) rfl (Nat.le_refl _) ha (hY.ft F2) (fun i i1 i2 => by omega) (by rw [pI_nk (by decide)]; exact e15) (by rw [pI_nk (by decide), pI_s]) (fun _ => by rw [pI_s, Nat.sub_self]; rfl)
        refine ⟨Y', r1, ⟨?_, r4, ?_, ?_, ?_, ?_⟩, F2.tr r2⟩
        · rw [r3, uK]; rfl
        · rw [r5, uB]; rfl
        · intro g; rw [uK] at g
          simp only [cond_false, cond_true] at g
          by_cases c4 : en isDi f n a - a ≤ 4
          · rw [if_pos c4] at g; exact absurd g (by decide)
          · rw [if_neg c4] at g; exact absurd g (by decide)
        · intro g; rw [uK] at g
          simp only [cond_false, cond_true] at g
          by_cases c4 : en isDi f n a - a ≤ 4
          · exact r6 c4
          · rw [if_neg c4] at g; exact absurd g (by decide)
        · intro g; rw [uK] at g
          simp only [cond_false, cond_true] at g
          by_cases c4 : en isDi f n a - a ≤ 4
          · rw [if_pos c4] at g; exact absurd g (by decide)
          · rw [if_neg c4] at g; exact absurd g (by decide)
    · rw [if_neg (by decide)]
      rw [c1] at uK uB
      have F2 : FT Y (putL (putI (putI Y 179 16 (a : Int)) 179 14 1) 179 19 0) := (F1.tr (FT.p (by decide))).tr FT.l
      obtain ⟨Y', r1, r2, r3, r4, r5, r6, r7⟩ := m_wordL d (f := f) c (n - a) a (putL (putI (putI Y 179 16 (a : Int)) 179 14 1) 179 19 0) rfl (Nat.le_refl _) ha (hY.ft F2) (fun i i1 i2 => by omega) (by show (putI (putI Y 179 16 (a : Int)) 179 14 1).1 179 14 = 1; exact pI_s) (by show (putI (putI Y 179 16 (a : Int)) 179 14 1).1 179 15 = _; rw [pI_nk (by decide)]; exact e15) (by show (putI (putI Y 179 16 (a : Int)) 179 14 1).1 179 16 = _; rw [pI_nk (by decide), pI_s]) (by rw [pL_s, Nat.sub_self]; rfl)
      refine ⟨Y', r1, ⟨?_, r4, ?_, fun _ => ⟨r6, r7⟩, ?_, ?_⟩, F2.tr r2⟩
      · rw [r3, uK]; rfl
      · rw [r5, uB]; rfl
      · intro g; rw [uK] at g; simp at g
      · intro g; rw [uK] at g; simp at g
  · have uK : tK f n a = 0 := if_neg c
    have uB : tB f n a = a := if_neg c
    rw [if_neg (by omega)]
    refine ⟨_, rfl, ⟨?_, ?_, ?_, ?_, ?_, ?_⟩, F1.tr (FT.p (by decide))⟩
    · rw [pI_s, uK]
    · rw [pI_nk (by decide)]; exact e15
    · rw [pI_nk (by decide), pI_s, uB]
    · intro g; rw [uK] at g; simp at g
    · intro g; rw [uK] at g; simp at g
    · intro g; rw [uK] at g; simp at g
theorem m_adv4 : ∀ (k p : Nat) (Y : Mem), n - p = k → p ≤ n → Ty Y f n → Y.1 179 15 = (p : Int) → ∃ Y', E2 d r_m_advance 4 [(0, vR 12 179)] [] Y = some (none, Y') ∧ TS Y' f n (en isBl f n p) ∧ FT Y Y' := by
  intro k
  induction k with
  | zero =>
    intro p Y hk hp hY g5
    have hx : E2 d r_m_advance 4 [(0, vR 12 179)] [] Y = mFin d Y := by
      rw [q_m_advance_4, if_neg (by rw [g5, hY.2.1]; omega)]
      rfl
    rw [hx, en_st (Or.inl (by omega))]
    exact m_fin d hY hp g5
  | succ k ih =>
    intro p Y hk hp hY g5
    have hn := hY.2.2
    have rg := (hY.1 p (by omega)).2
    have hx := q_m_advance_4 d Y
    rw [if_pos (by rw [g5, hY.2.1]; omega), g5, m_look d hY, bI_k, if_pos (show p < n by omega)] at hx
    by_cases b1 : f p = 10
    · rw [if_pos ((u_eq rg (by decide)).mpr b1), g5, w32n (by omega)] at hx
      obtain ⟨Y', r1, r2, r3⟩ := ih (p + 1) (putI Y 179 15 ((p + 1 : Nat) : Int)) (by omega) (by omega) (hY.ft (FT.p (by decide))) pI_s
      refine ⟨Y', hx.trans r1, ?_, (FT.p (by decide)).tr r3⟩
      rw [en_go (by omega) (by unfold isBl; rw [decide_eq_true b1]; rfl)]; exact r2
    · rw [if_neg (fun q => b1 ((u_eq rg (by decide)).mp q)), g5, m_look d hY, bI_k, if_pos (show p < n by omega)] at hx
      by_cases b2 : f p = 32
      · rw [if_pos ((u_eq rg (by decide)).mpr b2), g5, w32n (by omega)] at hx
        obtain ⟨Y', r1, r2, r3⟩ := ih (p + 1) (putI Y 179 15 ((p + 1 : Nat) : Int)) (by omega) (by omega) (hY.ft (FT.p (by decide))) pI_s
        refine ⟨Y', hx.trans r1, ?_, (FT.p (by decide)).tr r3⟩
        rw [en_go (by omega) (by unfold isBl; rw [decide_eq_true b2, Bool.or_true])]; exact r2
      · rw [if_neg (fun q => b2 ((u_eq rg (by decide)).mp q))] at hx
        have hx2 : E2 d r_m_advance 4 [(0, vR 12 179)] [] Y = mFin d Y := by
          unfold mFin
          rw [g5] at hx ⊢
          exact hx
        rw [hx2, en_st (Or.inr (by unfold isBl; rw [decide_eq_false b1, decide_eq_false b2]; rfl))]
        exact m_fin d hY hp g5
/-- the reference goes on by a token -/
theorem m_adv {Y : Mem} (hY : Ty Y f n) {b : Nat} (hb : b ≤ n) (g6 : Y.1 179 16 = (b : Int)) : ∃ Y', C2 d j_m_advance [vR 12 179] Y = some (none, Y') ∧ TS Y' f n (en isBl f n b) ∧ FT Y Y' := by
  obtain ⟨Y', r1, r2, r3⟩ := m_adv4 d (f := f) (n - b) b (putI Y 179 15 (b : Int)) rfl hb (hY.ft (FT.p (by decide))) pI_s
  refine ⟨Y', ?_, r2, (FT.p (by decide)).tr r3⟩
  rw [q_m_advance, g6]
  exact r1
end Madv2
