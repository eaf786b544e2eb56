section Madv
variable (d : Nat) {f : Nat → Int} {n : Nat}
theorem and255 : ∀ k : Nat, k < 256 → xand ((k : Int) - 128) 255 = if k < 128 then (k : Int) + 128 else (k : Int) - 128 := by decide +kernel
theorem u255 {c : Int} (h : -128 ≤ c ∧ c ≤ 127) : xand c 255 = if c < 0 then c + 256 else c := by
  have := and255 (c + 128).toNat (by omega)
  rw [show (((c + 128).toNat : Nat) : Int) - 128 = c by omega] at this
  rw [this]
  by_cases g : c < 0
  · rw [if_pos (by omega), if_pos g]; omega
  · rw [if_neg (by omega), if_neg g]
theorem u_le {c : Int} (h : -128 ≤ c ∧ c ≤ 127) : isLe (xand c 255) = isLe c := by
  rw [u255 h]
  by_cases g : c < 0
  · rw [if_pos g]
    unfold isLe
    rw [decide_eq_false (show ¬ c + 256 ≤ 122 by omega), decide_eq_false (show ¬ 97 ≤ c by omega), Bool.and_false, Bool.false_and]
  · rw [if_neg g]
theorem u_di {c : Int} (h : -128 ≤ c ∧ c ≤ 127) : isDi (xand c 255) = isDi c := by
  rw [u255 h]
  by_cases g : c < 0
  · rw [if_pos g]
    unfold isDi
    rw [decide_eq_false (show ¬ c + 256 ≤ 57 by omega), decide_eq_false (show ¬ 48 ≤ c by omega), Bool.and_false, Bool.false_and]
  · rw [if_neg g]
theorem u_sg {c : Int} (h : -128 ≤ c ∧ c ≤ 127) : isSg (xand c 255) = isSg c := by
  rw [u255 h]
  by_cases g : c < 0
  · rw [if_pos g]
    unfold isSg
    rw [decide_eq_false (show ¬ c + 256 = 59 by omega), decide_eq_false (show ¬ c + 256 = 60 by omega), decide_eq_false (show ¬ c + 256 = 62 by omega), decide_eq_false (show ¬ c + 256 = 61 by omega), decide_eq_false (show ¬ c = 59 by omega), decide_eq_false (show ¬ c = 60 by omega), decide_eq_false (show ¬ c = 62 by omega), decide_eq_false (show ¬ c = 61 by omega)]
  · rw [if_neg g]
theorem u_eq {c k : Int} (h : -128 ≤ c ∧ c ≤ 127) (hk : 0 ≤ k ∧ k ≤ 127) : xand c 255 = k ↔ c = k := by
  rw [u255 h]
  by_cases g : c < 0
  · rw [if_pos g]; omega
  · rw [if_neg g]
/-- the reference's text -/
def Ty (Y : Mem) (f : Nat → Int) (n : Nat) : Prop := (∀ k, k < n → Y.1 183 k = f k ∧ -128 ≤ f k ∧ f k ≤ 127) ∧ Y.1 179 9 = (n : Int) ∧ n ≤ 900
def TS (Y : Mem) (f : Nat → Int) (n a : Nat) : Prop := Y.1 179 14 = tK f n a ∧ Y.1 179 15 = (a : Int) ∧ Y.1 179 16 = ((tB f n a : Nat) : Int) ∧ (tK f n a = 1 → Y.1 179 18 = ((en isLe f n a - a : Nat) : Int) ∧ Y.2.1 179 19 = if en isLe f n a - a ≤ 8 then cd f a (en isLe f n a - a) else -1) ∧ (tK f n a = 2 → Y.1 179 17 = nm f a (en isDi f n a - a)) ∧ (tK f n a = 3 → Y.1 179 17 = f a)
def FT (Y Y' : Mem) : Prop := (∀ a, a ≠ 179 → Y'.1 a = Y.1 a ∧ Y'.2.1 a = Y.2.1 a) ∧ (∀ k, ¬ (14 ≤ k ∧ k ≤ 18) → Y'.1 179 k = Y.1 179 k) ∧ (∀ k, k ≠ 19 → Y'.2.1 179 k = Y.2.1 179 k)
theorem FT.rfl {Y : Mem} : FT Y Y := ⟨fun _ _ => ⟨Eq.refl _, Eq.refl _⟩, fun _ _ => Eq.refl _, fun _ _ => Eq.refl _⟩
theorem FT.tr {A B C : Mem} (h : FT A B) (g : FT B C) : FT A C := ⟨fun a h1 => ⟨(g.1 a h1).1.trans (h.1 a h1).1, (g.1 a h1).2.trans (h.1 a h1).2⟩, fun k hk => (g.2.1 k hk).trans (h.2.1 k hk), fun k hk => (g.2.2 k hk).trans (h.2.2 k hk)⟩
theorem FT.p {Y : Mem} {k : Nat} {v : Int} (h : 14 ≤ k ∧ k ≤ 18) : FT Y (putI Y 179 k v) := ⟨fun a h1 => ⟨pI_ne h1, Eq.refl _⟩, fun j hj => pI_nk (by omega), fun _ _ => Eq.refl _⟩
theorem FT.l {Y : Mem} {v : Int} : FT Y (putL Y 179 19 v) := ⟨fun a h1 => ⟨Eq.refl _, pL_ne h1⟩, fun _ _ => Eq.refl _, fun k hk => pL_nk hk⟩
theorem Ty.ft {Y Y' : Mem} (h : Ty Y f n) (g : FT Y Y') : Ty Y' f n := by
  obtain ⟨h1, h2, h3⟩ := h
  refine ⟨fun k hk => ?_, ?_, h3⟩
  · rw [(g.1 183 (by decide)).1]; exact h1 k hk
  · rw [g.2.1 9 (by decide)]; exact h2
theorem m_look {Y : Mem} (h : Ty Y f n) (p : Nat) : C2 d j_m_look2 [vR 12 179, vI (p : Int)] Y = some (some (vI (if p < n then xand (f p) 255 else 0)), Y) := by
  obtain ⟨h1, h2, h3⟩ := h
  rw [q_m_look2, h2]
  by_cases c : p < n
  · rw [if_pos (by omega), if_pos (by omega), Int.toNat_natCast, (h1 p c).1, if_pos c]
  · rw [if_neg (by omega), if_neg c]
theorem m_isLe {M : Mem} (c : Int) : C2 d j_m_isLetter [vI c] M = some (some (vI (b01 (isLe c))), M) := by
  rw [q_m_isLetter]
  cases h : isLe c
  · rcases isLe_f h with g | g
    · rw [if_pos g]; rfl
    · rw [if_neg (by omega), if_pos g]; rfl
  · have := isLe_t h
    rw [if_neg (by omega), if_neg (by omega)]; rfl
theorem m_isDi {M : Mem} (c : Int) : C2 d j_m_isDigit [vI c] M = some (some (vI (b01 (isDi c))), M) := by
  rw [q_m_isDigit]
  cases h : isDi c
  · rcases isDi_f h with g | g
    · rw [if_pos g]; rfl
    · rw [if_neg (by omega), if_pos g]; rfl
  · have := isDi_t h
    rw [if_neg (by omega), if_neg (by omega)]; rfl
/-- a letter that stands there -/
theorem lk_le {Y : Mem} (h : Ty Y f n) (p : Nat) : isLe (if p < n then xand (f p) 255 else 0) = (decide (p < n) && isLe (f p)) := by
  by_cases c : p < n
  · rw [if_pos c, decide_eq_true c, u_le (h.1 p c).2]; rfl
  · rw [if_neg c, decide_eq_false c]; rfl
theorem lk_di {Y : Mem} (h : Ty Y f n) (p : Nat) : isDi (if p < n then xand (f p) 255 else 0) = (decide (p < n) && isDi (f p)) := by
  by_cases c : p < n
  · rw [if_pos c, decide_eq_true c, u_di (h.1 p c).2]; rfl
  · rw [if_neg c, decide_eq_false c]; rfl
theorem m_wordL {a : Nat} (ha : a < n) : ∀ (k b : Nat) (Y : Mem), n - b = k → a ≤ b → b ≤ n → Ty Y f n → (∀ i, a ≤ i → i < b → isLe (f i) = true) → Y.1 179 14 = 1 → Y.1 179 15 = (a : Int) → Y.1 179 16 = (b : Int) → (Y.2.1 179 19 = if b - a ≤ 8 then cd f a (b - a) else -1) → ∃ Y', E2 d r_m_advance 55 [(0, vR 12 179)] [] Y = some (none, Y') ∧ FT Y Y' ∧ Y'.1 179 14 = 1 ∧ Y'.1 179 15 = (a : Int) ∧ Y'.1 179 16 = ((en isLe f n b : Nat) : Int) ∧ Y'.1 179 18 = ((en isLe f n b - a : Nat) : Int) ∧ (Y'.2.1 179 19 = if en isLe f n b - a ≤ 8 then cd f a (en isLe f n b - a) else -1) := by
  intro k
  induction k with
  | zero =>
    intro b Y hk hab hbn hY hl g4 g5 g6 g9
    have hn := hY.2.2
    rw [en_st (Or.inl (by omega))]
    refine ⟨putI Y 179 18 ((b - a : Nat) : Int), ?_, FT.p (by decide), ?_, ?_, ?_, pI_s, g9⟩
    · rw [q_m_advance_55, g6, m_look d hY, bI_k, m_isLe, lk_le hY, decide_eq_false (by omega), bI_k, Bool.false_and, if_pos b01_f, g6, g5, w32s (by omega), show (b : Int) - a = ((b - a : Nat) : Int) by omega]
    · rw [pI_nk (by decide)]; exact g4
    · rw [pI_nk (by decide)]; exact g5
    · rw [pI_nk (by decide)]; exact g6
  | succ k ih =>
    intro b Y hk hab hbn hY hl g4 g5 g6 g9
    have hn := hY.2.2
    have hx := q_m_advance_55 d Y
    rw [g6, m_look d hY, bI_k, m_isLe, lk_le hY, decide_eq_true (show b < n by omega), bI_k, Bool.true_and, g6, g5, w32s (x := (b : Int) - a) (by omega), m_look d hY b, if_pos (show b < n by omega)] at hx
    cases hq : isLe (f b)
    · rw [en_st (Or.inr hq)]
      rw [hq, if_pos b01_f] at hx
      refine ⟨putI Y 179 18 ((b - a : Nat) : Int), ?_, FT.p (by decide), ?_, ?_, ?_, pI_s, g9⟩
      · rw [hx, show (b : Int) - a = ((b - a : Nat) : Int) by omega]
      · rw [pI_nk (by decide)]; exact g4
      · rw [pI_nk (by decide)]; exact g5
      · rw [pI_nk (by decide)]; exact g6
    · rw [hq, if_neg (by decide)] at hx
      have hl' : ∀ i, a ≤ i → i < b + 1 → isLe (f i) = true := fun i i1 i2 => by
        by_cases ci : i = b
        · rw [ci]; exact hq
        · exact hl i i1 (by omega)
      rw [en_go (by omega) hq]
      have kb := isLe_t hq
      have uf : xand (f b) 255 = f b := by rw [u255 (hY.1 b (by omega)).2, if_neg (by omega)]
      by_cases c8 : b - a < 8
      · rw [if_pos (by omega), uf, bI_k, g9, if_pos (show b - a ≤ 8 by omega)] at hx
        have cb := cd_b (f := f) (a := a) (b - a) (fun i hi => hl (a + i) (by omega) (by omega))
        have p8 := p32 (b - a) (by omega)
        have e1 : w64 (w64 (w64 (cd f a (b - a) * 32) + f b) - 96) = cd f a (b - a + 1) := by
          show _ = cd f a (b - a) * 32 + (f (a + (b - a)) - 96)
          rw [show a + (b - a) = b by omega, w64s (x := cd f a (b - a) * 32) (by omega), w64s (x := cd f a (b - a) * 32 + f b) (by omega), w64s (by omega)]; omega
        have e2 : (putL Y 179 19 (cd f a (b - a + 1))).1 179 16 = (b : Int) := g6
        rw [e1, e2, w32n (by omega)] at hx
        obtain ⟨Y', r1, r2, r3⟩ := ih (b + 1) (putI (putL Y 179 19 (cd f a (b - a + 1))) 179 16 ((b + 1 : Nat) : Int)) (by omega) (by omega) (by omega) (hY.ft (FT.l.tr (FT.p (by decide)))) hl' (by rw [pI_nk (by decide)]; exact g4) (by rw [pI_nk (by decide)]; exact g5) pI_s (by
          rw [if_pos (by omega), show b + 1 - a = b - a + 1 by omega]; exact pL_s)
        exact ⟨Y', hx.trans r1, (FT.l.tr (FT.p (by decide))).tr r2, r3⟩
      · rw [if_neg (by omega)] at hx
        rw [w32n (by omega)] at hx
        obtain ⟨Y', r1, r2, r3⟩ := ih (b + 1) (putI (putL Y 179 19 (-1)) 179 16 ((b + 1 : Nat) : Int)) (by omega) (by omega) (by omega) (hY.ft (FT.l.tr (FT.p (by decide)))) hl' (by rw [pI_nk (by decide)]; exact g4) (by rw [pI_nk (by decide)]; exact g5) pI_s (by
          rw [if_neg (by omega)]; exact pL_s)
        exact ⟨Y', hx.trans r1, (FT.l.tr (FT.p (by decide))).tr r2, r3⟩
end Madv
