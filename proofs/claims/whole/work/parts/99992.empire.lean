section Empire
variable (d : Nat) {f : Nat → Int} {n T i : Nat} {X Y : Mem}
/-- what the class changes when it reads a text, what the reference changes -/
def GX (X X' : Mem) : Prop := ∀ a, a ≠ 3 → a ≠ 5 → a ≠ 6 → a ≠ 7 → a ≠ 8 → ¬ (39 ≤ a ∧ a < 67) → X'.1 a = X.1 a ∧ X'.2.1 a = X.2.1 a
def GY (Y Y' : Mem) : Prop := (∀ a, a ≠ 179 → a ≠ 184 → Y'.1 a = Y.1 a) ∧ (∀ a, a ≠ 179 → a ≠ 187 → Y'.2.1 a = Y.2.1 a) ∧ (∀ k, ¬ (12 ≤ k ∧ k ≤ 18) → k ≠ 25 → k ≠ 8 → k ≠ 9 → k ≠ 0 → k ≠ 1 → Y'.1 179 k = Y.1 179 k) ∧ Y'.1 179 8 = 0 ∧ Y'.1 179 0 = 0 ∧ (∀ k, k ≠ 19 → Y'.2.1 179 k = Y.2.1 179 k) ∧ (∀ k, k < 1380 → Y'.1 184 k = Y.1 184 k) ∧ (∀ k, k < 72 → Y'.2.1 187 k = Y.2.1 187 k)
theorem RT.yy {Y' : Mem} (h : RT X Y f n T i) (h1 : Y'.1 183 = Y.1 183) (h2 : ∀ k, k ≠ 25 → Y'.1 179 k = Y.1 179 k) (h3 : Y'.2.1 179 = Y.2.1 179) : RT X Y' f n T i := by
  obtain ⟨q1, q2, q3, ⟨g1, g2, g3⟩, ⟨t1, t2, t3, t4, t5, t6⟩⟩ := h
  refine ⟨q1, q2, q3, ⟨fun k hk => ?_, ?_, g3⟩, ⟨?_, ?_, ?_, ?_, ?_, ?_⟩⟩
  · rw [h1]; exact g1 k hk
  · rw [h2 9 (by decide)]; exact g2
  · rw [h2 14 (by decide)]; exact t1
  · rw [h2 15 (by decide)]; exact t2
  · rw [h2 16 (by decide)]; exact t3
  · rw [h2 18 (by decide), h3]; exact t4
  · rw [h2 17 (by decide)]; exact t5
  · rw [h2 17 (by decide)]; exact t6
theorem emX_n {X : Mem} {a : Nat} (h1 : a ≠ 39) (h2 : a ≠ 43) : (emX X 39).1 a = X.1 a := by
  unfold emX
  rw [pI_ne h2, pI_ne h2, pI_ne h2, pI_ne h1, pI_ne h1, pI_ne h1, pI_ne h1, pI_ne h1, pI_ne h1, pI_ne h1, pI_ne h1, pI_ne h1, pI_ne h1]
theorem emY_n {Y : Mem} {a : Nat} (h1 : a ≠ 184) : (emY Y).1 a = Y.1 a := by
  unfold emY
  rw [pI_ne h1, pI_ne h1, fI_na h1]
theorem emY_k {Y : Mem} {k : Nat} (h1 : k < 1380) : (emY Y).1 184 k = Y.1 184 k := by
  unfold emY
  rw [pI_nk (by omega), pI_nk (by omega), fI_nj (by omega)]
theorem emY_l {Y : Mem} : (emY Y).2.1 = Y.2.1 := rfl
/-- an empire's text on both sides -/
theorem e_run (hx : ∀ k, k < n → X.1 2 k = f k ∧ -128 ≤ f k ∧ f k ≤ 127) (hy : ∀ k, k < n → Y.1 183 k = f k ∧ -128 ≤ f k ∧ f k ≤ 127) (h9 : n ≤ 900) (hk : KyR X) (h8 : (n : Int) ≤ Y.1 179 8) : ∃ X' Y' b T, (bV (C2 d j_rd_begin [vR 8 3, vR 21 2, vI (n : Int)] X) fun M5 => C2 d j_er_parse [vR 2 8, vR 8 3, vR 1 39] M5) = some (some (vI (b01 b)), X') ∧ C2 d j_m_empire [vR 12 179, vI (n : Int)] Y = E2 d r_m_empire 19 [(0, vR 12 179)] [] Y' ∧ GX X X' ∧ GY Y Y' ∧ ((b = true ∧ ∃ i', StE X' Y' f n T i' ∧ tK f n (tkA f n i') = 0) ∨ (b = false ∧ Bad X' Y')) := by
  obtain ⟨T, X1, a1, a2, a3, a4, a5, a6⟩ := beg_c d hx h9 hk
  have e8 : (putI (putI Y 179 1 0) 179 0 0).1 179 8 = Y.1 179 8 := by rw [pI_nk (by decide), pI_nk (by decide)]
  obtain ⟨Y1, b1, b2, b3, b4, b5, b6, b7, b8⟩ := beg_m d (Y := putI (putI Y 179 1 0) 179 0 0) (n := n) (f := f) (fun k hk => by rw [pI_ne (by decide), pI_ne (by decide)]; exact hy k hk) 900 (by omega) (by rw [e8]; exact h8) h9
  have R0 : RT X1 Y1 f n T 0 := ⟨a2, Nat.zero_le _, a3, b2, b3⟩
  have R1 : RT (putI (emX X1 39) 8 0 0) (putI (emY Y1) 179 25 0) f n T 0 := by
    refine ((R0.yy (Y' := emY Y1) ?_ ?_ ?_).y25).x fun a ha => ⟨?_, ?_⟩
    · exact emY_n (by decide)
    · intro k _; rw [emY_n (by decide)]
    · rfl
    · rw [pI_ne (by omega), emX_n (by omega) (by omega)]
    · rfl
  have S1 : StE (putI (emX X1 39) 8 0 0) (putI (emY Y1) 179 25 0) f n T 0 := by
    refine ⟨R1, ?_, ?_, ?_⟩
    · rw [pI_nk (by decide), emY_n (by decide)]; exact b4
    · exact (mk_0 (X := X1) (Y := Y1) (e := 39)).keep (fun a g1 g2 => ⟨pI_ne (by omega), rfl⟩) (pI_ne (by decide)) rfl
    · rw [pI_s, pI_s]
  have Z1 : Zr (putI (emY Y1) 179 25 0) := fun k hk => by
    rw [pI_ne (by decide)]
    have e := emY_b (Y := Y1) (k := k - 1380) (by omega)
    rw [if_neg (by omega), if_neg (by omega)] at e
    have e2 : blk (emY Y1) 4 (k - 1380) = (emY Y1).1 184 (345 * 4 + (k - 1380)) := rfl
    rw [e2, show 345 * 4 + (k - 1380) = k by omega] at e
    exact e
  obtain ⟨X2, Y2, b, g1, g2, g3, g4, g5⟩ := e_loop d (T - 0) 0 0 _ _ rfl (Nat.le_refl _) S1 Z1
  refine ⟨X2, Y2, b, T, ?_, ?_, ?_, ?_, g5⟩
  · rw [a1, bV_k, q_er_parse, c_clear, bV_k]
    exact g1
  · rw [q_m_empire, b1, bI_k, if_neg (by decide), m_empt, bV_k]
    exact g2
  · intro a h3 h5 h6 h7 h8 h39
    have e3 := g3 a h3 h8 h39
    have e1 := a6 a h3 h5 h6 h7
    refine ⟨?_, ?_⟩
    · rw [e3.1, pI_ne h8, emX_n (by omega) (by omega), e1.1]
    · rw [e3.2]
      show X1.2.1 a = _
      exact e1.2
  · obtain ⟨c1, c2, c3, c4, c5, c6⟩ := g4
    refine ⟨fun a h1 h2 => ?_, fun a h1 h2 => ?_, fun k h1 h2 h3 h4 h5 h6 => ?_, ?_, ?_, fun k h1 => ?_, fun k h1 => ?_, fun k h1 => ?_⟩
    · rw [c1 a h1 h2, pI_ne h1, emY_n h2, (b6 a h1).1, pI_ne h1, pI_ne h1]
    · rw [c2 a h1 h2]
      show Y1.2.1 a = _
      rw [(b6 a h1).2]
    · rw [c3 k h1 h2, pI_nk h2, emY_n (by decide), b7 k h3 h4 h1 (by omega), pI_nk h5, pI_nk h6]
    · rw [c3 8 (by decide) (by decide), pI_nk (by decide), emY_n (by decide)]; exact b5
    · rw [c3 0 (by decide) (by decide), pI_nk (by decide), emY_n (by decide), b7 0 (by decide) (by decide) (by decide) (by decide), pI_s]
    · rw [c4 k h1]
      show Y1.2.1 179 k = _
      rw [b8 k h1]
    · rw [c5 k (Or.inl h1), pI_ne (by decide), emY_k h1, (b6 184 (by decide)).1, pI_ne (by decide), pI_ne (by decide)]
    · rw [c6 k h1]
      show Y1.2.1 187 k = _
      rw [(b6 187 (by decide)).2]
/-- the invariant after a text -/
theorem Inv.text {M M2 : Mem} (h : Inv M) (hF : ∀ a, (a = 4 ∨ a = 83 ∨ (87 ≤ a ∧ a < 179) ∨ (180 ≤ a ∧ a ≤ 182) ∨ a = 190) → M2.1 a = M.1 a ∧ M2.2.1 a = M.2.1 a) (hE : EmpR M2 11 0) (hB : ∀ k, 345 ≤ k → k < 1380 → M2.1 184 k = M.1 184 k) (hW : ∀ k, 18 ≤ k → k < 72 → M2.2.1 187 k = M.2.1 187 k) (hH : Hd M2) (h5 : M2.1 0 5 = 0) (h14 : M2.1 0 14 = M.1 0 14) (h18 : M2.1 0 18 = M.1 0 18) : Inv M2 := by
  obtain ⟨b1, b2, b3, b4, b5, b6⟩ := h.2
  have a10 := h.1.2.2.2.2.2.2.2.2.2.1
  refine ⟨hH, ?_⟩
  rw [h5, h14, h18]
  refine ⟨fun t ht => (b1 t ht).cong fun a ha => hF a (by omega), fun k hk => by omega, hE, fun i hi => ?_, ?_, ?_⟩
  · have hh := b4 i hi
    obtain ⟨q7, q8, q9, _, _⟩ := hh.nums
    have hi3 : i < 3 := by omega
    refine hh.move (CpR.same (fun a r1 r2 => hF a (by omega)) q7.2 q8.2 q9.2) (fun k hk => ?_) (fun k hk => ?_)
    · exact hB _ (by omega) (by omega)
    · exact hW _ (by omega) (by omega)
  · unfold LvR
    rw [(hF 83 (by omega)).1, (hF 190 (by omega)).1]; exact b5
  · unfold KyR
    rw [(hF 4 (by omega)).2]; exact b6
/-- an empire that was made stands in the realm -/
theorem mk_emp {K X' Y' M2 : Mem} (hM : Mk X' Y' 39 4) (hK : ∀ a, 39 ≤ a → a < 67 → K.1 a = X'.1 a ∧ K.2.1 a = X'.2.1 a) (hc : CpR 11 39 K M2) (hB : ∀ k, k < 345 → blk M2 0 k = blk Y' 4 k) (hW : ∀ k, k < 18 → M2.2.1 187 (18 * 0 + k) = Y'.2.1 187 (18 * 4 + k)) : EmpR M2 11 0 := by
  have hM2 : Mk K Y' 39 4 := hM.keep (fun a g1 g2 => hK a g1 (by omega)) rfl rfl
  obtain ⟨m1, m2, m3, m4, m5, m6, m7, m8⟩ := hM2
  have hcc := m1.1
  unfold Wc at hcc
  have s7 := m1.2.1.2.2.2.2.2.2.2.1
  have s8 := m1.2.1.2.2.2.2.2.2.2.2.1
  refine ⟨(m1.move hc).view fun k hk => hB k (by omega), m2.view fun k hk => hB k (by omega), ⟨fun p hp => ?_, fun p hp => ?_⟩, ?_, ?_, ?_, fun g => ?_⟩
  · rw [hB 0 (by decide)] at hp
    have : p < 6 := by omega
    rw [(hc.2.1 p (by omega)).2, hW p (by omega)]
    exact m3 p hp
  · rw [hB 1 (by decide)] at hp
    have : p < 8 := by omega
    have e1 := hW (6 + p) (by omega)
    rw [← Nat.add_assoc, ← Nat.add_assoc] at e1
    rw [(hc.2.2.1 p (by omega)).2, e1]
    exact m4 p hp
  · rw [hB 73 (by decide), m8, hc.2.2.2.2.1 7 (by decide) (by decide)]; exact m7
  · rw [hB 73 (by decide), m8]; exact Or.inl rfl
  · rw [hc.2.2.2.2.1 5 (by decide) (by decide), m6]; decide
  · rw [hB 73 (by decide), m8] at g; simp at g
theorem mk_nums (hM : Mk X Y 39 4) : (0 ≤ X.1 39 7 ∧ X.1 39 7 ≤ 6) ∧ (0 ≤ X.1 39 8 ∧ X.1 39 8 ≤ 8) ∧ (0 ≤ X.1 39 9 ∧ X.1 39 9 ≤ 4) ∧ (0 ≤ X.1 (39 + 4) 5 ∧ X.1 (39 + 4) 5 ≤ 60) ∧ (X.1 (39 + 4) 7 = 0 ∨ X.1 (39 + 4) 7 = 1) := by
  obtain ⟨m1, m2, m3, m4, m5, m6, m7, m8⟩ := hM
  have hcc := m1.1
  unfold Wc at hcc
  have s7 := m1.2.1.2.2.2.2.2.2.2.1
  have s8 := m1.2.1.2.2.2.2.2.2.2.2.1
  have s9 := m1.2.1.2.2.2.2.2.2.2.2.2
  refine ⟨by omega, by omega, by omega, ?_, Or.inl m7⟩
  rw [m6]; decide
end Empire
