section Emps
variable (d : Nat) {f : Nat → Int} {n T i : Nat} {X Y M : Mem}
theorem ar_n {K : Mem} {c b r a : Nat} (h : a ≠ c) : ((fun x j => if x = c ∧ 0 ≤ j ∧ j < 0 + r then K.1 b (0 + (j - 0)) else K.1 x j, K.2) : Mem).1 a = K.1 a := by
  funext j
  show (if a = c ∧ 0 ≤ j ∧ j < 0 + r then K.1 b (0 + (j - 0)) else K.1 a j) = K.1 a j
  rw [if_neg (fun g => h g.1)]
theorem ar_y {K : Mem} {c b r j : Nat} (h : j < r) : ((fun x j => if x = c ∧ 0 ≤ j ∧ j < 0 + r then K.1 b (0 + (j - 0)) else K.1 x j, K.2) : Mem).1 c j = K.1 b j := by
  show (if c = c ∧ 0 ≤ j ∧ j < 0 + r then K.1 b (0 + (j - 0)) else K.1 c j) = K.1 b j
  rw [if_pos ⟨rfl, by omega, by omega⟩, show 0 + (j - 0) = j by omega]
/-- the plan of the draft becomes the realm's -/
theorem pl_cp {r : Nat} (hr : M.1 43 5 = (r : Int)) (h6 : r ≤ 60) (hb : M.1 43 7 = 0 ∨ M.1 43 7 = 1) : ∃ N, C2 d j_pl_copyFrom [vR 6 15, vR 6 43] M = some (none, N) ∧ (∀ a, ¬ (15 ≤ a ∧ a ≤ 20) → N.1 a = M.1 a) ∧ N.2.1 = M.2.1 ∧ (∀ k, 5 ≤ k → k ≤ 7 → N.1 15 k = M.1 43 k) ∧ (∀ i j, 1 ≤ i → i ≤ 5 → j < r → N.1 (15 + i) j = M.1 (43 + i) j) := by
  have e6 : (putI M 15 5 (r : Int)).1 43 6 = M.1 43 6 := by rw [pI_ne (by decide)]
  have e7 : (putI (putI M 15 5 (r : Int)) 15 6 (M.1 43 6)).1 43 7 = M.1 43 7 := by rw [pI_ne (by decide), pI_ne (by decide)]
  have cnd : (0 : Int) ≤ 0 ∧ (0 : Int) ≤ 0 ∧ (0 : Int) ≤ (r : Int) ∧ (0 : Int) + (r : Int) ≤ 60 ∧ (0 : Int) + (r : Int) ≤ 60 := by omega
  have hx := q_pl_copyFrom 15 43 d M
  rw [hr, e6, e7, if_pos hb] at hx
  have k5 : (putI (putI (putI M 15 5 (r : Int)) 15 6 (M.1 43 6)) 15 7 (M.1 43 7)).1 15 5 = (r : Int) := by rw [pI_nk (by decide), pI_nk (by decide), pI_s]
  have k0 : ∀ a, ¬ (15 ≤ a ∧ a ≤ 20) → (putI (putI (putI M 15 5 (r : Int)) 15 6 (M.1 43 6)) 15 7 (M.1 43 7)).1 a = M.1 a := fun a ha => by rw [pI_ne (by omega), pI_ne (by omega), pI_ne (by omega)]
  have kk : ∀ k, 5 ≤ k → k ≤ 7 → (putI (putI (putI M 15 5 (r : Int)) 15 6 (M.1 43 6)) 15 7 (M.1 43 7)).1 15 k = M.1 43 k := fun k h1 h2 => by
    have : k = 5 ∨ k = 6 ∨ k = 7 := by omega
    rcases this with g | g | g <;> subst g
    · rw [k5, hr]
    · rw [pI_nk (by decide), pI_s]
    · rw [pI_s]
  have kl : (putI (putI (putI M 15 5 (r : Int)) 15 6 (M.1 43 6)) 15 7 (M.1 43 7)).2.1 = M.2.1 := rfl
  generalize (putI (putI (putI M 15 5 (r : Int)) 15 6 (M.1 43 6)) 15 7 (M.1 43 7)) = K0 at *
  rw [q_pl_copyFrom_12, k5, if_pos cnd, Int.toNat_natCast] at hx
  obtain ⟨K1, hK1⟩ : ∃ K1 : Mem, K1 = (fun x j => if x = 15 + 1 ∧ 0 ≤ j ∧ j < 0 + r then K0.1 (43 + 1) (0 + (j - 0)) else K0.1 x j, K0.2) := ⟨_, rfl⟩
  have n1 : ∀ a, a ≠ 15 + 1 → K1.1 a = K0.1 a := fun a h => by rw [hK1]; exact ar_n h
  have y1 : ∀ j, j < r → K1.1 (15 + 1) j = K0.1 (43 + 1) j := fun j h => by rw [hK1]; exact ar_y h
  have l1 : K1.2.1 = K0.2.1 := by rw [hK1]
  rw [← hK1, q_pl_copyFrom_21, n1 15 (by decide), k5, if_pos cnd, Int.toNat_natCast] at hx
  clear hK1
  obtain ⟨K2, hK2⟩ : ∃ K2 : Mem, K2 = (fun x j => if x = 15 + 2 ∧ 0 ≤ j ∧ j < 0 + r then K1.1 (43 + 2) (0 + (j - 0)) else K1.1 x j, K1.2) := ⟨_, rfl⟩
  have n2 : ∀ a, a ≠ 15 + 2 → K2.1 a = K1.1 a := fun a h => by rw [hK2]; exact ar_n h
  have y2 : ∀ j, j < r → K2.1 (15 + 2) j = K1.1 (43 + 2) j := fun j h => by rw [hK2]; exact ar_y h
  have l2 : K2.2.1 = K1.2.1 := by rw [hK2]
  rw [← hK2, q_pl_copyFrom_30, n2 15 (by decide), n1 15 (by decide), k5, if_pos cnd, Int.toNat_natCast] at hx
  clear hK2
  obtain ⟨K3, hK3⟩ : ∃ K3 : Mem, K3 = (fun x j => if x = 15 + 3 ∧ 0 ≤ j ∧ j < 0 + r then K2.1 (43 + 3) (0 + (j - 0)) else K2.1 x j, K2.2) := ⟨_, rfl⟩
  have n3 : ∀ a, a ≠ 15 + 3 → K3.1 a = K2.1 a := fun a h => by rw [hK3]; exact ar_n h
  have y3 : ∀ j, j < r → K3.1 (15 + 3) j = K2.1 (43 + 3) j := fun j h => by rw [hK3]; exact ar_y h
  have l3 : K3.2.1 = K2.2.1 := by rw [hK3]
  rw [← hK3, q_pl_copyFrom_39, n3 15 (by decide), n2 15 (by decide), n1 15 (by decide), k5, if_pos cnd, Int.toNat_natCast] at hx
  clear hK3
  obtain ⟨K4, hK4⟩ : ∃ K4 : Mem, K4 = (fun x j => if x = 15 + 4 ∧ 0 ≤ j ∧ j < 0 + r then K3.1 (43 + 4) (0 + (j - 0)) else K3.1 x j, K3.2) := ⟨_, rfl⟩
  have n4 : ∀ a, a ≠ 15 + 4 → K4.1 a = K3.1 a := fun a h => by rw [hK4]; exact ar_n h
  have y4 : ∀ j, j < r → K4.1 (15 + 4) j = K3.1 (43 + 4) j := fun j h => by rw [hK4]; exact ar_y h
  have l4 : K4.2.1 = K3.2.1 := by rw [hK4]
  rw [← hK4, q_pl_copyFrom_48, n4 15 (by decide), n3 15 (by decide), n2 15 (by decide), n1 15 (by decide), k5, if_pos cnd, Int.toNat_natCast] at hx
  clear hK4
  obtain ⟨K5, hK5⟩ : ∃ K5 : Mem, K5 = (fun x j => if x = 15 + 5 ∧ 0 ≤ j ∧ j < 0 + r then K4.1 (43 + 5) (0 + (j - 0)) else K4.1 x j, K4.2) := ⟨_, rfl⟩
  have n5 : ∀ a, a ≠ 15 + 5 → K5.1 a = K4.1 a := fun a h => by rw [hK5]; exact ar_n h
  have y5 : ∀ j, j < r → K5.1 (15 + 5) j = K4.1 (43 + 5) j := fun j h => by rw [hK5]; exact ar_y h
  have l5 : K5.2.1 = K4.2.1 := by rw [hK5]
  rw [← hK5, q_pl_copyFrom_57] at hx
  clear hK5
  refine ⟨K5, hx, fun a ha => ?_, ?_, fun k h1 h2 => ?_, fun i j i1 i2 hj => ?_⟩
  · rw [n5 a (by omega), n4 a (by omega), n3 a (by omega), n2 a (by omega), n1 a (by omega), k0 a ha]
  · rw [l5, l4, l3, l2, l1, kl]
  · rw [n5 15 (by decide), n4 15 (by decide), n3 15 (by decide), n2 15 (by decide), n1 15 (by decide), kk k h1 h2]
  · have : i = 1 ∨ i = 2 ∨ i = 3 ∨ i = 4 ∨ i = 5 := by omega
    rcases this with g | g | g | g | g <;> subst g
    · rw [n5 (15 + 1) (by decide), n4 (15 + 1) (by decide), n3 (15 + 1) (by decide), n2 (15 + 1) (by decide), y1 j hj, k0 (43 + 1) (by decide)]
    · rw [n5 (15 + 2) (by decide), n4 (15 + 2) (by decide), n3 (15 + 2) (by decide), y2 j hj, n1 (43 + 2) (by decide), k0 (43 + 2) (by decide)]
    · rw [n5 (15 + 3) (by decide), n4 (15 + 3) (by decide), y3 j hj, n2 (43 + 3) (by decide), n1 (43 + 3) (by decide), k0 (43 + 3) (by decide)]
    · rw [n5 (15 + 4) (by decide), y4 j hj, n3 (43 + 4) (by decide), n2 (43 + 4) (by decide), n1 (43 + 4) (by decide), k0 (43 + 4) (by decide)]
    · rw [y5 j hj, n4 (43 + 5) (by decide), n3 (43 + 5) (by decide), n2 (43 + 5) (by decide), n1 (43 + 5) (by decide), k0 (43 + 5) (by decide)]
/-- the reference copies the numbers of the steps -/
theorem m_44 {s : Nat} (hs : s ≤ 30) (h : Y.1 179 26 = (s : Int)) : E2 d r_m_empires 44 [(0, vR 12 179), (2, vI 0)] [] Y = some (some (vI (s : Int)), fI Y 184 75 (9 * s) (fun j => Y.1 184 (1455 + j))) := by
  have w9 : w32 (9 * (s : Int)) = ((9 * s : Nat) : Int) := by rw [w32s (by omega)]; omega
  refine ex_loop (P := fun j M' => E2 d r_m_empires 44 [(0, vR 12 179), (2, vI (j : Int))] [] M') (R := fun r => r = some (some (vI (s : Int)), fI Y 184 75 (9 * s) (fun j => Y.1 184 (1455 + j)))) (fun j M' => M' = fI Y 184 75 j (fun j => Y.1 184 (1455 + j))) (9 * s) (fun j M' hj hq => ?_) (fun M' hq => ?_) Y fI_0.symm
  · refine ⟨_, ?_, rfl⟩
    show E2 d r_m_empires 44 _ _ M' = _
    rw [hq, q_m_empires_44, fI_na (by decide), h, w9, if_pos (by omega), w32s (x := 1455 + (j : Int)) (by omega), w32s (x := 75 + (j : Int)) (by omega), if_pos (by omega), if_pos (by omega), w32n (by omega), show (1455 + (j : Int)).toNat = 1455 + j by omega, show (75 + (j : Int)).toNat = 75 + j by omega, fI_nj (by omega), ← fI_s]
  · show E2 d r_m_empires 44 _ _ M' = _
    rw [hq, q_m_empires_44, fI_na (by decide), h, w9, if_neg (by omega)]
def GX2 (X X' : Mem) : Prop := ∀ a, a ≠ 3 → a ≠ 5 → a ≠ 6 → a ≠ 7 → a ≠ 9 → a ≠ 10 → ¬ (43 ≤ a ∧ a ≤ 48) → X'.1 a = X.1 a ∧ X'.2.1 a = X.2.1 a
def GY2 (Y Y' : Mem) : Prop := (∀ a, a ≠ 179 → a ≠ 184 → Y'.1 a = Y.1 a) ∧ (∀ a, a ≠ 179 → Y'.2.1 a = Y.2.1 a) ∧ (∀ k, ¬ (12 ≤ k ∧ k ≤ 18) → k ≠ 26 → k ≠ 8 → k ≠ 9 → k ≠ 0 → k ≠ 1 → Y'.1 179 k = Y.1 179 k) ∧ Y'.1 179 8 = 0 ∧ Y'.1 179 0 = 0 ∧ (∀ k, k ≠ 19 → Y'.2.1 179 k = Y.2.1 179 k) ∧ (∀ k, k < 1455 → Y'.1 184 k = Y.1 184 k)
/-- a text of empires on both sides -/
theorem es_run (h3 : 3 ≤ d) {a b : Nat} (hN : NR X Y a b) (hx : ∀ k, k < n → X.1 2 k = f k ∧ -128 ≤ f k ∧ f k ≤ 127) (hy : ∀ k, k < n → Y.1 183 k = f k ∧ -128 ≤ f k ∧ f k ≤ 127) (h9 : n ≤ 300) (hk : KyR X) (h8 : (n : Int) ≤ Y.1 179 8) : ∃ X' Y' g T, (bV (C2 d j_rd_begin [vR 8 3, vR 21 2, vI (n : Int)] X) fun M7 => C2 d j_pr_parse [vR 7 9, vR 8 3, vR 1 11, vR 6 43] M7) = some (some (vI (b01 g)), X') ∧ C2 d j_m_empires [vR 12 179, vI (n : Int)] Y = E2 d r_m_empires 16 [(0, vR 12 179)] [] Y' ∧ GX2 X X' ∧ GY2 Y Y' ∧ ((g = true ∧ ∃ X0 j r' s', X' = putI X0 43 7 1 ∧ PSt X0 Y' f n T j 0 r' s' a b ∧ tK f n (tkA f n j) = 0 ∧ Seg X0 43 (PP Y') (s' + 1 - 0) 3 0 s' 0 r') ∨ (g = false ∧ Bad X' Y')) := by
  obtain ⟨T, X1, a1, a2, a3, a4, a5, a6⟩ := beg_c d hx (by omega) hk
  have e8 : (putI (putI Y 179 1 0) 179 0 0).1 179 8 = Y.1 179 8 := by rw [pI_nk (by decide), pI_nk (by decide)]
  obtain ⟨Y1, b1, b2, b3, b4, b5, b6, b7, b8⟩ := beg_m d (Y := putI (putI Y 179 1 0) 179 0 0) (n := n) (f := f) (fun k hk => by rw [pI_ne (by decide), pI_ne (by decide)]; exact hy k hk) 300 (by omega) (by rw [e8]; exact h8) (by omega)
  have R0 : RT X1 Y1 f n T 0 := ⟨a2, Nat.zero_le _, a3, b2, b3⟩
  have R1 : RT (putI (putI (putI (putI X1 43 5 0) 43 6 0) 43 7 0) 9 1 0) (putI Y1 179 26 0) f n T 0 := (R0.y26).x fun a ha => ⟨by rw [pI_ne (by omega), pI_ne (by omega), pI_ne (by omega), pI_ne (by omega)], rfl⟩
  have N1 : NR (putI (putI (putI (putI X1 43 5 0) 43 6 0) 43 7 0) 9 1 0) (putI Y1 179 26 0) a b := by
    refine hN.keep ?_ (fun q q1 q2 => ?_) (fun k hk => ?_) ?_
    · rw [pI_ne (by decide), pI_ne (by decide), pI_ne (by decide), pI_ne (by decide), (a6 11 (by decide) (by decide) (by decide) (by decide)).1]
    · exact (a6 q (by omega) (by omega) (by omega) (by omega)).2
    · rw [pI_ne (by decide), (b6 184 (by decide)).1, pI_ne (by decide), pI_ne (by decide)]
    · exact (b6 187 (by decide)).2
  have S1 : PSt (putI (putI (putI (putI X1 43 5 0) 43 6 0) 43 7 0) 9 1 0) (putI Y1 179 26 0) f n T 0 0 0 0 a b := by
    refine ⟨R1, ?_, ?_, ?_, pI_s, pI_s, by omega, by omega, by omega, N1⟩
    · rw [pI_nk (by decide)]; exact b4
    · rw [pI_ne (by decide), pI_nk (by decide), pI_nk (by decide), pI_s] <;> rfl
    · rw [pI_ne (by decide), pI_nk (by decide), pI_s] <;> rfl
  obtain ⟨X2, Y2, g, g1, g2, g3, g4, g5⟩ := t_loop d h3 (T - 0) 0 0 _ _ 0 0 rfl (Nat.le_refl _) S1
  refine ⟨X2, Y2, g, T, ?_, ?_, ?_, ?_, ?_⟩
  · rw [a1, bV_k, q_pr_parse, q_pl_clear, bV_k]
    exact g1
  · rw [q_m_empires, b1, bI_k, if_neg (by decide)]
    exact g2
  · intro a h3 h5 h6 h7 h9 h10 h43
    have e1 := a6 a h3 h5 h6 h7
    refine ⟨?_, ?_⟩
    · rw [g3.1 a h3 h9 h10 h43, pI_ne h9, pI_ne (by omega), pI_ne (by omega), pI_ne (by omega), e1.1]
    · rw [g3.2.1 a h3]
      exact e1.2
  · obtain ⟨c1, c2, c3, c4, c5⟩ := g4
    refine ⟨fun a h1 h2 => ?_, fun a h1 => ?_, fun k h1 h2 h3 h4 h5 h6 => ?_, ?_, ?_, fun k h1 => ?_, fun k h1 => ?_⟩
    · rw [c1 a h1 h2, pI_ne h1, (b6 a h1).1, pI_ne h1, pI_ne h1]
    · rw [c2 a h1]
      show Y1.2.1 a = _
      rw [(b6 a h1).2]
    · rw [c3 k h1 h2, pI_nk h2, b7 k h3 h4 h1 (by omega), pI_nk h5, pI_nk h6]
    · rw [c3 8 (by decide) (by decide), pI_nk (by decide)]; exact b5
    · rw [c3 0 (by decide) (by decide), pI_nk (by decide), b7 0 (by decide) (by decide) (by decide) (by decide), pI_s]
    · rw [c4 k h1]
      show Y1.2.1 179 k = _
      rw [b8 k h1]
    · rw [c5 k (by omega), pI_ne (by decide), (b6 184 (by decide)).1, pI_ne (by decide), pI_ne (by decide)]
  · rcases g5 with ⟨q1, X0, j, r', s', k1, k2, k3, _, k5⟩ | g5
    · exact Or.inl ⟨q1, X0, j, r', s', k1, k2, k3, k5⟩
    · exact Or.inr g5
/-- an empire whose plan alone is new -/
theorem Rl.plan {M M' : Mem} {V : Nat → Int} (h : Rl M 11 V) (h1 : M'.1 11 = M.1 11) (h2 : ∀ a, 21 ≤ a → a < 39 → M'.1 a = M.1 a) : Rl M' 11 V := by
  obtain ⟨hc, hs, hp, hh, hq⟩ := h
  have hc' := hc
  unfold Wc at hc'
  refine ⟨hc, by rw [h1]; exact hs, fun p hp' => ?_, fun p hp' => ?_, fun p hp' => ?_⟩
  · rw [h2 _ (by omega) (by omega)]; exact hp p hp'
  · rw [h2 _ (by omega) (by omega)]; exact hh p hp'
  · rw [h2 _ (by omega) (by omega)]; exact hq p hp'
theorem inv_NR (h : Inv M) : ∃ a b : Nat, NR M M a b := by
  obtain ⟨h1, h2, h3, h4⟩ := h.2.2.2.1
  have hc := h1.1
  unfold Wc at hc
  have s7 := h1.2.1.2.2.2.2.2.2.2.1
  have s8 := h1.2.1.2.2.2.2.2.2.2.2.1
  have e0 : blk M 0 0 = M.1 184 0 := rfl
  have e1 : blk M 0 1 = M.1 184 1 := rfl
  refine ⟨(blk M 0 0).toNat, (blk M 0 1).toNat, ⟨by omega, by omega, by omega, fun p hp => ?_⟩, by omega, by omega, by omega, fun p hp => ?_⟩
  · have := h3.1 p (by omega)
    rw [show 18 * 0 + p = p by omega] at this
    exact this
  · have := h3.2 p (by omega)
    rw [show 18 * 0 + 6 + p = 6 + p by omega] at this
    exact this
end Emps
