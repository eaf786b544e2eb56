theorem CpR.same {e : Nat} {M M' : Mem} (H : ∀ a, e ≤ a → a < e + 28 → M'.1 a = M.1 a ∧ M'.2.1 a = M.2.1 a) (h7 : M.1 e 7 ≤ 6) (h8 : M.1 e 8 ≤ 8) (h9 : M.1 e 9 ≤ 4) : CpR e e M M' := by
  refine ⟨fun k _ => by rw [(H e (by omega) (by omega)).1], fun p hp => ⟨fun k _ _ => by rw [(H _ (by omega) (by omega)).1], by rw [(H _ (by omega) (by omega)).2]⟩, fun p hp => ⟨fun k _ _ => by rw [(H _ (by omega) (by omega)).1], by rw [(H _ (by omega) (by omega)).2]⟩, fun p hp k _ _ => by rw [(H _ (by omega) (by omega)).1], fun k _ _ => by rw [(H _ (by omega) (by omega)).1], fun i r _ _ _ => by rw [(H _ (by omega) (by omega)).1]⟩
theorem CpR.next {e e' : Nat} {M M1 M' : Mem} (h : CpR e' e M M1) (H : ∀ a, e' ≤ a → a < e' + 28 → M'.1 a = M1.1 a ∧ M'.2.1 a = M1.2.1 a) (h7 : M.1 e 7 ≤ 6) (h8 : M.1 e 8 ≤ 8) (h9 : M.1 e 9 ≤ 4) : CpR e' e M M' := by
  obtain ⟨a1, a2, a3, a4, a5, a6⟩ := h
  refine ⟨fun k hk => by rw [(H e' (by omega) (by omega)).1]; exact a1 k hk, fun p hp => ⟨fun k g1 g2 => by rw [(H _ (by omega) (by omega)).1]; exact (a2 p hp).1 k g1 g2, by rw [(H _ (by omega) (by omega)).2]; exact (a2 p hp).2⟩, fun p hp => ⟨fun k g1 g2 => by rw [(H _ (by omega) (by omega)).1]; exact (a3 p hp).1 k g1 g2, by rw [(H _ (by omega) (by omega)).2]; exact (a3 p hp).2⟩, fun p hp k g1 g2 => by rw [(H _ (by omega) (by omega)).1]; exact a4 p hp k g1 g2, fun k g1 g2 => by rw [(H _ (by omega) (by omega)).1]; exact a5 k g1 g2, fun i r g1 g2 g3 => by rw [(H _ (by omega) (by omega)).1]; exact a6 i r g1 g2 g3⟩
theorem Rl.move {e e' : Nat} {M M' : Mem} {V : Nat → Int} (h : Rl M e V) (c : CpR e' e M M') : Rl M' e' V := by
  obtain ⟨hc, ⟨s0, s1, s2, s3, s4, s5, s6, s7, s8, s9⟩, hp, hh, hq⟩ := h
  obtain ⟨a1, a2, a3, a4, a5, a6⟩ := c
  rw [s7] at a2
  rw [s8] at a3
  rw [s9] at a4
  refine ⟨hc, ⟨by rw [a1 0 (by decide), s0], by rw [a1 1 (by decide), s1], by rw [a1 2 (by decide), s2], by rw [a1 3 (by decide), s3], by rw [a1 4 (by decide), s4], by rw [a1 5 (by decide), s5], by rw [a1 6 (by decide), s6], by rw [a1 7 (by decide), s7], by rw [a1 8 (by decide), s8], by rw [a1 9 (by decide), s9]⟩, ?_, ?_, ?_⟩
  · intro p h'
    have := (a2 p h').1
    rw [this 1 (by decide) (by decide), this 2 (by decide) (by decide), this 3 (by decide) (by decide)]
    exact hp p h'
  · intro p h'
    have := (a3 p h').1
    rw [this 1 (by decide) (by decide), this 2 (by decide) (by decide), this 3 (by decide) (by decide), this 4 (by decide) (by decide)]
    exact hh p h'
  · intro p h'
    have := a4 p h'
    rw [this 1 (by decide) (by decide), this 2 (by decide) (by decide)]
    exact hq p h'
theorem Seg.up {M : Mem} {q : Nat} {P : Nat → Int} : ∀ {k D s t r r' : Nat}, Seg M q P k D s t r r' → r ≤ r' ∧ s ≤ t
  | 0, _, _, _, _, _, h => h.elim
  | k + 1, D, s, t, r, r', h => by
    rcases h with h | ⟨g1, g2, h3⟩
    · omega
    · rcases h3 with ⟨hk, E, D', u, a1, a2, a3, a4, a5, a6, a7, a8, a9⟩ | ⟨hk, a1, a2⟩
      · have := Seg.up a8
        have := Seg.up a9
        omega
      · have := Seg.up a2
        omega
theorem StR.move {M M' : Mem} {q q' : Nat} {P P' : Nat → Int} {s r m : Nat} (H : ∀ i r : Nat, 1 ≤ i → i ≤ 5 → r < m → M'.1 (q' + i) r = M.1 (q + i) r) (HP : ∀ k, k < 345 → P' k = P k) (hs : s < 30) (hr : r < m) (h : StR M q P s r) : StR M' q' P' s r := by
  unfold StR at h ⊢
  rw [H 1 r (by omega) (by omega) hr, H 2 r (by omega) (by omega) hr, H 3 r (by omega) (by omega) hr, H 4 r (by omega) (by omega) hr, HP (75 + 9 * s) (by omega), HP (76 + 9 * s) (by omega), HP (77 + 9 * s) (by omega), HP (78 + 9 * s) (by omega), HP (81 + 9 * s) (by omega), HP (82 + 9 * s) (by omega), HP 0 (by omega), HP 1 (by omega)]
  exact h
theorem Seg.move {M M' : Mem} {q q' : Nat} {P P' : Nat → Int} {m : Nat} (H : ∀ i r : Nat, 1 ≤ i → i ≤ 5 → r < m → M'.1 (q' + i) r = M.1 (q + i) r) (HP : ∀ k, k < 345 → P' k = P k) : ∀ {k D s t r r' : Nat}, t ≤ 30 → r' ≤ m → Seg M q P k D s t r r' → Seg M' q' P' k D s t r r'
  | 0, _, _, _, _, _, _, _, h => h.elim
  | k + 1, D, s, t, r, r', ht, hr, h => by
    rcases h with h | ⟨g1, g2, h3⟩
    · exact Or.inl h
    · have hr2 : r < r' := by
        rcases h3 with ⟨hk, E, D', u, a1, a2, a3, a4, a5, a6, a7, a8, a9⟩ | ⟨hk, a1, a2⟩
        · have := Seg.up a8
          have := Seg.up a9
          omega
        · have := Seg.up a2
          omega
      refine Or.inr ⟨g1, g2.move H HP (by omega) (by omega), ?_⟩
      rw [HP (75 + 9 * s) (by omega), HP (83 + 9 * s) (by omega)]
      rcases h3 with ⟨hk, E, D', u, a1, a2, a3, a4, a5, a6, a7, a8, a9⟩ | ⟨hk, a1, a2⟩
      · have u9 := Seg.up a9
        refine Or.inl ⟨hk, E, D', u, a1, a2, a3, a4, ?_, ?_, ?_, Seg.move H HP (by omega) (by omega) a8, Seg.move H HP ht hr a9⟩
        · rw [H 5 r (by omega) (by omega) (by omega)]; exact a5
        · rw [H 5 E (by omega) (by omega) (by omega)]; exact a6
        · rw [H 1 E (by omega) (by omega) (by omega)]; exact a7
      · exact Or.inr ⟨hk, a1, Seg.move H HP ht hr a2⟩
theorem PlR.move {e e' : Nat} {M M' : Mem} {P P' : Nat → Int} (h : PlR M e P) (c : CpR e' e M M') (HP : ∀ k, k < 345 → P' k = P k) : PlR M' e' P' := by
  obtain ⟨h1, h2, h3, h4⟩ := h
  have a5 := c.2.2.2.2.1
  have a6 := c.2.2.2.2.2
  refine ⟨by rw [a5 7 (by decide) (by decide), HP 73 (by decide)]; exact h1, by rw [HP 73 (by decide)]; exact h2, by rw [a5 5 (by decide) (by decide)]; exact h3, fun g => ?_⟩
  rw [HP 73 (by decide)] at g
  obtain ⟨b1, n, m, b2, b3, b4, b5, b6⟩ := h4 g
  refine ⟨by rw [a5 6 (by decide) (by decide), HP 74 (by decide)]; exact b1, n, m, by rw [HP 74 (by decide)]; exact b2, b3, by rw [a5 5 (by decide) (by decide)]; exact b4, b5, Seg.move (m := m) (fun i r i1 i5 hr => a6 i r i1 i5 (by omega)) HP b3 (Nat.le_refl _) b6⟩
theorem Wf.view {V W : Nat → Int} (H : ∀ k, k < 73 → W k = V k) (h : Wf V) : Wf W := by
  have hc := h.1
  unfold Wc at hc
  obtain ⟨h0, h3, h4, h5, h6, h7, h8, hp, hh, hq⟩ := h
  refine ⟨?_, by rw [H 3 (by omega)]; exact h3, by rw [H 4 (by omega)]; exact h4, by rw [H 5 (by omega)]; exact h5, by rw [H 6 (by omega)]; exact h6, by rw [H 7 (by omega)]; exact h7, by rw [H 8 (by omega)]; exact h8, ?_, ?_, ?_⟩
  · unfold Wc at h0 ⊢
    rw [H 0 (by omega), H 1 (by omega), H 2 (by omega)]; exact h0
  · intro p h'
    rw [H 0 (by omega)] at h'
    have : p < 6 := by omega
    rw [H (9 + p) (by omega), H (15 + p) (by omega), H (21 + p) (by omega), H (27 + p) (by omega)]
    exact hp p h'
  · intro p h'
    rw [H 1 (by omega)] at h'
    have : p < 8 := by omega
    rw [H (33 + p) (by omega), H (41 + p) (by omega), H (49 + p) (by omega), H (57 + p) (by omega)]
    exact hh p h'
  · intro p h'
    rw [H 2 (by omega)] at h'
    have : p < 4 := by omega
    rw [H (65 + p) (by omega), H (69 + p) (by omega)]
    exact hq p h'
theorem EmpR.move {e e' b b' : Nat} {M M' : Mem} (h : EmpR M e b) (c : CpR e' e M M') (HP : ∀ k, k < 345 → blk M' b' k = blk M b k) (HN : ∀ k, k < 18 → M'.2.1 187 (18 * b' + k) = M.2.1 187 (18 * b + k)) : EmpR M' e' b' := by
  obtain ⟨h1, h2, h3, h4⟩ := h
  have hc := h1.1
  unfold Wc at hc
  have s7 := h1.2.1.2.2.2.2.2.2.2.1
  have s8 := h1.2.1.2.2.2.2.2.2.2.2.1
  refine ⟨(h1.move c).view fun k hk => HP k (by omega), h2.view fun k hk => HP k (by omega), ⟨?_, ?_⟩, h4.move c HP⟩
  · intro p hp
    rw [HP 0 (by decide)] at hp
    have : p < 6 := by omega
    rw [(c.2.1 p (by omega)).2, HN p (by omega)]
    exact h3.1 p hp
  · intro p hp
    rw [HP 1 (by decide)] at hp
    have : p < 8 := by omega
    have e1 := HN (6 + p) (by omega)
    rw [← Nat.add_assoc, ← Nat.add_assoc] at e1
    rw [(c.2.2.1 p (by omega)).2, e1]
    exact h3.2 p hp
/-- the reference copies -/
def cpM (M : Mem) (a b : Nat) : Mem := fL (fI M 184 (345 * b) 345 (fun j => M.1 184 (345 * a + j))) 187 (18 * b) 18 (fun j => M.2.1 187 (18 * a + j))
section Mcp
variable {M : Mem} (d : Nat)
theorem m_copies {a b : Nat} (ha : a ≤ 4) (hb : b ≤ 4) (hn : a ≠ b) : C2 d j_m_copy [vR 12 179, vI (a : Int), vI (b : Int)] M = some (none, cpM M a b) := by
  have s2 : E2 d r_m_copy 25 [(0, vR 12 179), (1, vI (a : Int)), (2, vI (b : Int)), (3, vI 0)] [] (fI M 184 (345 * b) 345 (fun j => M.1 184 (345 * a + j))) = some (none, cpM M a b) := by
    refine ex_loop (P := fun i M' => E2 d r_m_copy 25 [(0, vR 12 179), (1, vI (a : Int)), (2, vI (b : Int)), (3, vI (i : Int))] [] M') (R := fun r => r = some (none, cpM M a b)) (fun i M' => M' = fL (fI M 184 (345 * b) 345 (fun j => M.1 184 (345 * a + j))) 187 (18 * b) i (fun j => M.2.1 187 (18 * a + j))) 18 (fun i M' hi hq => ?_) (fun M' hq => ?_) _ fL_0.symm
    · refine ⟨_, ?_, rfl⟩
      show E2 d r_m_copy 25 _ _ M' = _
      rw [hq, q_m_copy_25, w32s (x := 18 * (a : Int)) (by omega), w32s (x := 18 * (b : Int)) (by omega), w32s (x := 18 * (a : Int) + i) (by omega), w32s (x := 18 * (b : Int) + i) (by omega), if_pos (by omega), if_pos (by omega), if_pos (by omega), w32n (by omega), show (18 * (a : Int) + i).toNat = 18 * a + i by omega, show (18 * (b : Int) + i).toNat = 18 * b + i by omega, fL_nj (by omega), ← fL_s]
      rfl
    · show E2 d r_m_copy 25 _ _ M' = _
      rw [hq, q_m_copy_25, if_neg (by omega)]
      rfl
  rw [q_m_copy]
  refine ex_loop (P := fun i M' => E2 d r_m_copy 2 [(0, vR 12 179), (1, vI (a : Int)), (2, vI (b : Int)), (3, vI (i : Int))] [] M') (R := fun r => r = some (none, cpM M a b)) (fun i M' => M' = fI M 184 (345 * b) i (fun j => M.1 184 (345 * a + j))) 345 (fun i M' hi hq => ?_) (fun M' hq => ?_) M fI_0.symm
  · refine ⟨_, ?_, rfl⟩
    show E2 d r_m_copy 2 _ _ M' = _
    rw [hq, q_m_copy_2, w32s (x := 345 * (a : Int)) (by omega), w32s (x := 345 * (b : Int)) (by omega), w32s (x := 345 * (a : Int) + i) (by omega), w32s (x := 345 * (b : Int) + i) (by omega), if_pos (by omega), if_pos (by omega), if_pos (by omega), w32n (by omega), show (345 * (a : Int) + i).toNat = 345 * a + i by omega, show (345 * (b : Int) + i).toNat = 345 * b + i by omega, fI_nj (by omega), ← fI_s]
  · show E2 d r_m_copy 2 _ _ M' = _
    rw [hq, q_m_copy_2, if_neg (by omega)]
    exact s2
end Mcp
