/-! the beginning: the invariant holds, the graph is the closed one -/
theorem all_r {n : Nat} {f : Nat → Bool} (h : (List.range n).all f = true) {k : Nat} (hk : k < n) : f k = true := List.all_eq_true.mp h k (List.mem_range.mpr hk)
theorem inv_init {M : Mem} (h1 : okI0 M = true) (h2 : okL0 M = true) (h3 : okE0 M = true) : Inv M := by
  unfold okI0 at h1
  unfold okL0 at h2
  unfold okE0 at h3
  rw [Bool.and_eq_true, Bool.and_eq_true, decide_eq_true_eq] at h1
  rw [Bool.and_eq_true, decide_eq_true_eq] at h2
  rw [Bool.and_eq_true, Bool.and_eq_true, Bool.and_eq_true, Bool.and_eq_true, decide_eq_true_eq, decide_eq_true_eq] at h3
  obtain ⟨⟨⟨i1, i2, i3, i4⟩, i5⟩, i6⟩ := h1
  obtain ⟨⟨l1, l2, l3, l4⟩, l5⟩ := h2
  obtain ⟨⟨⟨⟨⟨e1, e2, e3, e4⟩, e5⟩, e6⟩, e7, e8⟩, e9⟩ := h3
  have x0 : ∀ k, k < 19 → k ≠ 9 → k ≠ 10 → M.1 0 k = 0 := fun k hk a b => by
    rcases of_decide_eq_true (all_r i5 hk) with g | g | g
    · exact absurd g a
    · exact absurd g b
    · exact g
  have y0 : ∀ k, k < 43 → k ≠ 10 → k ≠ 11 → M.1 179 k = 0 := fun k hk a b => by
    rcases of_decide_eq_true (all_r i6 hk) with g | g | g
    · exact absurd g a
    · exact absurd g b
    · exact g
  have z0 : ∀ k, 2 ≤ k → k < 10 → M.1 11 k = 0 := fun k hk a => by
    rcases of_decide_eq_true (all_r e5 a) with g | g
    · omega
    · exact g
  have b0 : ∀ k, k < 345 → k ≠ 3 → k ≠ 4 → blk M 0 k = 0 := fun k hk a b => by
    show M.1 184 (345 * 0 + k) = 0
    rw [show 345 * 0 + k = k by omega]
    rcases of_decide_eq_true (all_r e6 hk) with g | g | g
    · exact absurd g a
    · exact absurd g b
    · exact g
  have b3 : blk M 0 3 = 70 := e3
  have b4 : blk M 0 4 = 100 := e4
  have p0 := b0 0 (by decide) (by decide) (by decide)
  have p1 := b0 1 (by decide) (by decide) (by decide)
  have p2 := b0 2 (by decide) (by decide) (by decide)
  have wc : Wc (blk M 0) := by unfold Wc; rw [p0, p1, p2]; decide
  have sw : sWr (blk M 0) = 0 := by unfold sWr; rw [p0]; rfl
  have x5 := x0 5 (by decide) (by decide) (by decide)
  have x14 := x0 14 (by decide) (by decide) (by decide)
  have x18 := x0 18 (by decide) (by decide) (by decide)
  refine ⟨⟨?_, ?_, ?_, ?_, ?_, ?_, ?_, ?_, ?_, ?_, ?_⟩, ?_⟩
  · rw [x0 0 (by decide) (by decide) (by decide), y0 0 (by decide) (by decide) (by decide)]
  · rw [l1, l3]
  · rw [l2, l4]
  · rw [x5, y0 8 (by decide) (by decide) (by decide)]
  · rw [i1, i3]
  · rw [i2, i4]
  · rw [x14, y0 24 (by decide) (by decide) (by decide)]
  · rw [x18, y0 34 (by decide) (by decide) (by decide)]
  · rw [x5]; decide
  · rw [x14]; decide
  · exact Or.inl x18
  · rw [x5, x14, x18]
    refine ⟨fun t ht => Or.inl (of_decide_eq_true (all_r e9 ht)), fun k hk => by omega, ⟨⟨wc, ⟨?_, ?_, ?_, ?_, ?_, ?_, ?_, ?_, ?_, ?_⟩, fun p hp => by omega, fun p hp => by omega, fun p hp => by omega⟩, ⟨wc, by omega, by omega, ?_, ?_, ?_, ?_, fun p hp => by omega, fun p hp => by omega, fun p hp => by omega⟩, ⟨fun p hp => by omega, fun p hp => by omega⟩, ?_, ?_, ?_, fun g => ?_⟩, fun i hi => by omega, fun g => ?_, fun i hi => of_decide_eq_true (all_r l5 hi)⟩
    · rw [e1, b3]
    · rw [e2, b4]
    · rw [z0 2 (by decide) (by decide), b0 5 (by decide) (by decide) (by decide)]
    · rw [z0 3 (by decide) (by decide), b0 6 (by decide) (by decide) (by decide)]
    · rw [z0 4 (by decide) (by decide), b0 7 (by decide) (by decide) (by decide)]
    · rw [z0 5 (by decide) (by decide), b0 8 (by decide) (by decide) (by decide)]
    · rw [z0 6 (by decide) (by decide), sw]
    · rw [z0 7 (by decide) (by decide), p0]
    · rw [z0 8 (by decide) (by decide), p1]
    · rw [z0 9 (by decide) (by decide), p2]
    · rw [b0 5 (by decide) (by decide) (by decide)]; decide
    · rw [b0 6 (by decide) (by decide) (by decide)]; decide
    · rw [b0 7 (by decide) (by decide) (by decide)]; decide
    · rw [b0 8 (by decide) (by decide) (by decide)]; decide
    · rw [b0 73 (by decide) (by decide) (by decide)]; exact e8
    · exact Or.inl (b0 73 (by decide) (by decide) (by decide))
    · show 0 ≤ M.1 15 5 ∧ M.1 15 5 ≤ 60
      rw [e7]; decide
    · rw [b0 73 (by decide) (by decide) (by decide)] at g; simp at g
    · simp at g
theorem eqO_eq {a b : Option (Nat × Nat)} (h : eqO a b = true) : a = b := by
  rcases a with _ | ⟨p1, p2⟩ <;> rcases b with _ | ⟨q1, q2⟩
  · rfl
  · cases h
  · cases h
  · have h' : (Nat.beq p1 q1 && Nat.beq p2 q2) = true := h
    rw [Bool.and_eq_true] at h'
    rw [Nat.eq_of_beq_eq_true h'.1, Nat.eq_of_beq_eq_true h'.2]
/-- what okG says -/
theorem okG_f {M : Mem} (h : okG M = true) (h191 : (tgs M).length = 191) {a t k : Nat} (hT : (tgs M)[a]? = some t) (ht : t < 13) (hk : k < nf t) (hf : fkd (100 * t + k) = 2) : gF none M (100 * t + k) a = gF GR2 M (100 * t + k) a := by
  have ha : a < 191 := by have := (List.getElem?_eq_some_iff.mp hT).1; omega
  have h1 := all_r h ha
  rw [hT] at h1
  have e : Nat.ble 20 t = false := by
    cases e : Nat.ble 20 t with
    | false => rfl
    | true => have := Nat.le_of_ble_eq_true e; omega
  simp only [e, cond_false] at h1
  have h2 := all_r h1 hk
  rw [hf] at h2
  exact eqO_eq h2
theorem okG_e {M : Mem} (h : okG M = true) (h191 : (tgs M).length = 191) {a t i : Nat} (hT : (tgs M)[a]? = some t) (hk : akind t = 3 ∨ akind t = 4) (hi : i < alen t) : gE none M t a i = gE GR2 M t a i := by
  have ha : a < 191 := by have := (List.getElem?_eq_some_iff.mp hT).1; omega
  have h1 := all_r h ha
  rw [hT] at h1
  have e : Nat.ble 20 t = true := ak_ge (n := akind t) rfl (by omega)
  have e2 : (Nat.beq (akind t) 3 || Nat.beq (akind t) 4) = true := by
    rcases hk with g | g <;> rw [g] <;> rfl
  simp only [e, e2, cond_true] at h1
  exact eqO_eq (all_r h1 hi)
