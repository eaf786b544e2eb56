/-! what is taken, and what is amiss -/
def FZ (X X' : Mem) : Prop := ∀ a, a ≠ 3 → X'.1 a = X.1 a ∧ X'.2.1 a = X.2.1 a
def FW (Y Y' : Mem) : Prop := (∀ a, a ≠ 179 → Y'.1 a = Y.1 a ∧ Y'.2.1 a = Y.2.1 a) ∧ (∀ k, ¬ (12 ≤ k ∧ k ≤ 18) → Y'.1 179 k = Y.1 179 k) ∧ (∀ k, k ≠ 19 → Y'.2.1 179 k = Y.2.1 179 k)
theorem FZ.tr {A B C : Mem} (h : FZ A B) (g : FZ B C) : FZ A C := fun a h1 => ⟨(g a h1).1.trans (h a h1).1, (g a h1).2.trans (h a h1).2⟩
theorem FZ.rfl {A : Mem} : FZ A A := fun _ _ => ⟨Eq.refl _, Eq.refl _⟩
theorem FZ.p {A : Mem} {k : Nat} {v : Int} : FZ A (putI A 3 k v) := fun _ h => ⟨pI_ne h, Eq.refl _⟩
theorem FCr.z {A B : Mem} (h : FCr A B) : FZ A B := h.1
theorem FW.tr {A B C : Mem} (h : FW A B) (g : FW B C) : FW A C := ⟨fun a h1 => ⟨(g.1 a h1).1.trans (h.1 a h1).1, (g.1 a h1).2.trans (h.1 a h1).2⟩, fun k hk => (g.2.1 k hk).trans (h.2.1 k hk), fun k hk => (g.2.2 k hk).trans (h.2.2 k hk)⟩
theorem FW.rfl {A : Mem} : FW A A := ⟨fun _ _ => ⟨Eq.refl _, Eq.refl _⟩, fun _ _ => Eq.refl _, fun _ _ => Eq.refl _⟩
theorem FW.p {Y : Mem} {k : Nat} {v : Int} (h : 12 ≤ k ∧ k ≤ 18) : FW Y (putI Y 179 k v) := ⟨fun a h1 => ⟨pI_ne h1, Eq.refl _⟩, fun j hj => pI_nk (by omega), fun _ _ => Eq.refl _⟩
theorem FT.w {A B : Mem} (h : FT A B) : FW A B := ⟨h.1, fun k hk => h.2.1 k (by omega), h.2.2⟩
/-- both have found a fault, the same one -/
def Bad (X Y : Mem) : Prop := ∃ p q : Int, 0 < p ∧ X.1 3 12 = p ∧ X.1 3 13 = q ∧ Y.1 179 12 = p ∧ Y.1 179 13 = q
def BdO (X Y X' Y' : Mem) : Prop := Bad X' Y' ∧ FZ X X' ∧ FW Y Y'
/-- both have gone on -/
def GdO (X Y X' Y' : Mem) (f : Nat → Int) (n T i : Nat) : Prop := RT X' Y' f n T i ∧ Y'.1 179 12 = 0 ∧ FZ X X' ∧ FT Y Y'
section Take
variable (d : Nat) {f : Nat → Int} {n T i : Nat} {X Y : Mem}
theorem RT.z {X' : Mem} (h : RT X Y f n T i) (hz : FZ X X') (hc : ∀ k, k ≠ 11 → X'.1 3 k = X.1 3 k) (hl : X'.2.1 3 9 = X.2.1 3 9) : RT X' Y f n T i := by
  obtain ⟨⟨h1, h2, h3, h4, h5, h6, h7, h8⟩, hi, ⟨s1, s2, s3, s4, s5, s6⟩, hy, ht⟩ := h
  refine ⟨⟨fun j hj => ?_, h2, h3, ?_, ?_, h6, h7, fun j hj => ?_, ?_, ?_⟩, hi, ⟨?_, ?_, ?_, ?_, ?_, ?_⟩, hy, ht⟩
  · rw [(hz 5 (by decide)).1, (hz 6 (by decide)).1, (hz 7 (by decide)).2]; exact h1 j hj
  · rw [hc 4 (by decide)]; exact h4
  · rw [hc 6 (by decide)]; exact h5
  · rw [(hz 4 (by decide)).2]; exact h8.1 j hj
  · rw [hc 12 (by decide)]; exact h8.2.1
  · rw [hc 13 (by decide)]; exact h8.2.2
  · rw [hc 5 (by decide)]; exact s1
  · rw [hc 7 (by decide)]; exact s2
  · rw [hl]; exact s3
  · rw [hc 10 (by decide)]; exact s4
  · rw [hc 8 (by decide)]; exact s5
  · rw [hc 8 (by decide)]; exact s6
theorem RT.n11 {v : Int} (h : RT X Y f n T i) : RT (putI X 3 11 v) Y f n T i := h.z FZ.p (fun k h1 => pI_nk h1) rfl
theorem fail_c (h : RT X Y f n T i) (p : Int) : C2 d j_rd_fail [vR 8 3, vI p] X = some (some (vI 0), putI (putI X 3 12 p) 3 13 ((tkA f n i : Nat) : Int)) := by
  obtain ⟨⟨h1, h2, h3, h4, h5, h6, h7, h8⟩, hi, ⟨s1, s2, s3, s4, s5, s6⟩, hy, ht⟩ := h
  have e5 : (putI X 3 12 p).1 3 5 = (i : Int) := by rw [pI_nk (by decide)]; exact s1
  have e6 : (putI X 3 12 p).1 6 i = ((tkA f n i : Nat) : Int) := by rw [pI_ne (by decide)]; exact (h1 i hi).2.1
  rw [q_rd_fail, e5, if_pos (by omega), Int.toNat_natCast, e6]
theorem fail_m (h : RT X Y f n T i) (h0 : Y.1 179 12 = 0) (p : Int) : C2 d j_m_fail [vR 12 179, vI p, vI (Y.1 179 15)] Y = some (none, putI (putI Y 179 12 p) 179 13 ((tkA f n i : Nat) : Int)) := by
  rw [q_m_fail, h0, if_neg (by decide), h.2.2.2.2.2.1]
theorem bad_put (p q : Int) (hp : 0 < p) : BdO X Y (putI (putI X 3 12 p) 3 13 q) (putI (putI Y 179 12 p) 179 13 q) :=
  ⟨⟨p, q, hp, by rw [pI_nk (by decide), pI_s], pI_s, by rw [pI_nk (by decide), pI_s], pI_s⟩, FZ.p.tr FZ.p, (FW.p (by decide)).tr (FW.p (by decide))⟩
/-- out of place -/
theorem mis (h : RT X Y f n T i) (h0 : Y.1 179 12 = 0) : ∃ X' Y', C2 d j_rd_misplaced [vR 8 3] X = some (some (vI 0), X') ∧ C2 d j_m_amiss [vR 12 179] Y = some (none, Y') ∧ BdO X Y X' Y' := by
  have k1 : X.1 3 7 = tK f n (tkA f n i) := h.2.2.1.2.1
  have k2 : Y.1 179 14 = tK f n (tkA f n i) := h.2.2.2.2.1
  by_cases c : tK f n (tkA f n i) = 4
  · refine ⟨_, _, ?_, ?_, bad_put 1 ((tkA f n i : Nat) : Int) (by decide)⟩
    · rw [q_rd_misplaced, k1, if_pos c, fail_c d h, bI_k, if_pos (Or.inl rfl)]
    · rw [q_m_amiss, k2, if_pos c, fail_m d h h0, bV_k]
  · refine ⟨_, _, ?_, ?_, bad_put 2 ((tkA f n i : Nat) : Int) (by decide)⟩
    · rw [q_rd_misplaced, k1, if_neg c, fail_c d h, bI_k, if_pos (Or.inl rfl)]
    · rw [q_m_amiss, k2, if_neg c, fail_m d h h0, bV_k]
/-- both go on, in a word -/
theorem go (h : RT X Y f n T i) (h0 : Y.1 179 12 = 0) : ∃ X' Y', C2 d j_rd_advance [vR 8 3] X = some (none, X') ∧ C2 d j_m_advance [vR 12 179] Y = some (none, Y') ∧ GdO X Y X' Y' f n T (min (i + 1) T) ∧ FCr X X' := by
  obtain ⟨a1, Y', a2, a3, a4, a5⟩ := adv_both d h
  exact ⟨_, Y', a1, a2, ⟨a3, by rw [a5.2.1 12 (by decide)]; exact h0, a4.z, a5⟩, a4⟩
/-- must: a condition that both see -/
theorem must_t (h : RT X Y f n T i) (h0 : Y.1 179 12 = 0) : ∃ X' Y', C2 d j_rd_advance [vR 8 3] X = some (none, X') ∧ C2 d j_m_must [vR 12 179, vI 1] Y = some (none, Y') ∧ GdO X Y X' Y' f n T (min (i + 1) T) ∧ FCr X X' := by
  obtain ⟨X', Y', a1, a2, a3, a4⟩ := go d h h0
  refine ⟨X', Y', a1, ?_, a3, a4⟩
  rw [q_m_must, h0, if_neg (by decide), if_neg (by decide), a2, bV_k]
theorem must_f (h : RT X Y f n T i) (h0 : Y.1 179 12 = 0) : ∃ X' Y', C2 d j_rd_misplaced [vR 8 3] X = some (some (vI 0), X') ∧ C2 d j_m_must [vR 12 179, vI 0] Y = some (none, Y') ∧ BdO X Y X' Y' := by
  obtain ⟨X', Y', a1, a2, a3⟩ := mis d h h0
  refine ⟨X', Y', a1, ?_, a3⟩
  rw [q_m_must, h0, if_neg (by decide), if_pos rfl, a2, bV_k]
/-- a word that must stand there -/
theorem t_word (h : RT X Y f n T i) (h0 : Y.1 179 12 = 0) (j : Int) : ∃ X' Y' b, C2 d j_rd_takeWord [vR 8 3, vI j] X = some (some (vI (b01 b)), X') ∧ C2 d j_m_must [vR 12 179, vI (b01 (decide (kwI (wdF f n (tkA f n i)) = j)))] Y = some (none, Y') ∧ ((b = true ∧ GdO X Y X' Y' f n T (min (i + 1) T) ∧ FCr X X') ∨ (b = false ∧ BdO X Y X' Y')) := by
  have k : X.1 3 10 = kwI (wdF f n (tkA f n i)) := h.2.2.1.2.2.2.1
  by_cases c : kwI (wdF f n (tkA f n i)) = j
  · obtain ⟨X', Y', a1, a2, a3⟩ := must_t d h h0
    refine ⟨X', Y', true, ?_, ?_, Or.inl ⟨rfl, a3⟩⟩
    · rw [q_rd_takeWord, k, if_pos c, a1, bV_k]; rfl
    · rw [decide_eq_true c]; exact a2
  · obtain ⟨X', Y', a1, a2, a3⟩ := must_f d h h0
    refine ⟨X', Y', false, ?_, ?_, Or.inr ⟨rfl, a3⟩⟩
    · rw [q_rd_takeWord, k, if_neg c, a1, bI_k, if_pos (Or.inl rfl)]; rfl
    · rw [decide_eq_false c]; exact a2
/-- a sign -/
def sgB (f : Nat → Int) (n a : Nat) (c : Int) : Bool := decide (tK f n a = 3) && decide (f a = c)
theorem rd_sign (h : RT X Y f n T i) (c : Int) : C2 d j_rd_atSign [vR 8 3, vI c] X = some (some (vI (b01 (sgB f n (tkA f n i) c))), X) := by
  have k1 : X.1 3 7 = tK f n (tkA f n i) := h.2.2.1.2.1
  unfold sgB
  rw [q_rd_atSign, k1]
  by_cases g : tK f n (tkA f n i) = 3
  · rw [if_pos g, decide_eq_true g, Bool.true_and, h.2.2.1.2.2.2.2.2 g]
    by_cases e : f (tkA f n i) = c
    · rw [if_pos e, decide_eq_true e]; rfl
    · rw [if_neg e, decide_eq_false e]; rfl
  · rw [if_neg g, decide_eq_false g]; rfl
theorem m_sign (h : RT X Y f n T i) (c : Int) : C2 d j_m_isSign [vR 12 179, vI c] Y = some (some (vI (b01 (sgB f n (tkA f n i) c))), Y) := by
  have k1 : Y.1 179 14 = tK f n (tkA f n i) := h.2.2.2.2.1
  unfold sgB
  rw [q_m_isSign, k1]
  by_cases g : tK f n (tkA f n i) = 3
  · rw [if_pos g, decide_eq_true g, Bool.true_and, h.2.2.2.2.2.2.2.2.2 g]
    by_cases e : f (tkA f n i) = c
    · rw [if_pos e, decide_eq_true e]; rfl
    · rw [if_neg e, decide_eq_false e]; rfl
  · rw [if_neg g, decide_eq_false g]; rfl
theorem t_sign (h : RT X Y f n T i) (h0 : Y.1 179 12 = 0) (c : Int) : ∃ X' Y' b, C2 d j_rd_takeSign [vR 8 3, vI c] X = some (some (vI (b01 b)), X') ∧ (bI (C2 d j_m_isSign [vR 12 179, vI c] Y) fun x M => C2 d j_m_must [vR 12 179, vI x] M) = some (none, Y') ∧ ((b = true ∧ GdO X Y X' Y' f n T (min (i + 1) T) ∧ FCr X X') ∨ (b = false ∧ BdO X Y X' Y')) := by
  cases hb : sgB f n (tkA f n i) c
  · obtain ⟨X', Y', a1, a2, a3⟩ := must_f d h h0
    refine ⟨X', Y', false, ?_, ?_, Or.inr ⟨rfl, a3⟩⟩
    · rw [q_rd_takeSign, rd_sign d h, hb, bI_k, if_pos b01_f, a1, bI_k, if_pos (Or.inl rfl)]; rfl
    · rw [m_sign d h, hb, bI_k]; exact a2
  · obtain ⟨X', Y', a1, a2, a3⟩ := must_t d h h0
    refine ⟨X', Y', true, ?_, ?_, Or.inl ⟨rfl, a3⟩⟩
    · rw [q_rd_takeSign, rd_sign d h, hb, bI_k, if_neg (by decide), a1, bV_k]; rfl
    · rw [m_sign d h, hb, bI_k]; exact a2
/-- a number -/
theorem t_num (h : RT X Y f n T i) (h0 : Y.1 179 12 = 0) (lo hi : Int) : ∃ X' Y' b v, C2 d j_rd_takeNumber [vR 8 3, vI lo, vI hi] X = some (some (vI (b01 b)), X') ∧ C2 d j_m_count [vR 12 179, vI lo, vI hi] Y = some (some (vI v), Y') ∧ ((b = true ∧ GdO X Y X' Y' f n T (min (i + 1) T) ∧ X'.1 3 11 = v ∧ lo ≤ v ∧ v ≤ hi) ∨ (b = false ∧ v = 0 ∧ BdO X Y X' Y')) := by
  have k1 : X.1 3 7 = tK f n (tkA f n i) := h.2.2.1.2.1
  have k2 : Y.1 179 14 = tK f n (tkA f n i) := h.2.2.2.2.1
  by_cases c : tK f n (tkA f n i) = 2
  · have v1 := h.2.2.1.2.2.2.2.1 c
    have v2 := h.2.2.2.2.2.2.2.2.1 c
    generalize hv : nm f (tkA f n i) (en isDi f n (tkA f n i) - tkA f n i) = v at *
    by_cases g : lo ≤ v ∧ v ≤ hi
    · obtain ⟨X', Y', a1, a2, a3, a4⟩ := go d (h.n11 (v := v)) h0
      refine ⟨X', Y', true, v, ?_, ?_, Or.inl ⟨rfl, ⟨a3.1, a3.2.1, FZ.p.tr a3.2.2.1, a3.2.2.2⟩, ?_, g⟩⟩
      · rw [q_rd_takeNumber, k1, if_pos c, v1, x_within, bI_k, if_pos g, if_neg (by decide), v1, a1, bV_k]; rfl
      · rw [q_m_count, k2, h0, if_pos rfl, if_pos c, if_pos rfl, v2, m_isIn, bI_k, if_pos g, if_neg (by decide), h0, if_neg (by decide), a2, bV_k, v2]
      · rw [a4.2.1 11 (by decide) (by decide) (by decide) (by decide)]; exact pI_s
    · refine ⟨_, _, false, 0, ?_, ?_, Or.inr ⟨rfl, rfl, bad_put 4 ((tkA f n i : Nat) : Int) (by decide)⟩⟩
      · rw [q_rd_takeNumber, k1, if_pos c, v1, x_within, bI_k, if_neg g, if_pos rfl, fail_c d h, bI_k, if_pos (Or.inl rfl)]; rfl
      · rw [q_m_count, k2, h0, if_pos rfl, if_pos c, if_pos rfl, v2, m_isIn, bI_k, if_neg g, if_pos rfl, fail_m d h h0, bV_k, if_pos (by rw [pI_nk (by decide), pI_s]; decide)]
  · obtain ⟨X', Y', a1, a2, a3⟩ := mis d h h0
    obtain ⟨p, q, p0, _, _, p3, _⟩ := a3.1
    refine ⟨X', Y', false, 0, ?_, ?_, Or.inr ⟨rfl, rfl, a3⟩⟩
    · rw [q_rd_takeNumber, k1, if_neg c, a1, bI_k, if_pos (Or.inl rfl)]; rfl
    · rw [q_m_count, k2, h0, if_pos rfl, if_neg c, a2, bV_k, if_neg (by omega), if_pos (by omega)]
end Take
