section Two
variable (d e : Nat) {f : Nat → Int} {n T i : Nat} {X Y : Mem}
/-! the class reads alike at every depth -/
theorem dd_adv (h : RT X Y f n T i) : C2 d j_rd_advance [vR 8 3] X = C2 e j_rd_advance [vR 8 3] X := by
  rw [(adv_both d h).1, (adv_both e h).1]
theorem dd_fail (h : RT X Y f n T i) (p : Int) : C2 d j_rd_fail [vR 8 3, vI p] X = C2 e j_rd_fail [vR 8 3, vI p] X := by
  rw [fail_c d h, fail_c e h]
theorem dd_mis (h : RT X Y f n T i) : C2 d j_rd_misplaced [vR 8 3] X = C2 e j_rd_misplaced [vR 8 3] X := by
  rw [q_rd_misplaced, q_rd_misplaced, fail_c d h, fail_c d h, fail_c e h, fail_c e h]
theorem dd_num (h : RT X Y f n T i) (a b : Int) : C2 d j_rd_takeNumber [vR 8 3, vI a, vI b] X = C2 e j_rd_takeNumber [vR 8 3, vI a, vI b] X := by
  rw [q_rd_takeNumber, q_rd_takeNumber, x_within, x_within, bI_k, bI_k, dd_mis d e h, dd_fail d e h, dd_adv d e (h.n11 (v := X.1 3 8))]
theorem dd_sign (h : RT X Y f n T i) (c : Int) : C2 d j_rd_takeSign [vR 8 3, vI c] X = C2 e j_rd_takeSign [vR 8 3, vI c] X := by
  rw [q_rd_takeSign, q_rd_takeSign, rd_sign d h, rd_sign e h, bI_k, bI_k, dd_mis d e h, dd_adv d e h]
theorem dd_name (h : RT X Y f n T i) (t : Int) : C2 d j_rd_takeNameOf [vR 8 3, vI t] X = C2 e j_rd_takeNameOf [vR 8 3, vI t] X := by
  rw [q_rd_takeNameOf, q_rd_takeNameOf, rd_name d h.2.2.1, rd_name e h.2.2.1, bI_k, bI_k, dd_mis d e h, dd_fail d e h, dd_adv d e (h.n11 (v := t))]
theorem dd_cmp (h : RT X Y f n T i) : C2 d j_rd_takeComparing [vR 8 3] X = C2 e j_rd_takeComparing [vR 8 3] X := by
  rw [q_rd_takeComparing, q_rd_takeComparing, dd_mis d e h, dd_adv d e (h.n11 (v := X.1 3 8))]
/-! both sides, each at its depth -/
theorem go2 (h : RT X Y f n T i) (h0 : Y.1 179 12 = 0) : ∃ X' Y', C2 d j_rd_advance [vR 8 3] X = some (none, X') ∧ C2 e j_m_advance [vR 12 179] Y = some (none, Y') ∧ GdO X Y X' Y' f n T (min (i + 1) T) ∧ FCr X X' := by
  obtain ⟨X', Y', a1, a2, a3⟩ := go e h h0
  exact ⟨X', Y', (dd_adv d e h).trans a1, a2, a3⟩
theorem mis2 (h : RT X Y f n T i) (h0 : Y.1 179 12 = 0) : ∃ X' Y', C2 d j_rd_misplaced [vR 8 3] X = some (some (vI 0), X') ∧ C2 e j_m_amiss [vR 12 179] Y = some (none, Y') ∧ BdO X Y X' Y' := by
  obtain ⟨X', Y', a1, a2, a3⟩ := mis e h h0
  exact ⟨X', Y', (dd_mis d e h).trans a1, a2, a3⟩
theorem must_f2 (h : RT X Y f n T i) (h0 : Y.1 179 12 = 0) : ∃ X' Y', C2 d j_rd_misplaced [vR 8 3] X = some (some (vI 0), X') ∧ C2 e j_m_must [vR 12 179, vI 0] Y = some (none, Y') ∧ BdO X Y X' Y' := by
  obtain ⟨X', Y', a1, a2, a3⟩ := must_f e h h0
  exact ⟨X', Y', (dd_mis d e h).trans a1, a2, a3⟩
theorem must_t2 (h : RT X Y f n T i) (h0 : Y.1 179 12 = 0) : ∃ X' Y', C2 d j_rd_advance [vR 8 3] X = some (none, X') ∧ C2 e j_m_must [vR 12 179, vI 1] Y = some (none, Y') ∧ GdO X Y X' Y' f n T (min (i + 1) T) ∧ FCr X X' := by
  obtain ⟨X', Y', a1, a2, a3⟩ := must_t e h h0
  exact ⟨X', Y', (dd_adv d e h).trans a1, a2, a3⟩
theorem t_sign2 (h : RT X Y f n T i) (h0 : Y.1 179 12 = 0) (c : Int) : ∃ X' Y' b, C2 d j_rd_takeSign [vR 8 3, vI c] X = some (some (vI (b01 b)), X') ∧ (bI (C2 e j_m_isSign [vR 12 179, vI c] Y) fun x M => C2 e j_m_must [vR 12 179, vI x] M) = some (none, Y') ∧ ((b = true ∧ GdO X Y X' Y' f n T (min (i + 1) T) ∧ FCr X X') ∨ (b = false ∧ BdO X Y X' Y')) := by
  obtain ⟨X', Y', b, a1, a2, a3⟩ := t_sign e h h0 c
  exact ⟨X', Y', b, (dd_sign d e h c).trans a1, a2, a3⟩
theorem t_num2 (h : RT X Y f n T i) (h0 : Y.1 179 12 = 0) (lo hi : Int) : ∃ X' Y' b v, C2 d j_rd_takeNumber [vR 8 3, vI lo, vI hi] X = some (some (vI (b01 b)), X') ∧ C2 e j_m_count [vR 12 179, vI lo, vI hi] Y = some (some (vI v), Y') ∧ ((b = true ∧ GdO X Y X' Y' f n T (min (i + 1) T) ∧ X'.1 3 11 = v ∧ lo ≤ v ∧ v ≤ hi) ∨ (b = false ∧ v = 0 ∧ BdO X Y X' Y')) := by
  obtain ⟨X', Y', b, v, a1, a2, a3⟩ := t_num e h h0 lo hi
  exact ⟨X', Y', b, v, (dd_num d e h lo hi).trans a1, a2, a3⟩
/-- a name that the class looks up as tc, the reference as t -/
theorem t_name2 (h : RT X Y f n T i) (h0 : Y.1 179 12 = 0) (a b t tc : Int) (ht : -1 ≤ t) (hn : C2 e j_m_named [vR 12 179, vI a, vI b] Y = some (some (vI t), Y)) (hc : nmB f n (tkA f n i) = true → tc = t) : ∃ X' Y' g v, C2 d j_rd_takeNameOf [vR 8 3, vI tc] X = some (some (vI (b01 g)), X') ∧ C2 e j_m_readTold [vR 12 179, vI a, vI b] Y = some (some (vI v), Y') ∧ ((g = true ∧ GdO X Y X' Y' f n T (min (i + 1) T) ∧ X'.1 3 11 = v ∧ v = t ∧ 0 ≤ t) ∨ (g = false ∧ v = 0 ∧ BdO X Y X' Y')) := by
  cases hb : nmB f n (tkA f n i)
  · obtain ⟨X', Y', a1, a2, a3⟩ := mis2 d e h h0
    have hp := a3.1.pos
    refine ⟨X', Y', false, 0, ?_, ?_, Or.inr ⟨rfl, rfl, a3⟩⟩
    · rw [q_rd_takeNameOf, rd_name d h.2.2.1, hb, bI_k, if_pos b01_f, a1, bI_k, if_pos (Or.inl rfl)] <;> rfl
    · rw [q_m_readTold, q_m_told, if_pos h0, is_name e h.2.2.2.2, hb, bI_k, if_pos b01_f, a2, bV_k, if_pos hp, bI_k, f_must e hp, bV_k]
  · obtain ⟨X', Y', g, v, a1, a2, a3⟩ := t_name e h h0 a b t ht hn
    rw [hc hb]
    exact ⟨X', Y', g, v, (dd_name d e h t).trans a1, a2, a3⟩
/-- the names of the realm, on both sides -/
def NR (X Y : Mem) (a b : Nat) : Prop := (X.1 11 7 = (a : Int) ∧ Y.1 184 0 = (a : Int) ∧ a ≤ 6 ∧ ∀ p, p < a → X.2.1 ((11 + 1) + 9 + 1 * p) 0 = Y.2.1 187 p) ∧ (X.1 11 8 = (b : Int) ∧ Y.1 184 1 = (b : Int) ∧ b ≤ 8 ∧ ∀ p, p < b → X.2.1 ((11 + 2) + 14 + 1 * p) 0 = Y.2.1 187 (6 + p))
theorem NR.keep {X' Y' : Mem} {a b : Nat} (h : NR X Y a b) (h1 : X'.1 11 = X.1 11) (h2 : ∀ q, 11 ≤ q → q < 39 → X'.2.1 q = X.2.1 q) (h3 : ∀ k, k < 2 → Y'.1 184 k = Y.1 184 k) (h4 : Y'.2.1 187 = Y.2.1 187) : NR X' Y' a b := by
  obtain ⟨⟨a1, a2, a3, a4⟩, b1, b2, b3, b4⟩ := h
  refine ⟨⟨by rw [h1]; exact a1, by rw [h3 0 (by decide)]; exact a2, a3, fun p hp => ?_⟩, by rw [h1]; exact b1, by rw [h3 1 (by decide)]; exact b2, b3, fun p hp => ?_⟩
  · rw [h2 _ (by omega) (by omega), h4]; exact a4 p hp
  · rw [h2 _ (by omega) (by omega), h4]; exact b4 p hp
theorem NR.p0 {a b : Nat} (h : NR X Y a b) : C2 e j_m_named [vR 12 179, vI 0, vI 0] Y = some (some (vI (fnd (fun p => X.2.1 ((11 + 1) + 9 + 1 * p) 0) (Y.2.1 179 19) a 0)), Y) := by
  obtain ⟨⟨a1, a2, a3, a4⟩, _⟩ := h
  have := m_nam e (Y := Y) (b := 0) (k := 0) (m := a) (by decide) (by decide) a2 (by show 0 + a ≤ 18; omega)
  rw [fnd_c a 0 (g := fun p => X.2.1 ((11 + 1) + 9 + 1 * p) 0) (g' := fun p => Y.2.1 187 (18 * 0 + stW 0 + p)) (fun q _ hq => by
    show _ = Y.2.1 187 (18 * 0 + 0 + q)
    rw [show 18 * 0 + 0 + q = q by omega]
    exact a4 q (by omega))]
  exact this
theorem NR.p1 {a b : Nat} (h : NR X Y a b) : C2 e j_m_named [vR 12 179, vI 0, vI 1] Y = some (some (vI (fnd (fun p => X.2.1 ((11 + 2) + 14 + 1 * p) 0) (Y.2.1 179 19) b 0)), Y) := by
  obtain ⟨_, a1, a2, a3, a4⟩ := h
  have := m_nam e (Y := Y) (b := 0) (k := 1) (m := b) (by decide) (by decide) a2 (by show 6 + b ≤ 18; omega)
  rw [fnd_c b 0 (g := fun p => X.2.1 ((11 + 2) + 14 + 1 * p) 0) (g' := fun p => Y.2.1 187 (18 * 0 + stW 1 + p)) (fun q _ hq => by
    show _ = Y.2.1 187 (18 * 0 + 6 + q)
    rw [show 18 * 0 + 6 + q = 6 + q by omega]
    exact a4 q (by omega))]
  exact this
/-- a part's name is taken -/
theorem t_prt (h : RT X Y f n T i) (h0 : Y.1 179 12 = 0) {a b : Nat} (hN : NR X Y a b) : ∃ X' Y' g v x2, C2 d j_em_findPart [vR 1 11, vL (X.2.1 3 9)] X = some (some (vI x2), X) ∧ C2 d j_rd_takeNameOf [vR 8 3, vI x2] X = some (some (vI (b01 g)), X') ∧ C2 e j_m_readTold [vR 12 179, vI 0, vI 0] Y = some (some (vI v), Y') ∧ ((g = true ∧ GdO X Y X' Y' f n T (min (i + 1) T) ∧ X'.1 3 11 = v ∧ 0 ≤ v ∧ v < (a : Int)) ∨ (g = false ∧ v = 0 ∧ BdO X Y X' Y')) := by
  have hf := fnd_b (g := fun p => X.2.1 ((11 + 1) + 9 + 1 * p) 0) (w := Y.2.1 179 19) a 0
  obtain ⟨X', Y', g, v, a1, a2, a3⟩ := t_name2 d e h h0 0 0 _ (fnd (fun p => X.2.1 ((11 + 1) + 9 + 1 * p) 0) (X.2.1 3 9) a 0) (by omega) (hN.p0 e) (fun hb => by rw [nm_word h hb])
  refine ⟨X', Y', g, v, _, c_part d hN.1.1 hN.1.2.2.1 _, a1, a2, ?_⟩
  · rcases a3 with ⟨g1, g2, g3, g4, g5⟩ | a3
    · refine Or.inl ⟨g1, g2, g3, ?_⟩
      omega
    · exact Or.inr a3
/-- a hand's name is taken -/
theorem t_hnd (h : RT X Y f n T i) (h0 : Y.1 179 12 = 0) {a b : Nat} (hN : NR X Y a b) : ∃ X' Y' g v x2, C2 d j_em_findHand [vR 1 11, vL (X.2.1 3 9)] X = some (some (vI x2), X) ∧ C2 d j_rd_takeNameOf [vR 8 3, vI x2] X = some (some (vI (b01 g)), X') ∧ C2 e j_m_readTold [vR 12 179, vI 0, vI 1] Y = some (some (vI v), Y') ∧ ((g = true ∧ GdO X Y X' Y' f n T (min (i + 1) T) ∧ X'.1 3 11 = v ∧ 0 ≤ v ∧ v < (b : Int)) ∨ (g = false ∧ v = 0 ∧ BdO X Y X' Y')) := by
  have hf := fnd_b (g := fun p => X.2.1 ((11 + 2) + 14 + 1 * p) 0) (w := Y.2.1 179 19) b 0
  obtain ⟨X', Y', g, v, a1, a2, a3⟩ := t_name2 d e h h0 0 1 _ (fnd (fun p => X.2.1 ((11 + 2) + 14 + 1 * p) 0) (X.2.1 3 9) b 0) (by omega) (hN.p1 e) (fun hb => by rw [nm_word h hb])
  refine ⟨X', Y', g, v, _, c_hand d hN.2.1 hN.2.2.2.1 _, a1, a2, ?_⟩
  · rcases a3 with ⟨g1, g2, g3, g4, g5⟩ | a3
    · refine Or.inl ⟨g1, g2, g3, ?_⟩
      omega
    · exact Or.inr a3
end Two
