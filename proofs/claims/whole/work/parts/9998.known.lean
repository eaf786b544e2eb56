section Known
variable (d : Nat) {f : Nat → Int} {n T i : Nat} {X Y : Mem}
/-- how many of six bits -/
def cn6 (x : Int) : Nat := (bt x 0).toNat + (bt x 1).toNat + (bt x 2).toNat + (bt x 3).toNat + (bt x 4).toNat + (bt x 5).toNat
theorem cn6_le (x : Int) : cn6 x ≤ 6 := by
  unfold cn6
  have := Bool.toNat_le (bt x 0)
  have := Bool.toNat_le (bt x 1)
  have := Bool.toNat_le (bt x 2)
  have := Bool.toNat_le (bt x 3)
  have := Bool.toNat_le (bt x 4)
  have := Bool.toNat_le (bt x 5)
  omega
theorem cn6_s {x : Int} {t : Nat} (ht : t < 6) (hb : bt x t = false) : cn6 (xor32 x (xshl 1 (t : Int))) = cn6 x + 1 := by
  have key : ∀ j, j < 6 → bt (xor32 x (xshl 1 (t : Int))) j = (bt x j || decide (j = t)) := fun j hj => by
    rw [bt_or, bt_one t (by omega) j (by omega)]
  unfold cn6
  rw [key 0 (by decide), key 1 (by decide), key 2 (by decide), key 3 (by decide), key 4 (by decide), key 5 (by decide)]
  have : t = 0 ∨ t = 1 ∨ t = 2 ∨ t = 3 ∨ t = 4 ∨ t = 5 := by omega
  rcases this with g | g | g | g | g | g <;> subst g <;> rw [hb] <;> simp <;> omega
/-- the parts that are named already, on both sides -/
def NP (X Y : Mem) (c : Nat) : Prop := X.1 39 7 = (c : Int) ∧ Y.1 184 1380 = (c : Int) ∧ c ≤ 6 ∧ ∀ p, p < c → X.2.1 ((39 + 1) + 9 + 1 * p) 0 = Y.2.1 187 (72 + p)
theorem NP.keep {X' Y' : Mem} {c : Nat} (h : NP X Y c) (h1 : X'.1 39 = X.1 39) (h2 : ∀ q, q ≠ 3 → X'.2.1 q = X.2.1 q) (h3 : Y'.1 184 = Y.1 184) (h4 : Y'.2.1 187 = Y.2.1 187) : NP X' Y' c := ⟨by rw [h1]; exact h.1, by rw [h3]; exact h.2.1, h.2.2.1, fun p hp => by rw [h2 _ (by omega), h4]; exact h.2.2.2 p hp⟩
theorem NP.named {c : Nat} (h : NP X Y c) : C2 d j_m_named [vR 12 179, vI 4, vI 0] Y = some (some (vI (fnd (fun p => X.2.1 ((39 + 1) + 9 + 1 * p) 0) (Y.2.1 179 19) c 0)), Y) := by
  obtain ⟨h1, h2, h3, h4⟩ := h
  have := m_nam d (Y := Y) (b := 4) (k := 0) (m := c) (by decide) (by decide) h2 (by show 0 + c ≤ 18; omega)
  rw [fnd_c c 0 (g := fun p => X.2.1 ((39 + 1) + 9 + 1 * p) 0) (g' := fun p => Y.2.1 187 (18 * 4 + stW 0 + p)) (fun q _ hq => h4 q (by omega))]
  exact this
/-- what is read where a fault stands -/
theorem f_parts (h : 0 < Y.1 179 12) (x : Int) : E2 d r_m_readParts 2 [(0, vR 12 179), (1, vI x)] [] Y = some (some (vI x), Y) := by
  rw [q_m_readParts_2, if_neg (by omega)]
/-- the frame of a list of known parts, for the hand at q -/
def FK (q : Nat) (X X' : Mem) : Prop := (∀ a, a ≠ 3 → a ≠ q → X'.1 a = X.1 a) ∧ (∀ k, k ≠ 3 → X'.1 q k = X.1 q k) ∧ (∀ a, a ≠ 3 → X'.2.1 a = X.2.1 a)
theorem FZ.k {q : Nat} {A B : Mem} (h : FZ A B) (hq : q ≠ 3) : FK q A B := ⟨fun a h1 _ => (h a h1).1, fun k _ => by rw [(h q hq).1], fun a h1 => (h a h1).2⟩
theorem FK.tr {q : Nat} {A B C : Mem} (h : FK q A B) (g : FK q B C) : FK q A C := ⟨fun a h1 h2 => (g.1 a h1 h2).trans (h.1 a h1 h2), fun k hk => (g.2.1 k hk).trans (h.2.1 k hk), fun a h1 => (g.2.2 a h1).trans (h.2.2 a h1)⟩
theorem FK.p {q : Nat} {A : Mem} {v : Int} : FK q A (putI A q 3 v) := ⟨fun _ _ h2 => pI_ne h2, fun _ hk => pI_nk hk, fun _ _ => rfl⟩
/-- the class has stopped at a token that the reference will stop at -/
def Late (X' Y' : Mem) (f : Nat → Int) (n T : Nat) : Prop := ∃ (X0 : Mem) (j : Nat), RT X0 Y' f n T j ∧ Y'.1 179 12 = 0 ∧ sgB f n (tkA f n j) 59 = false ∧ C2 d j_rd_misplaced [vR 8 3] X0 = some (some (vI 0), X')
/-- what the list comes to -/
def KO (q : Nat) (X Y X' Y' : Mem) (f : Nat → Int) (n T i : Nat) (b : Bool) (s : Int) : Prop := FK q X X' ∧ FW Y Y' ∧ ((b = true ∧ ∃ j, i ≤ j ∧ RT X' Y' f n T j ∧ Y'.1 179 12 = 0 ∧ X'.1 q 3 = s ∧ 0 ≤ s ∧ s ≤ 63) ∨ (b = false ∧ Bad X' Y') ∨ (b = false ∧ (0 ≤ s ∧ s ≤ 63) ∧ Late d X' Y' f n T))
theorem bit_d {x : Int} {t : Nat} (ht : t < 6) : (xand (xshr x (t : Int)) 1 = 1) = (bt x t = true) := by
  rw [bit_is (by omega)]
  cases bt x t <;> simp
theorem k_step {q c : Nat} (q1 : 39 < q) {x : Int} (h : RT X Y f n T i) (h0 : Y.1 179 12 = 0) (hN : NP X Y c) (hx : X.1 q 3 = x) (hb : 0 ≤ x ∧ x ≤ 63) : (∃ X' Y' b s, E2 d r_er_parseKnown 4 [(1, vR 8 3), (2, vR 1 39), (3, vR 3 q), (4, vI ((cn6 x : Nat) : Int))] [] X = some (some (vI (b01 b)), X') ∧ E2 d r_m_readParts 2 [(0, vR 12 179), (1, vI x)] [] Y = some (some (vI s), Y') ∧ KO d q X Y X' Y' f n T i b s) ∨ (∃ (X2 Y2 : Mem) (t : Nat), t < 6 ∧ bt x t = false ∧ E2 d r_er_parseKnown 4 [(1, vR 8 3), (2, vR 1 39), (3, vR 3 q), (4, vI ((cn6 x : Nat) : Int))] [] X = E2 d r_er_parseKnown 4 [(1, vR 8 3), (2, vR 1 39), (3, vR 3 q), (4, vI ((cn6 x + 1 : Nat) : Int))] [] X2 ∧ E2 d r_m_readParts 2 [(0, vR 12 179), (1, vI x)] [] Y = E2 d r_m_readParts 2 [(0, vR 12 179), (1, vI (xor32 x (xshl 1 (t : Int))))] [] Y2 ∧ RT X2 Y2 f n T (min (i + 1) T) ∧ Y2.1 179 12 = 0 ∧ NP X2 Y2 c ∧ X2.1 q 3 = xor32 x (xshl 1 (t : Int)) ∧ FK q X X2 ∧ FW Y Y2) := by
  have hi := h.2.1
  have c6 := cn6_le x
  have q3 : ∀ _ : Unit, q ≠ 3 := by intro _; omega
  have n6 : ∀ _ : Unit, ¬ (6 : Int) < ((cn6 x : Nat) : Int) := by intro _; omega
  have w1 : ∀ _ : Unit, w32 (((cn6 x : Nat) : Int) + 1) = ((cn6 x + 1 : Nat) : Int) := by intro _; rw [w32s (by omega)]; omega
  have k1 : X.1 3 7 = tK f n (tkA f n i) := h.2.2.1.2.1
  have k2 : Y.1 179 14 = tK f n (tkA f n i) := h.2.2.2.2.1
  have hc6 := hN.2.2.1
  have ex := q_er_parseKnown_4 39 q ((cn6 x : Nat) : Int) d X
  have em := q_m_readParts_2 x d Y
  rw [if_neg (n6 ()), rd_sign d h, bI_k] at ex
  rw [if_pos h0, k2] at em
  cases hs : sgB f n (tkA f n i) 59
  · rw [hs, if_pos b01_f, c_part d hN.1 hN.2.2.1, bI_k, rd_name d h.2.2.1, bI_k] at ex
    cases hn : nmB f n (tkA f n i)
    · obtain ⟨X', Y', a1, a2, a3⟩ := mis d h h0
      rw [hn, if_pos b01_f, q_rd_takeNameOf, rd_name d h.2.2.1, hn, bI_k, if_pos b01_f, a1, bI_k, if_pos (Or.inl rfl), bI_k, if_pos rfl] at ex
      by_cases ct : tK f n (tkA f n i) = 1
      · have hp := a3.1.pos
        rw [if_pos ct, q_m_told, if_pos h0, is_name d h.2.2.2.2, hn, bI_k, if_pos b01_f, a2, bV_k, if_pos hp, bI_k, if_neg (by omega), f_must d hp, bV_k, f_parts d hp] at em
        exact Or.inl ⟨X', Y', false, _, ex, em, a3.2.1.k (q3 ()), a3.2.2, Or.inr (Or.inl ⟨rfl, a3.1⟩)⟩
      · rw [if_neg ct] at em
        exact Or.inl ⟨X', Y, false, x, ex, em, a3.2.1.k (q3 ()), FW.rfl, Or.inr (Or.inr ⟨rfl, hb, X, i, h, h0, hs, a1⟩)⟩
    · have hwd := nm_word h hn
      have ct : tK f n (tkA f n i) = 1 := by
        unfold nmB at hn
        rw [Bool.and_eq_true, decide_eq_true_eq] at hn
        exact hn.1
      have hnm := hN.named d
      rw [hwd] at hnm
      have hf := fnd_b (g := fun p => X.2.1 ((39 + 1) + 9 + 1 * p) 0) (w := X.2.1 3 9) c 0
      generalize fnd (fun p => X.2.1 ((39 + 1) + 9 + 1 * p) 0) (X.2.1 3 9) c 0 = t at *
      have ht : ∀ _ : Unit, -1 ≤ t := by intro _; omega
      rw [hn, if_neg (by decide)] at ex
      rw [if_pos ct] at em
      rcases t_told d h h0 4 0 t (ht ()) hnm with ⟨_, t0, tt⟩ | ⟨X', Y', a1, a2, a3⟩
      · obtain ⟨u, rfl⟩ : ∃ u : Nat, t = (u : Int) := ⟨t.toNat, by omega⟩
        have u6 : ∀ _ : Unit, u < 6 := by intro _; omega
        rw [if_neg (by omega), hx] at ex
        rw [tt, bI_k, if_pos h0, m_has d x u (by omega), bI_k] at em
        cases hbt : bt x u
        · rw [if_neg (show ¬ xand (xshr x (u : Int)) 1 = 1 by rw [bit_d (u6 ()), hbt]; decide)] at ex
          rw [hbt, if_pos b01_f] at em
          obtain ⟨X1, Y1, m1, m2, m3, m4⟩ := must_t d (h.n11 (v := (u : Int))) h0
          rw [q_rd_takeNameOf, rd_name d h.2.2.1, hn, bI_k, if_neg (by decide), if_neg (by omega), m1, bV_k, bI_k, if_neg (by decide), (w1 ())] at ex
          rw [m2, bV_k] at em
          have fz : FZ X X1 := FZ.p.tr m3.2.2.1
          have x3 : X1.1 q 3 = x := by rw [(fz q (q3 ())).1]; exact hx
          rw [x3] at ex
          refine Or.inr ⟨_, _, u, (u6 ()), hbt, ex, em, m3.1.x fun a ha => ⟨pI_ne (by omega), rfl⟩, m3.2.1, ?_, pI_s, (fz.k (q3 ())).tr FK.p, m3.2.2.2.w⟩
          exact hN.keep (by rw [pI_ne (by omega)]; exact (fz 39 (by decide)).1) (fun a ha => (fz a ha).2) (m3.2.2.2.1 184 (by decide)).1 (m3.2.2.2.1 187 (by decide)).2
        · rw [if_pos (show xand (xshr x (u : Int)) 1 = 1 by rw [bit_d (u6 ())]; exact hbt), fail_c d h, bI_k, if_pos (Or.inl rfl)] at ex
          have bo := bad_put (X := X) (Y := Y) 5 ((tkA f n i : Nat) : Int) (by decide)
          rw [hbt, if_neg (by decide), fail_m d h h0, bV_k, f_must d bo.1.pos, bV_k, f_parts d bo.1.pos] at em
          exact Or.inl ⟨_, _, false, _, ex, em, bo.2.1.k (q3 ()), bo.2.2, Or.inr (Or.inl ⟨rfl, bo.1⟩)⟩
      · have hp := a3.1.pos
        rw [a2, bI_k, if_neg (by omega), f_must d hp, bV_k, f_parts d hp] at em
        have tm : t = -1 := by
          by_cases c1 : t = -1
          · exact c1
          · exfalso
            have e := q_rd_takeNameOf t d X
            obtain ⟨X1, Y1, m1, m2, m3, m4⟩ := must_t d (h.n11 (v := t)) h0
            rw [rd_name d h.2.2.1, hn, bI_k, if_neg (by decide), if_neg c1, m1, bV_k, a1] at e
            simp at e
        rw [if_pos tm, a1, bI_k, if_pos rfl] at ex
        exact Or.inl ⟨X', Y', false, _, ex, em, a3.2.1.k (q3 ()), a3.2.2, Or.inr (Or.inl ⟨rfl, a3.1⟩)⟩
  · rw [hs, if_neg (by decide)] at ex
    have ct : ¬ tK f n (tkA f n i) = 1 := by
      unfold sgB at hs
      rw [Bool.and_eq_true, decide_eq_true_eq] at hs
      rw [hs.1]; decide
    rw [if_neg ct] at em
    exact Or.inl ⟨X, Y, true, x, ex, em, FZ.rfl.k (q3 ()), FW.rfl, Or.inl ⟨rfl, i, Nat.le_refl _, h, h0, hx, hb⟩⟩
theorem KO.pre {q j : Nat} {X1 Y1 X' Y' : Mem} {b : Bool} {s : Int} (h1 : FK q X X1) (h2 : FW Y Y1) (hj : i ≤ j) (h : KO d q X1 Y1 X' Y' f n T j b s) : KO d q X Y X' Y' f n T i b s := by
  obtain ⟨a1, a2, a3⟩ := h
  refine ⟨h1.tr a1, h2.tr a2, ?_⟩
  rcases a3 with ⟨e, j', e1, e2⟩ | a3
  · exact Or.inl ⟨e, j', Nat.le_trans hj e1, e2⟩
  · exact Or.inr a3
theorem k_loop {q c : Nat} (q1 : 39 < q) : ∀ (m i : Nat) (X Y : Mem) (x : Int), RT X Y f n T i → Y.1 179 12 = 0 → NP X Y c → X.1 q 3 = x → (0 ≤ x ∧ x ≤ 63) → cn6 x + m = 6 → ∃ X' Y' b s, E2 d r_er_parseKnown 4 [(1, vR 8 3), (2, vR 1 39), (3, vR 3 q), (4, vI ((cn6 x : Nat) : Int))] [] X = some (some (vI (b01 b)), X') ∧ E2 d r_m_readParts 2 [(0, vR 12 179), (1, vI x)] [] Y = some (some (vI s), Y') ∧ KO d q X Y X' Y' f n T i b s := by
  intro m
  induction m with
  | zero =>
    intro i X Y x h h0 hN hx hb hc
    rcases k_step d q1 h h0 hN hx hb with g | ⟨X2, Y2, t, t6, tb, _⟩
    · exact g
    · exfalso
      have e := cn6_s t6 tb
      have := cn6_le (xor32 x (xshl 1 (t : Int)))
      omega
  | succ m ih =>
    intro i X Y x h h0 hN hx hb hc
    rcases k_step d q1 h h0 hN hx hb with g | ⟨X2, Y2, t, t6, tb, e1, e2, e3, e4, e5, e6, e7, e8⟩
    · exact g
    · have e := cn6_s t6 tb
      have hi := h.2.1
      obtain ⟨X', Y', b, s, g1, g2, g3⟩ := ih (min (i + 1) T) X2 Y2 (xor32 x (xshl 1 (t : Int))) e3 e4 e5 e6 (or_63 hb (one_63 t t6)) (by omega)
      rw [e] at g1
      exact ⟨X', Y', b, s, e1.trans g1, e2.trans g2, g3.pre d e7 e8 (by omega)⟩
end Known
