/-! who bears a name -/
def fnd (g : Nat → Int) (w : Int) : Nat → Nat → Int
  | 0, _ => -1
  | j + 1, p => if g p = w then (p : Int) else fnd g w j (p + 1)
theorem fnd_b {g : Nat → Int} {w : Int} : ∀ j p : Nat, fnd g w j p = -1 ∨ ((p : Int) ≤ fnd g w j p ∧ fnd g w j p < ((p + j : Nat) : Int))
  | 0, _ => Or.inl rfl
  | j + 1, p => by
    show (if g p = w then (p : Int) else fnd g w j (p + 1)) = -1 ∨ ((p : Int) ≤ (if g p = w then (p : Int) else fnd g w j (p + 1)) ∧ (if g p = w then (p : Int) else fnd g w j (p + 1)) < ((p + (j + 1) : Nat) : Int))
    by_cases c : g p = w
    · rw [if_pos c]; omega
    · rw [if_neg c]
      have := fnd_b (g := g) (w := w) j (p + 1)
      omega
theorem fnd_c {g g' : Nat → Int} {w : Int} : ∀ j p : Nat, (∀ q, p ≤ q → q < p + j → g q = g' q) → fnd g w j p = fnd g' w j p
  | 0, _, _ => rfl
  | j + 1, p, h => by
    show (if g p = w then (p : Int) else fnd g w j (p + 1)) = (if g' p = w then (p : Int) else fnd g' w j (p + 1))
    rw [h p (by omega) (by omega), fnd_c j (p + 1) (fun q h1 h2 => h q (by omega) (by omega))]
section Find
variable (d : Nat) {f : Nat → Int} {n T i : Nat} {X Y : Mem}
theorem c_part {e m : Nat} (hm : X.1 e 7 = (m : Int)) (h6 : m ≤ 6) (w : Int) : C2 d j_em_findPart [vR 1 e, vL w] X = some (some (vI (fnd (fun p => X.2.1 ((e + 1) + 9 + 1 * p) 0) w m 0)), X) := by
  have key : ∀ j p : Nat, p + j = m → E2 d r_em_findPart 2 [(0, vR 1 e), (1, vL w), (3, vI (p : Int))] [] X = some (some (vI (fnd (fun p => X.2.1 ((e + 1) + 9 + 1 * p) 0) w j p)), X) := by
    intro j
    induction j with
    | zero => intro p hp; rw [q_em_findPart_2, hm, if_neg (by omega)]; rfl
    | succ j ih =>
      intro p hp
      rw [q_em_findPart_2, hm, if_pos (by omega), if_pos (by omega), Int.toNat_natCast, w32n (by omega), ih (p + 1) (by omega)]
      show _ = some (some (vI (if X.2.1 ((e + 1) + 9 + 1 * p) 0 = w then (p : Int) else fnd _ w j (p + 1))), X)
      by_cases c : X.2.1 ((e + 1) + 9 + 1 * p) 0 = w
      · rw [if_pos (show ycmp (X.2.1 ((e + 1) + 9 + 1 * p) 0) w = 0 by rw [ycmp_eq]; exact c), if_pos c]
      · rw [if_neg (show ¬ ycmp (X.2.1 ((e + 1) + 9 + 1 * p) 0) w = 0 by rw [ycmp_eq]; exact c), if_neg c]
  rw [q_em_findPart]
  exact key m 0 (by omega)
theorem c_hand {e m : Nat} (hm : X.1 e 8 = (m : Int)) (h6 : m ≤ 8) (w : Int) : C2 d j_em_findHand [vR 1 e, vL w] X = some (some (vI (fnd (fun p => X.2.1 ((e + 2) + 14 + 1 * p) 0) w m 0)), X) := by
  have key : ∀ j p : Nat, p + j = m → E2 d r_em_findHand 2 [(0, vR 1 e), (1, vL w), (3, vI (p : Int))] [] X = some (some (vI (fnd (fun p => X.2.1 ((e + 2) + 14 + 1 * p) 0) w j p)), X) := by
    intro j
    induction j with
    | zero => intro p hp; rw [q_em_findHand_2, hm, if_neg (by omega)]; rfl
    | succ j ih =>
      intro p hp
      rw [q_em_findHand_2, hm, if_pos (by omega), if_pos (by omega), Int.toNat_natCast, w32n (by omega), ih (p + 1) (by omega)]
      show _ = some (some (vI (if X.2.1 ((e + 2) + 14 + 1 * p) 0 = w then (p : Int) else fnd _ w j (p + 1))), X)
      by_cases c : X.2.1 ((e + 2) + 14 + 1 * p) 0 = w
      · rw [if_pos (show ycmp (X.2.1 ((e + 2) + 14 + 1 * p) 0) w = 0 by rw [ycmp_eq]; exact c), if_pos c]
      · rw [if_neg (show ¬ ycmp (X.2.1 ((e + 2) + 14 + 1 * p) 0) w = 0 by rw [ycmp_eq]; exact c), if_neg c]
  rw [q_em_findHand]
  exact key m 0 (by omega)
/-- where the words of a sort begin -/
def stW (k : Nat) : Nat := if k = 0 then 0 else if k = 1 then 6 else 14
theorem m_stW {M : Mem} {k : Nat} (hk : k ≤ 2) : C2 d j_m_start [vI (k : Int)] M = some (some (vI ((stW k : Nat) : Int)), M) := by
  rw [q_m_start]
  have : k = 0 ∨ k = 1 ∨ k = 2 := by omega
  rcases this with g | g | g <;> subst g <;> rfl
theorem m_nam {b k m : Nat} (hb : b ≤ 4) (hk : k ≤ 2) (hm : Y.1 184 (345 * b + k) = (m : Int)) (h4 : stW k + m ≤ 18) : C2 d j_m_named [vR 12 179, vI (b : Int), vI (k : Int)] Y = some (some (vI (fnd (fun p => Y.2.1 187 (18 * b + stW k + p)) (Y.2.1 179 19) m 0)), Y) := by
  have w1 : w32 (w32 (345 * (b : Int)) + k) = ((345 * b + k : Nat) : Int) := by rw [w32s (x := 345 * (b : Int)) (by omega), w32s (by omega)]; omega
  have key : ∀ j p : Nat, p + j = m → E2 d r_m_named 2 [(0, vR 12 179), (1, vI (b : Int)), (2, vI (k : Int)), (3, vI (p : Int))] [] Y = some (some (vI (fnd (fun p => Y.2.1 187 (18 * b + stW k + p)) (Y.2.1 179 19) j p)), Y) := by
    intro j
    induction j with
    | zero => intro p hp; rw [q_m_named_2, w1, if_pos (by omega), Int.toNat_natCast, hm, if_neg (by omega)]; rfl
    | succ j ih =>
      intro p hp
      have w2 : w32 (w32 (w32 (18 * (b : Int)) + ((stW k : Nat) : Int)) + p) = ((18 * b + stW k + p : Nat) : Int) := by
        rw [w32s (x := 18 * (b : Int)) (by omega), w32s (x := 18 * (b : Int) + ((stW k : Nat) : Int)) (by omega), w32s (by omega)]; omega
      rw [q_m_named_2, w1, if_pos (by omega), Int.toNat_natCast, hm, if_pos (by omega), m_stW d hk, bI_k, w2, if_pos (by omega), Int.toNat_natCast, w32n (by omega), ih (p + 1) (by omega)]
      show _ = some (some (vI (if Y.2.1 187 (18 * b + stW k + p) = Y.2.1 179 19 then (p : Int) else fnd _ _ j (p + 1))), Y)
      by_cases c : Y.2.1 187 (18 * b + stW k + p) = Y.2.1 179 19
      · rw [if_pos (show ycmp (Y.2.1 187 (18 * b + stW k + p)) (Y.2.1 179 19) = 0 by rw [ycmp_eq]; exact c), if_pos c]
      · rw [if_neg (show ¬ ycmp (Y.2.1 187 (18 * b + stW k + p)) (Y.2.1 179 19) = 0 by rw [ycmp_eq]; exact c), if_neg c]
  rw [q_m_named]
  exact key m 0 (by omega)
/-- a name is one word on both sides -/
theorem nm_word (h : RT X Y f n T i) (hb : nmB f n (tkA f n i) = true) : Y.2.1 179 19 = X.2.1 3 9 := by
  unfold nmB at hb
  rw [Bool.and_eq_true, Bool.and_eq_true, decide_eq_true_eq, decide_eq_true_eq, decide_eq_true_eq] at hb
  obtain ⟨c1, c2, c3⟩ := hb
  rw [h.2.2.1.2.2.1, (h.2.2.2.2.2.2.2.1 c1).2, if_pos c2]
  unfold wdF
  rw [if_pos c1, if_pos c2]
/-- nothing is done where a fault stands -/
theorem f_must (h : 0 < Y.1 179 12) (x : Int) : C2 d j_m_must [vR 12 179, vI x] Y = some (none, Y) := by rw [q_m_must, if_pos h]
theorem f_perh (h : 0 < Y.1 179 12) (x : Int) : C2 d j_m_perhaps [vR 12 179, vI x] Y = some (some (vI 0), Y) := by rw [q_m_perhaps, if_pos h]
theorem f_count (h : 0 < Y.1 179 12) (a b : Int) : C2 d j_m_count [vR 12 179, vI a, vI b] Y = some (some (vI 0), Y) := by
  rw [q_m_count, if_neg (by omega), if_neg (by omega), if_pos h]
theorem f_told (h : 0 < Y.1 179 12) (a b : Int) : C2 d j_m_told [vR 12 179, vI a, vI b] Y = some (some (vI 0), Y) := by
  rw [q_m_told, if_neg (by omega), if_pos h]
theorem f_readTold (h : 0 < Y.1 179 12) (a b : Int) : C2 d j_m_readTold [vR 12 179, vI a, vI b] Y = some (some (vI 0), Y) := by
  rw [q_m_readTold, f_told d h, bI_k, f_must d h, bV_k]
theorem f_behind (h : 0 < Y.1 179 12) (x a b : Int) : C2 d j_m_behindWord [vR 12 179, vI x, vI a, vI b] Y = some (some (vI 0), Y) := by
  rw [q_m_behindWord, f_must d h, bV_k, f_count d h, bI_k]
theorem Bad.pos (h : Bad X Y) : 0 < Y.1 179 12 := by
  obtain ⟨p, q, p0, _, _, p3, _⟩ := h
  omega
/-- what a name tells, before it is taken -/
theorem t_told (h : RT X Y f n T i) (h0 : Y.1 179 12 = 0) (a b t : Int) (ht : -1 ≤ t) (hn : C2 d j_m_named [vR 12 179, vI a, vI b] Y = some (some (vI t), Y)) : (nmB f n (tkA f n i) = true ∧ 0 ≤ t ∧ C2 d j_m_told [vR 12 179, vI a, vI b] Y = some (some (vI t), Y)) ∨ (∃ X' Y', C2 d j_rd_takeNameOf [vR 8 3, vI t] X = some (some (vI 0), X') ∧ C2 d j_m_told [vR 12 179, vI a, vI b] Y = some (some (vI 0), Y') ∧ BdO X Y X' Y') := by
  have hy := h.2.2.2.2
  cases hb : nmB f n (tkA f n i)
  · obtain ⟨X', Y', a1, a2, a3⟩ := mis d h h0
    have hp := a3.1.pos
    refine Or.inr ⟨X', Y', ?_, ?_, a3⟩
    · rw [q_rd_takeNameOf, rd_name d h.2.2.1, hb, bI_k, if_pos b01_f, a1, bI_k, if_pos (Or.inl rfl)]
    · rw [q_m_told, if_pos h0, is_name d hy, hb, bI_k, if_pos b01_f, a2, bV_k, if_pos hp]
  · by_cases ct : t = -1
    · refine Or.inr ⟨_, _, ?_, ?_, bad_put 3 ((tkA f n i : Nat) : Int) (by decide)⟩
      · rw [q_rd_takeNameOf, rd_name d h.2.2.1, hb, bI_k, if_neg (by decide), if_pos ct, fail_c d h, bI_k, if_pos (Or.inl rfl)]
      · rw [q_m_told, if_pos h0, is_name d hy, hb, bI_k, if_neg (by decide), if_neg (by omega), hn, bI_k, if_pos (by omega), fail_m d h h0, bV_k, mx_I, bI_k, ct]
        rfl
    · refine Or.inl ⟨rfl, by omega, ?_⟩
      rw [q_m_told, if_pos h0, is_name d hy, hb, bI_k, if_neg (by decide), if_neg (by omega), hn, bI_k, if_neg (by omega), mx_I, bI_k, show max 0 t = t by omega]
/-- a name is taken -/
theorem t_name (h : RT X Y f n T i) (h0 : Y.1 179 12 = 0) (a b t : Int) (ht : -1 ≤ t) (hn : C2 d j_m_named [vR 12 179, vI a, vI b] Y = some (some (vI t), Y)) : ∃ X' Y' g v, C2 d j_rd_takeNameOf [vR 8 3, vI t] X = some (some (vI (b01 g)), X') ∧ C2 d j_m_readTold [vR 12 179, vI a, vI b] Y = some (some (vI v), Y') ∧ ((g = true ∧ GdO X Y X' Y' f n T (min (i + 1) T) ∧ X'.1 3 11 = v ∧ v = t ∧ 0 ≤ t) ∨ (g = false ∧ v = 0 ∧ BdO X Y X' Y')) := by
  rcases t_told d h h0 a b t ht hn with ⟨c1, c2, c3⟩ | ⟨X', Y', c1, c2, c3⟩
  · obtain ⟨X', Y', a1, a2, a3, a4⟩ := must_t d (h.n11 (v := t)) h0
    refine ⟨X', Y', true, t, ?_, ?_, Or.inl ⟨rfl, ⟨a3.1, a3.2.1, FZ.p.tr a3.2.2.1, a3.2.2.2⟩, ?_, rfl, c2⟩⟩
    · rw [q_rd_takeNameOf, rd_name d h.2.2.1, c1, bI_k, if_neg (by decide), if_neg (by omega), a1, bV_k]; rfl
    · rw [q_m_readTold, c3, bI_k, a2, bV_k]
    · rw [a4.2.1 11 (by decide) (by decide) (by decide) (by decide)]; exact pI_s
  · refine ⟨X', Y', false, 0, c1, ?_, Or.inr ⟨rfl, rfl, c3⟩⟩
    rw [q_m_readTold, c2, bI_k, f_must d c3.1.pos, bV_k]
end Find
