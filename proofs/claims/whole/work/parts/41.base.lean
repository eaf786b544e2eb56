/-! layer C: what is used everywhere: loops, cut numbers, small methods in closed form -/
theorem bI_k {x : Int} {M : Mem} {f : Int → Mem → Option Res} : bI (some (some (vI x), M)) f = f x M := rfl
theorem bL_k {x : Int} {M : Mem} {f : Int → Mem → Option Res} : bL (some (some (vL x), M)) f = f x M := rfl
theorem bV_k {M : Mem} {f : Mem → Option Res} : bV (some (none, M)) f = f M := rfl
theorem bR_k {k a : Nat} {M : Mem} {f : Nat → Mem → Option Res} : bR k (some (some (vR k a), M)) f = f a M := bR_ok
theorem w32s {x : Int} (h : -2147483648 ≤ x ∧ x < 2147483648) : w32 x = x := w32_of h
theorem w64s {x : Int} (h : -9223372036854775808 ≤ x ∧ x < 9223372036854775808) : w64 x = x := w64_of h
theorem ycmp_lt {x y : Int} : (ycmp x y < 0) = (x < y) := by
  unfold ycmp; apply propext
  constructor
  · intro h
    by_cases h1 : y < x
    · rw [if_pos h1] at h; omega
    · rw [if_neg h1] at h
      by_cases h2 : x < y
      · exact h2
      · rw [if_neg h2] at h; omega
  · intro h
    rw [if_neg (by omega), if_pos h]; omega
theorem ycmp_gt {x y : Int} : (0 < ycmp x y) = (y < x) := by
  unfold ycmp; apply propext
  constructor
  · intro h
    by_cases h1 : y < x
    · exact h1
    · rw [if_neg h1] at h
      by_cases h2 : x < y
      · rw [if_pos h2] at h; omega
      · rw [if_neg h2] at h; omega
  · intro h
    rw [if_pos h]; omega
theorem ycmp_eq {x y : Int} : (ycmp x y = 0) = (x = y) := by
  unfold ycmp; apply propext
  constructor
  · intro h
    by_cases h1 : y < x
    · rw [if_pos h1] at h; omega
    · rw [if_neg h1] at h
      by_cases h2 : x < y
      · rw [if_pos h2] at h; omega
      · omega
  · intro h
    rw [if_neg (by omega), if_neg (by omega)]
theorem up_loop {P : Nat → Option Res} {r : Option Res} {n : Nat} (step : ∀ i, i < n → P i = P (i + 1)) (fin : P n = r) : ∀ i, i ≤ n → P i = r := by
  intro i hi
  obtain ⟨k, hk⟩ : ∃ k, i + k = n := ⟨n - i, by omega⟩
  induction k generalizing i with
  | zero =>
    have : i = n := by omega
    subst this; exact fin
  | succ k ih =>
    rw [step i (by omega)]
    exact ih (i + 1) (by omega) (by omega)
/-- so often, with the number of the turn -/
def itr {α : Type} (f : Nat → α → α) (x : α) : Nat → α
  | 0 => x
  | n + 1 => f n (itr f x n)
theorem itr_s {α : Type} {f : Nat → α → α} {x : α} {n : Nat} : itr f x (n + 1) = f n (itr f x n) := rfl
theorem itr_ind {α : Type} {f : Nat → α → α} {x : α} (P : Nat → α → Prop) (h0 : P 0 x) (n : Nat) (hs : ∀ i y, i < n → P i y → P (i + 1) (f i y)) : P n (itr f x n) := by
  have : ∀ k, k ≤ n → P k (itr f x k) := by
    intro k
    induction k with
    | zero => exact fun _ => h0
    | succ k ih => exact fun hk => hs k _ (by omega) (ih (by omega))
  exact this n (Nat.le_refl _)
theorem itr_congr {α : Type} {f g : Nat → α → α} {x : α} (n : Nat) (h : ∀ i y, i < n → f i y = g i y) : itr f x n = itr g x n := by
  have : ∀ k, k ≤ n → itr f x k = itr g x k := by
    intro k
    induction k with
    | zero => exact fun _ => rfl
    | succ k ih =>
      intro hk
      rw [itr_s, itr_s, ih (by omega)]
      exact h k _ (by omega)
  exact this n (Nat.le_refl _)
theorem up2_same {f : Nat → Nat → Int} {a k : Nat} {v : Int} : up2 f a k v a k = v := by unfold up2; exact if_pos ⟨rfl, rfl⟩
theorem up2_nk {f : Nat → Nat → Int} {a b k j : Nat} {v : Int} (h : j ≠ k) : up2 f a k v b j = f b j := by unfold up2; exact if_neg (fun q => h q.2)
theorem up2_na {f : Nat → Nat → Int} {a b k j : Nat} {v : Int} (h : b ≠ a) : up2 f a k v b j = f b j := by unfold up2; exact if_neg (fun q => h q.1)
theorem i01 {p : Prop} {hp : Decidable p} : ((@ite Int p hp 1 0) = 0) = ¬ p := by
  by_cases h : p
  · simp [h]
  · simp [h]
theorem i01' {p : Prop} {hp : Decidable p} : ((@ite Int p hp 1 0) = 0 ∨ (@ite Int p hp 1 0) = 1) := by
  by_cases h : p
  · simp [h]
  · simp [h]
theorem x_within (a b c : Int) (d : Nat) (M : Mem) : C2 d j_x_within [vL a, vI b, vI c] M = some (some (vI (if b ≤ a ∧ a ≤ c then 1 else 0)), M) := by
  rw [q_x_within]
  simp only [ycmp_lt, ycmp_gt]
  by_cases h1 : a < b
  · rw [if_pos h1, if_neg (by omega)]
  · by_cases h2 : c < a
    · rw [if_neg h1, if_pos h2, if_neg (by omega)]
    · rw [if_neg h1, if_neg h2, if_pos (by omega)]
theorem m_isIn (a b c : Int) (d : Nat) (M : Mem) : C2 d j_m_isIn [vL a, vL b, vL c] M = some (some (vI (if b ≤ a ∧ a ≤ c then 1 else 0)), M) := by
  rw [q_m_isIn]
  simp only [ycmp_lt, ycmp_gt]
  by_cases h1 : a < b
  · rw [if_pos h1, if_neg (by omega)]
  · by_cases h2 : c < a
    · rw [if_neg h1, if_pos h2, if_neg (by omega)]
    · rw [if_neg h1, if_neg h2, if_pos (by omega)]
theorem x_isTray (a : Int) (d : Nat) (M : Mem) : C2 d j_x_isTray [vI a] M = some (some (vI (if 0 ≤ a ∧ a ≤ 3 then 1 else 0)), M) := by
  rw [q_x_isTray, x_within, bI_k, if_pos i01']
theorem m_isTray (a : Int) (d : Nat) (M : Mem) : C2 d j_m_isTray [vR 12 179, vI a] M = some (some (vI (if 0 ≤ a ∧ a ≤ 3 then 1 else 0)), M) := by
  rw [q_m_isTray, m_isIn, bI_k, if_pos i01']
theorem mn_I (a b : Int) (d : Nat) (M : Mem) : C2 d j_math_min_I [vI a, vI b] M = some (some (vI (min a b)), M) := by
  rw [q_math_min_I]
  by_cases h : b < a
  · rw [if_pos h, show min a b = b by omega]
  · rw [if_neg h, show min a b = a by omega]
theorem mx_I (a b : Int) (d : Nat) (M : Mem) : C2 d j_math_max_I [vI a, vI b] M = some (some (vI (max a b)), M) := by
  rw [q_math_max_I]
  by_cases h : a < b
  · rw [if_pos h, show max a b = b by omega]
  · rw [if_neg h, show max a b = a by omega]
theorem mx_J (a b : Int) (d : Nat) (M : Mem) : C2 d j_math_max_J [vL a, vL b] M = some (some (vL (max a b)), M) := by
  rw [q_math_max_J]
  simp only [ycmp_lt]
  by_cases h : a < b
  · rw [if_pos h, show max a b = b by omega]
  · rw [if_neg h, show max a b = a by omega]
theorem x_answerIf (a : Int) (d : Nat) (M : Mem) : C2 d j_x_answerIf [vR 11 0, vI a] M = some (some (vI (if a = 0 then 0 else 1)), putI M 0 0 0) := by
  rw [q_x_answerIf, q_x_answer, q_x_answer, bI_k, bI_k]
  by_cases h : a = 0
  · rw [if_pos h, if_pos h]
  · rw [if_neg h, if_neg h]
theorem x_answerOr (a : Int) (d : Nat) (M : Mem) : C2 d j_x_answerOrNothing [vR 11 0, vI a] M = some (some (vI a), putI M 0 0 (if a = -1 then 8 else 0)) := by
  rw [q_x_answerOrNothing, q_x_answer, q_x_refuse, bI_k, bI_k]
  by_cases h : a = -1
  · rw [if_pos h, if_pos h, h]
  · rw [if_neg h, if_neg h]
/-- where two memories say the same: all cells but the two objects' own -/
def SameB (M M' : Mem) : Prop := ∀ a, a ≠ 0 → a ≠ 179 → M'.1 a = M.1 a ∧ M'.2.1 a = M.2.1 a
theorem SameB.rfl {M : Mem} : SameB M M := fun _ _ _ => ⟨Eq.refl _, Eq.refl _⟩
theorem SameB.tr {M N K : Mem} (h : SameB M N) (g : SameB N K) : SameB M K := fun a h0 h1 => ⟨(g a h0 h1).1.trans (h a h0 h1).1, (g a h0 h1).2.trans (h a h0 h1).2⟩
theorem SameB.i0 {M N : Mem} {k : Nat} {v : Int} (h : SameB M N) : SameB M (putI N 0 k v) := h.tr fun _ h0 _ => ⟨up2_ne h0, Eq.refl _⟩
theorem SameB.i1 {M N : Mem} {k : Nat} {v : Int} (h : SameB M N) : SameB M (putI N 179 k v) := h.tr fun _ _ h1 => ⟨up2_ne h1, Eq.refl _⟩
theorem SameB.l0 {M N : Mem} {k : Nat} {v : Int} (h : SameB M N) : SameB M (putL N 0 k v) := h.tr fun _ h0 _ => ⟨Eq.refl _, up2_ne h0⟩
theorem SameB.l1 {M N : Mem} {k : Nat} {v : Int} (h : SameB M N) : SameB M (putL N 179 k v) := h.tr fun _ _ h1 => ⟨Eq.refl _, up2_ne h1⟩
