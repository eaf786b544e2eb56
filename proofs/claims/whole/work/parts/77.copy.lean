/-! an empire copied -/
def Fo (p0 : Nat) (M N : Mem) : Prop := ∀ a, ¬ (p0 ≤ a ∧ a < p0 + 28) → N.1 a = M.1 a ∧ N.2.1 a = M.2.1 a
def Cq (p0 p1 : Nat) (M N : Mem) (S : Nat → Nat → Prop) (T : Nat → Prop) : Prop := Fo p0 M N ∧ (∀ o k, o < 28 → S o k → N.1 (p0 + o) k = M.1 (p1 + o) k) ∧ (∀ o, o < 28 → T o → N.2.1 (p0 + o) 0 = M.2.1 (p1 + o) 0)
def Dj (p0 p1 : Nat) : Prop := p0 + 28 ≤ p1 ∨ p1 + 28 ≤ p0
section Cpy
variable {p0 p1 : Nat} {M N : Mem} {S : Nat → Nat → Prop} {T : Nat → Prop}
theorem Cq.src (h : Cq p0 p1 M N S T) (hd : Dj p0 p1) {o : Nat} (ho : o < 28) : N.1 (p1 + o) = M.1 (p1 + o) ∧ N.2.1 (p1 + o) = M.2.1 (p1 + o) := h.1 _ (by unfold Dj at hd; omega)
theorem Cq.i (h : Cq p0 p1 M N S T) (hd : Dj p0 p1) (o k : Nat) (ho : o < 28) {a b : Nat} (ha : a = p0 + o) (hb : b = p1 + o) : Cq p0 p1 M (putI N a k (N.1 b k)) (fun x y => S x y ∨ (x = o ∧ y = k)) T := by
  subst ha hb
  rw [(h.src hd ho).1]
  refine ⟨fun c hc => ?_, fun o' k' ho' hs => ?_, h.2.2⟩
  · rw [pI_ne (by omega)]; exact h.1 c hc
  · by_cases c : o' = o ∧ k' = k
    · rw [c.1, c.2, pI_s]
    · rcases hs with hs | hs
      · have : (putI N (p0 + o) k (M.1 (p1 + o) k)).1 (p0 + o') k' = N.1 (p0 + o') k' := by
          by_cases c1 : o' = o
          · exact pI_nk (fun q => c ⟨c1, q⟩)
          · rw [pI_ne (by omega)]
        rw [this]; exact h.2.1 o' k' ho' hs
      · exact absurd hs c
theorem Cq.l (h : Cq p0 p1 M N S T) (hd : Dj p0 p1) (o : Nat) (ho : o < 28) {a b : Nat} (ha : a = p0 + o) (hb : b = p1 + o) : Cq p0 p1 M (putL N a 0 (N.2.1 b 0)) S (fun x => T x ∨ x = o) := by
  subst ha hb
  rw [(h.src hd ho).2]
  refine ⟨fun c hc => ?_, h.2.1, fun o' ho' hs => ?_⟩
  · rw [pL_ne (by omega)]; exact h.1 c hc
  · by_cases c : o' = o
    · rw [c, pL_s]
    · rcases hs with hs | hs
      · rw [pL_ne (by omega)]; exact h.2.2 o' ho' hs
      · exact absurd hs c
theorem Cq.r (h : Cq p0 p1 M N S T) (hd : Dj p0 p1) (o n : Nat) (ho : o < 28) {a b : Nat} (ha : a = p0 + o) (hb : b = p1 + o) : Cq p0 p1 M ((fun x j => if x = a ∧ 0 ≤ j ∧ j < 0 + n then N.1 b (0 + (j - 0)) else N.1 x j, N.2) : Mem) (fun x y => S x y ∨ (x = o ∧ y < n)) T := by
  subst ha hb
  rw [(h.src hd ho).1]
  refine ⟨fun c hc => ⟨funext fun j => ?_, (h.1 c hc).2⟩, fun o' k' ho' hs => ?_, h.2.2⟩
  · show (if c = p0 + o ∧ 0 ≤ j ∧ j < 0 + n then M.1 (p1 + o) (0 + (j - 0)) else N.1 c j) = M.1 c j
    rw [if_neg (by omega), (h.1 c hc).1]
  · show (if p0 + o' = p0 + o ∧ 0 ≤ k' ∧ k' < 0 + n then M.1 (p1 + o) (0 + (k' - 0)) else N.1 (p0 + o') k') = M.1 (p1 + o') k'
    by_cases c : o' = o ∧ k' < n
    · rw [if_pos (by omega), c.1, Nat.zero_add, Nat.sub_zero]
    · rw [if_neg (by omega)]
      rcases hs with hs | hs
      · exact h.2.1 o' k' ho' hs
      · exact absurd hs c
theorem Cq.w (h : Cq p0 p1 M N S T) {S' : Nat → Nat → Prop} {T' : Nat → Prop} (hS : ∀ x y, S' x y → S x y) (hT : ∀ x, T' x → T x) : Cq p0 p1 M N S' T' := ⟨h.1, fun o k ho hs => h.2.1 o k ho (hS o k hs), fun o ho ht => h.2.2 o ho (hT o ht)⟩
def CpR (p0 p1 : Nat) (M N : Mem) : Prop :=
  (∀ k, k < 10 → N.1 p0 k = M.1 p1 k) ∧
  (∀ p : Nat, (p : Int) < M.1 p1 7 → (∀ k, 1 ≤ k → k ≤ 3 → N.1 ((p0 + 1) + 9 + 1 * p) k = M.1 ((p1 + 1) + 9 + 1 * p) k) ∧ N.2.1 ((p0 + 1) + 9 + 1 * p) 0 = M.2.1 ((p1 + 1) + 9 + 1 * p) 0) ∧
  (∀ p : Nat, (p : Int) < M.1 p1 8 → (∀ k, 1 ≤ k → k ≤ 4 → N.1 ((p0 + 2) + 14 + 1 * p) k = M.1 ((p1 + 2) + 14 + 1 * p) k) ∧ N.2.1 ((p0 + 2) + 14 + 1 * p) 0 = M.2.1 ((p1 + 2) + 14 + 1 * p) 0) ∧
  (∀ p : Nat, (p : Int) < M.1 p1 9 → ∀ k, 1 ≤ k → k ≤ 2 → N.1 ((p0 + 3) + 21 + 1 * p) k = M.1 ((p1 + 3) + 21 + 1 * p) k) ∧
  (∀ k, 5 ≤ k → k ≤ 7 → N.1 (p0 + 4) k = M.1 (p1 + 4) k) ∧
  (∀ i r : Nat, 1 ≤ i → i ≤ 5 → (r : Int) < M.1 (p1 + 4) 5 → N.1 ((p0 + 4) + i) r = M.1 ((p1 + 4) + i) r)
/-- what is copied -/
def S1 : Nat → Nat → Prop := fun x y => x = 0 ∧ y < 10
def S2 (n : Nat) : Nat → Nat → Prop := fun x y => S1 x y ∨ (10 ≤ x ∧ x < 10 + n ∧ 1 ≤ y ∧ y ≤ 3)
def S3 (n m : Nat) : Nat → Nat → Prop := fun x y => S2 n x y ∨ (16 ≤ x ∧ x < 16 + m ∧ 1 ≤ y ∧ y ≤ 4)
def S4 (n m s : Nat) : Nat → Nat → Prop := fun x y => S3 n m x y ∨ (24 ≤ x ∧ x < 24 + s ∧ 1 ≤ y ∧ y ≤ 2)
def T2 (n : Nat) : Nat → Prop := fun x => 10 ≤ x ∧ x < 10 + n
def T3 (n m : Nat) : Nat → Prop := fun x => T2 n x ∨ (16 ≤ x ∧ x < 16 + m)
theorem cp_0 (hd : Dj p0 p1) (d : Nat) : ∃ N, C2 d j_em_copyFrom [vR 1 p0, vR 1 p1] M = E2 d r_em_copyFrom 42 [(0, vR 1 p0), (1, vR 1 p1), (2, vI 0)] [] N ∧ Cq p0 p1 M N S1 (fun _ => False) := by
  have h0 : Cq p0 p1 M M (fun _ _ => False) (fun _ => False) := ⟨fun _ _ => ⟨rfl, rfl⟩, fun _ _ _ h => h.elim, fun _ _ h => h.elim⟩
  refine ⟨_, q_em_copyFrom p0 p1 d M, ?_⟩
  have h9 := (((((((((h0.i hd 0 0 (by decide) (a := p0) (b := p1) rfl rfl).i hd 0 1 (by decide) (a := p0) (b := p1) rfl rfl).i hd 0 2 (by decide) (a := p0) (b := p1) rfl rfl).i hd 0 3 (by decide) (a := p0) (b := p1) rfl rfl).i hd 0 4 (by decide) (a := p0) (b := p1) rfl rfl).i hd 0 5 (by decide) (a := p0) (b := p1) rfl rfl).i hd 0 6 (by decide) (a := p0) (b := p1) rfl rfl).i hd 0 7 (by decide) (a := p0) (b := p1) rfl rfl).i hd 0 8 (by decide) (a := p0) (b := p1) rfl rfl).i hd 0 9 (by decide) (a := p0) (b := p1) rfl rfl
  refine h9.w (fun x y h => ?_) (fun _ h => h)
  unfold S1 at h
  simp only [false_or]
  omega
end Cpy
