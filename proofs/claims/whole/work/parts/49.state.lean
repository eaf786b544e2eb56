/-! the reference's numbers as a function that is set; an empire of the class, one number set -/
def setC (M : Mem) (W : Nat → Int) : Mem := (fun b j => if b = 184 then W j else M.1 b j, M.2)
def up1 (W : Nat → Int) (k : Nat) (v : Int) : Nat → Int := fun j => if j = k then v else W j
theorem up1_s {W : Nat → Int} {k : Nat} {v : Int} : up1 W k v k = v := if_pos rfl
theorem up1_n {W : Nat → Int} {k j : Nat} {v : Int} (h : j ≠ k) : up1 W k v j = W j := if_neg h
theorem set_at {M : Mem} {W : Nat → Int} {k : Nat} : (setC M W).1 184 k = W k := by
  show (if 184 = 184 then W k else M.1 184 k) = W k
  rfl
theorem mV_set {M : Mem} {W : Nat → Int} : mV (setC M W) = W := funext fun _ => set_at
theorem set_ne {M : Mem} {W : Nat → Int} {a : Nat} (h : a ≠ 184) : (setC M W).1 a = M.1 a := funext fun _ => if_neg h
theorem set_set {M : Mem} {W U : Nat → Int} : setC (setC M W) U = setC M U := by
  unfold setC
  refine Prod.ext (funext fun b => funext fun j => ?_) rfl
  by_cases h : b = 184
  · simp only [h, if_true]
  · simp only [h, if_false]
theorem set_self {M : Mem} : setC M (mV M) = M := by
  unfold setC mV
  refine Prod.ext (funext fun b => funext fun j => ?_) rfl
  by_cases h : b = 184
  · simp only [h, if_true]
  · simp only [h, if_false]
theorem put_set {M : Mem} {W : Nat → Int} {k : Nat} {v : Int} : putI (setC M W) 184 k v = setC M (up1 W k v) := by
  unfold setC up1
  refine Prod.ext (funext fun b => funext fun j => ?_) rfl
  show up2 _ 184 k v b j = _
  unfold up2
  by_cases h : b = 184
  · subst h
    by_cases h2 : j = k
    · simp only [h2, and_self, if_true]
    · simp only [h2, and_false, if_false, if_true]
  · simp only [h, false_and, if_false]
theorem put_set0 {M : Mem} {k : Nat} {v : Int} : putI M 184 k v = setC M (up1 (mV M) k v) := by rw [← put_set, set_self]
/-- loops that change the memory -/
theorem ex_loop {α : Type} {P : Nat → α → Option Res} {R : Option Res → Prop} (Q : Nat → α → Prop) (n : Nat) (step : ∀ i s, i < n → Q i s → ∃ s', P i s = P (i + 1) s' ∧ Q (i + 1) s') (fin : ∀ s, Q n s → R (P n s)) : ∀ s, Q 0 s → R (P 0 s) := by
  have key : ∀ k i s, i + k = n → Q i s → R (P i s) := by
    intro k
    induction k with
    | zero =>
      intro i s hi hq
      have : i = n := by omega
      subst this
      exact fin s hq
    | succ k ih =>
      intro i s hi hq
      obtain ⟨s', h1, h2⟩ := step i s (by omega) hq
      rw [h1]
      exact ih (i + 1) s' (by omega) h2
  exact fun s hq => key n 0 s (by omega) hq
theorem sWr_c {V W : Nat → Int} (h0 : W 0 = V 0) (h : ∀ p : Nat, (p : Int) < V 0 → W (21 + p) = V (21 + p)) : sWr W = sWr V := by
  unfold sWr
  rw [h0]
  apply un_congr
  · intro i hi; rw [h i (by omega)]
  · intros; rfl
theorem Rl.fld {M : Mem} {e : Nat} {V : Nat → Int} (h : Rl M e V) {k j : Nat} (hj : (k = 0 ∧ j = 3) ∨ (k = 1 ∧ j = 4) ∨ (k = 2 ∧ j = 5) ∨ (k = 3 ∧ j = 6) ∨ (k = 4 ∧ j = 7) ∨ (k = 5 ∧ j = 8)) (x : Int) : Rl (putI M e k x) e (up1 V j x) := by
  obtain ⟨hc, hs, hp, hh, hq⟩ := h
  have hc' := hc
  unfold Wc at hc'
  have hA : ∀ a, a ≠ e → (putI M e k x).1 a = M.1 a := fun a ha => up2_ne ha
  have hU : ∀ i, 9 ≤ i ∨ i < 3 → up1 V j x i = V i := fun i hi => up1_n (by omega)
  refine ⟨?_, ?_, ?_, ?_, ?_⟩
  · unfold Wc
    rw [hU 0 (by omega), hU 1 (by omega), hU 2 (by omega)]; exact hc'
  · rw [hU 0 (by omega), hU 1 (by omega), hU 2 (by omega), sWr_c (V := V) (hU 0 (by omega)) (fun p _ => hU _ (by omega))]
    rcases hj with ⟨rfl, rfl⟩ | ⟨rfl, rfl⟩ | ⟨rfl, rfl⟩ | ⟨rfl, rfl⟩ | ⟨rfl, rfl⟩ | ⟨rfl, rfl⟩ <;> simp [up2, up1, hs]
  · intro p h1
    rw [hU 0 (by omega)] at h1
    rw [hA _ (by omega), hU _ (by omega), hU _ (by omega), hU _ (by omega)]; exact hp p h1
  · intro p h1
    rw [hU 1 (by omega)] at h1
    rw [hA _ (by omega), hU _ (by omega), hU _ (by omega), hU _ (by omega), hU _ (by omega)]; exact hh p h1
  · intro p h1
    rw [hU 2 (by omega)] at h1
    rw [hA _ (by omega), hU _ (by omega), hU _ (by omega)]; exact hq p h1
theorem Rl.rust {M : Mem} {e : Nat} {V : Nat → Int} (h : Rl M e V) {p : Nat} (hp0 : (p : Int) < V 0) (x : Int) : Rl (putI M ((e + 1) + 9 + 1 * p) 3 x) e (up1 V (27 + p) x) := by
  obtain ⟨hc, hs, hp, hh, hq⟩ := h
  have hc' := hc
  unfold Wc at hc'
  have hA : ∀ a, a ≠ (e + 1) + 9 + 1 * p → (putI M ((e + 1) + 9 + 1 * p) 3 x).1 a = M.1 a := fun a ha => up2_ne ha
  have hU : ∀ i, i ≠ 27 + p → up1 V (27 + p) x i = V i := fun i hi => up1_n hi
  refine ⟨?_, ?_, ?_, ?_, ?_⟩
  · unfold Wc
    rw [hU 0 (by omega), hU 1 (by omega), hU 2 (by omega)]; exact hc'
  · rw [hU 0 (by omega), hU 1 (by omega), hU 2 (by omega), hU 3 (by omega), hU 4 (by omega), hU 5 (by omega), hU 6 (by omega), hU 7 (by omega), hU 8 (by omega), sWr_c (V := V) (hU 0 (by omega)) (fun p _ => hU _ (by omega)), hA _ (by omega)]
    exact hs
  · intro q h1
    rw [hU 0 (by omega)] at h1
    rw [hU (9 + q) (by omega), hU (15 + q) (by omega)]
    by_cases c : q = p
    · subst c
      rw [up1_s]
      exact ⟨(up2_nk (by omega)).trans (hp q h1).1, (up2_nk (by omega)).trans (hp q h1).2.1, up2_same⟩
    · rw [hA _ (by omega), hU _ (by omega)]; exact hp q h1
  · intro q h1
    rw [hU 1 (by omega)] at h1
    rw [hA _ (by omega), hU _ (by omega), hU _ (by omega), hU _ (by omega), hU _ (by omega)]; exact hh q h1
  · intro q h1
    rw [hU 2 (by omega)] at h1
    rw [hA _ (by omega), hU _ (by omega), hU _ (by omega)]; exact hq q h1
theorem Rl.hnd {M : Mem} {e : Nat} {V : Nat → Int} (h : Rl M e V) {p k j : Nat} (hj : (k = 1 ∧ j = 33) ∨ (k = 2 ∧ j = 41) ∨ (k = 3 ∧ j = 49) ∨ (k = 4 ∧ j = 57)) (hp0 : (p : Int) < V 1) (x : Int) : Rl (putI M ((e + 2) + 14 + 1 * p) k x) e (up1 V (j + p) x) := by
  obtain ⟨hc, hs, hp, hh, hq⟩ := h
  have hc' := hc
  unfold Wc at hc'
  have hA : ∀ a, a ≠ (e + 2) + 14 + 1 * p → (putI M ((e + 2) + 14 + 1 * p) k x).1 a = M.1 a := fun a ha => up2_ne ha
  have hU : ∀ i, i ≠ j + p → up1 V (j + p) x i = V i := fun i hi => up1_n hi
  refine ⟨?_, ?_, ?_, ?_, ?_⟩
  · unfold Wc
    rw [hU 0 (by omega), hU 1 (by omega), hU 2 (by omega)]; exact hc'
  · rw [hU 0 (by omega), hU 1 (by omega), hU 2 (by omega), hU 3 (by omega), hU 4 (by omega), hU 5 (by omega), hU 6 (by omega), hU 7 (by omega), hU 8 (by omega), sWr_c (V := V) (hU 0 (by omega)) (fun p _ => hU _ (by omega)), hA _ (by omega)]
    exact hs
  · intro q h1
    rw [hU 0 (by omega)] at h1
    rw [hA _ (by omega), hU _ (by omega), hU _ (by omega), hU _ (by omega)]; exact hp q h1
  · intro q h1
    rw [hU 1 (by omega)] at h1
    by_cases c : q = p
    · subst c
      have h2 := hh q h1
      rcases hj with ⟨rfl, rfl⟩ | ⟨rfl, rfl⟩ | ⟨rfl, rfl⟩ | ⟨rfl, rfl⟩
      · rw [hU (41 + q) (by omega), hU (49 + q) (by omega), hU (57 + q) (by omega), up1_s]
        exact ⟨up2_same, (up2_nk (by omega)).trans h2.2.1, (up2_nk (by omega)).trans h2.2.2.1, (up2_nk (by omega)).trans h2.2.2.2⟩
      · rw [hU (33 + q) (by omega), hU (49 + q) (by omega), hU (57 + q) (by omega), up1_s]
        exact ⟨(up2_nk (by omega)).trans h2.1, up2_same, (up2_nk (by omega)).trans h2.2.2.1, (up2_nk (by omega)).trans h2.2.2.2⟩
      · rw [hU (33 + q) (by omega), hU (41 + q) (by omega), hU (57 + q) (by omega), up1_s]
        exact ⟨(up2_nk (by omega)).trans h2.1, (up2_nk (by omega)).trans h2.2.1, up2_same, (up2_nk (by omega)).trans h2.2.2.2⟩
      · rw [hU (33 + q) (by omega), hU (41 + q) (by omega), hU (49 + q) (by omega), up1_s]
        exact ⟨(up2_nk (by omega)).trans h2.1, (up2_nk (by omega)).trans h2.2.1, (up2_nk (by omega)).trans h2.2.2.1, up2_same⟩
    · rw [hA _ (by omega), hU _ (by omega), hU _ (by omega), hU _ (by omega), hU _ (by omega)]; exact hh q h1
  · intro q h1
    rw [hU 2 (by omega)] at h1
    rw [hA _ (by omega), hU _ (by omega), hU _ (by omega)]; exact hq q h1
theorem Rl.wri {M : Mem} {e : Nat} {V : Nat → Int} (h : Rl M e V) {p : Nat} (hp0 : (p : Int) < V 0) (x y : Int) (hy : sWr (up1 V (21 + p) x) = y) : Rl (putI M e 6 y) e (up1 V (21 + p) x) := by
  obtain ⟨hc, hs, hp, hh, hq⟩ := h
  have hc' := hc
  unfold Wc at hc'
  have hA : ∀ a, a ≠ e → (putI M e 6 y).1 a = M.1 a := fun a ha => up2_ne ha
  have hU : ∀ i, i ≠ 21 + p → up1 V (21 + p) x i = V i := fun i hi => up1_n hi
  refine ⟨?_, ?_, ?_, ?_, ?_⟩
  · unfold Wc
    rw [hU 0 (by omega), hU 1 (by omega), hU 2 (by omega)]; exact hc'
  · rw [hU 0 (by omega), hU 1 (by omega), hU 2 (by omega), hU 3 (by omega), hU 4 (by omega), hU 5 (by omega), hU 6 (by omega), hU 7 (by omega), hU 8 (by omega), hy]
    simp [up2, hs]
  · intro q h1
    rw [hU 0 (by omega)] at h1
    rw [hA _ (by omega), hU _ (by omega), hU _ (by omega), hU _ (by omega)]; exact hp q h1
  · intro q h1
    rw [hU 1 (by omega)] at h1
    rw [hA _ (by omega), hU _ (by omega), hU _ (by omega), hU _ (by omega), hU _ (by omega)]; exact hh q h1
  · intro q h1
    rw [hU 2 (by omega)] at h1
    rw [hA _ (by omega), hU _ (by omega), hU _ (by omega)]; exact hq q h1
/-- a number that may stand at a place -/
def OkAt (V : Nat → Int) (k : Nat) (x : Int) : Prop := 3 ≤ k ∧ (k = 3 → 10 ≤ x ∧ x ≤ 99) ∧ (k = 4 → 0 ≤ x ∧ x ≤ 999) ∧ (k = 5 → 0 ≤ x ∧ x ≤ 9999) ∧ (k = 6 → 0 ≤ x ∧ x ≤ 9999) ∧ (k = 7 → 0 ≤ x ∧ x ≤ 9999) ∧ (k = 8 → 0 ≤ x ∧ x ≤ 63) ∧
  (9 ≤ k → k < 15 → 1 ≤ x ∧ x ≤ 99) ∧ (15 ≤ k → k < 21 → 1 ≤ x ∧ x ≤ 9) ∧ (21 ≤ k → k < 27 → x = 0 ∨ x = 1) ∧ (27 ≤ k → k < 33 → 0 ≤ x ∧ x ≤ 99) ∧
  (33 ≤ k → k < 41 → (0 ≤ x ∧ x ≤ 100) ∧ (V (k + 24) = 0 → x ≤ 99)) ∧ (41 ≤ k → k < 49 → 0 ≤ x ∧ x ≤ 99) ∧ (49 ≤ k → k < 57 → 0 ≤ x ∧ x ≤ 63) ∧ (57 ≤ k → k < 65 → (0 ≤ x ∧ x ≤ 2) ∧ (x = 0 → V (k - 24) ≤ 99)) ∧
  (65 ≤ k → k < 69 → 0 ≤ x ∧ x ≤ 999) ∧ (69 ≤ k → k < 73 → 0 ≤ x ∧ x ≤ 99)
theorem up1_e {V : Nat → Int} {k j : Nat} {x : Int} : (j = k ∧ up1 V k x j = x) ∨ (j ≠ k ∧ up1 V k x j = V j) := by
  by_cases h : j = k
  · exact Or.inl ⟨h, by rw [h]; exact up1_s⟩
  · exact Or.inr ⟨h, up1_n h⟩
theorem wf_upd {V : Nat → Int} {k : Nat} {x : Int} (h : Wf V) (c : OkAt V k x) : Wf (up1 V k x) := by
  have hc' := h.1
  unfold Wc at hc'
  have c0 : 3 ≤ k := c.1
  have e0 : up1 V k x 0 = V 0 := up1_n (by omega)
  have e1 : up1 V k x 1 = V 1 := up1_n (by omega)
  have e2 : up1 V k x 2 = V 2 := up1_n (by omega)
  refine ⟨?_, ?_, ?_, ?_, ?_, ?_, ?_, ?_, ?_, ?_⟩
  · unfold Wc; rw [e0, e1, e2]; exact hc'
  · rcases up1_e (V := V) (k := k) (j := 3) (x := x) with ⟨g, e⟩ | ⟨g, e⟩
    · rw [e]; exact c.2.1 g.symm
    · rw [e]; exact h.2.1
  · rcases up1_e (V := V) (k := k) (j := 4) (x := x) with ⟨g, e⟩ | ⟨g, e⟩
    · rw [e]; exact c.2.2.1 g.symm
    · rw [e]; exact h.2.2.1
  · rcases up1_e (V := V) (k := k) (j := 5) (x := x) with ⟨g, e⟩ | ⟨g, e⟩
    · rw [e]; exact c.2.2.2.1 g.symm
    · rw [e]; exact h.2.2.2.1
  · rcases up1_e (V := V) (k := k) (j := 6) (x := x) with ⟨g, e⟩ | ⟨g, e⟩
    · rw [e]; exact c.2.2.2.2.1 g.symm
    · rw [e]; exact h.2.2.2.2.1
  · rcases up1_e (V := V) (k := k) (j := 7) (x := x) with ⟨g, e⟩ | ⟨g, e⟩
    · rw [e]; exact c.2.2.2.2.2.1 g.symm
    · rw [e]; exact h.2.2.2.2.2.1
  · rcases up1_e (V := V) (k := k) (j := 8) (x := x) with ⟨g, e⟩ | ⟨g, e⟩
    · rw [e]; exact c.2.2.2.2.2.2.1 g.symm
    · rw [e]; exact h.2.2.2.2.2.2.1
  · intro p h1
    rw [e0] at h1
    have hp1 := h.2.2.2.2.2.2.2.1 p h1
    refine ⟨?_, ?_, ?_, ?_⟩
    · rcases up1_e (V := V) (k := k) (j := 9 + p) (x := x) with ⟨g, e⟩ | ⟨g, e⟩
      · rw [e]; exact c.2.2.2.2.2.2.2.1 (by omega) (by omega)
      · rw [e]; exact hp1.1
    · rcases up1_e (V := V) (k := k) (j := 15 + p) (x := x) with ⟨g, e⟩ | ⟨g, e⟩
      · rw [e]; exact c.2.2.2.2.2.2.2.2.1 (by omega) (by omega)
      · rw [e]; exact hp1.2.1
    · rcases up1_e (V := V) (k := k) (j := 21 + p) (x := x) with ⟨g, e⟩ | ⟨g, e⟩
      · rw [e]; exact c.2.2.2.2.2.2.2.2.2.1 (by omega) (by omega)
      · rw [e]; exact hp1.2.2.1
    · rcases up1_e (V := V) (k := k) (j := 27 + p) (x := x) with ⟨g, e⟩ | ⟨g, e⟩
      · rw [e]; exact c.2.2.2.2.2.2.2.2.2.2.1 (by omega) (by omega)
      · rw [e]; exact hp1.2.2.2
  · intro p h1
    rw [e1] at h1
    have hp1 := h.2.2.2.2.2.2.2.2.1 p h1
    refine ⟨?_, ?_, ?_, ?_, ?_⟩
    · rcases up1_e (V := V) (k := k) (j := 33 + p) (x := x) with ⟨g, e⟩ | ⟨g, e⟩
      · rw [e]; exact (c.2.2.2.2.2.2.2.2.2.2.2.1 (by omega) (by omega)).1
      · rw [e]; exact hp1.1
    · rcases up1_e (V := V) (k := k) (j := 41 + p) (x := x) with ⟨g, e⟩ | ⟨g, e⟩
      · rw [e]; exact (c.2.2.2.2.2.2.2.2.2.2.2.2.1 (by omega) (by omega))
      · rw [e]; exact hp1.2.1
    · rcases up1_e (V := V) (k := k) (j := 49 + p) (x := x) with ⟨g, e⟩ | ⟨g, e⟩
      · rw [e]; exact (c.2.2.2.2.2.2.2.2.2.2.2.2.2.1 (by omega) (by omega))
      · rw [e]; exact hp1.2.2.1
    · rcases up1_e (V := V) (k := k) (j := 57 + p) (x := x) with ⟨g, e⟩ | ⟨g, e⟩
      · rw [e]; exact (c.2.2.2.2.2.2.2.2.2.2.2.2.2.2.1 (by omega) (by omega)).1
      · rw [e]; exact hp1.2.2.2.1
    · rcases up1_e (V := V) (k := k) (j := 33 + p) (x := x) with ⟨g, e⟩ | ⟨g, e⟩ <;> rcases up1_e (V := V) (k := k) (j := 57 + p) (x := x) with ⟨g2, e2⟩ | ⟨g2, e2⟩ <;> rw [e, e2]
      · omega
      · have := (c.2.2.2.2.2.2.2.2.2.2.2.1 (by omega) (by omega)).2
        rw [show k + 24 = 57 + p by omega] at this
        exact this
      · intro hx
        have := (c.2.2.2.2.2.2.2.2.2.2.2.2.2.2.1 (by omega) (by omega)).2 hx
        rw [show k - 24 = 33 + p by omega] at this
        exact this
      · exact hp1.2.2.2.2
  · intro p h1
    rw [e2] at h1
    have hp1 := h.2.2.2.2.2.2.2.2.2 p h1
    constructor
    · rcases up1_e (V := V) (k := k) (j := 65 + p) (x := x) with ⟨g, e⟩ | ⟨g, e⟩
      · rw [e]; exact c.2.2.2.2.2.2.2.2.2.2.2.2.2.2.2.1 (by omega) (by omega)
      · rw [e]; exact hp1.1
    · rcases up1_e (V := V) (k := k) (j := 69 + p) (x := x) with ⟨g, e⟩ | ⟨g, e⟩
      · rw [e]; exact c.2.2.2.2.2.2.2.2.2.2.2.2.2.2.2.2 (by omega) (by omega)
      · rw [e]; exact hp1.2
/-- a plan is read the same where only other numbers have changed -/
theorem StR.view {M : Mem} {q : Nat} {P W : Nat → Int} (H : ∀ k, 73 ≤ k → W k = P k) (h0 : W 0 = P 0) (h1 : P 1 ≤ W 1) {s r : Nat} (h : StR M q P s r) : StR M q W s r := by
  unfold StR at h ⊢
  rw [H (75 + 9 * s) (by omega), H (76 + 9 * s) (by omega), H (77 + 9 * s) (by omega), H (78 + 9 * s) (by omega), H (81 + 9 * s) (by omega), H (82 + 9 * s) (by omega), h0]
  obtain ⟨a1, a2, a3, a4, a5, a6, a7, a8, a9⟩ := h
  refine ⟨a1, a2, a3, a4, fun c => ?_, a6, fun c => ?_, a8, a9⟩
  · have := a5 c; omega
  · have := a7 c; omega
theorem Seg.view {M : Mem} {q : Nat} {P W : Nat → Int} (H : ∀ k, 73 ≤ k → W k = P k) (h0 : W 0 = P 0) (h1 : P 1 ≤ W 1) : ∀ {k D s t r r' : Nat}, Seg M q P k D s t r r' → Seg M q W k D s t r r'
  | 0, _, _, _, _, _, h => h
  | k + 1, D, s, t, r, r', h => by
    rcases h with h | ⟨g1, g2, h3⟩
    · exact Or.inl h
    · refine Or.inr ⟨g1, g2.view H h0 h1, ?_⟩
      rw [H (75 + 9 * s) (by omega), H (83 + 9 * s) (by omega)]
      rcases h3 with ⟨hk, E, D', u, a1, a2, a3, a4, a5, a6, a7, a8, a9⟩ | ⟨hk, a1, a2⟩
      · exact Or.inl ⟨hk, E, D', u, a1, a2, a3, a4, a5, a6, a7, Seg.view H h0 h1 a8, Seg.view H h0 h1 a9⟩
      · exact Or.inr ⟨hk, a1, Seg.view H h0 h1 a2⟩
theorem PlR.view {M : Mem} {e : Nat} {P W : Nat → Int} (H : ∀ k, 73 ≤ k → W k = P k) (h0 : W 0 = P 0) (h1 : P 1 ≤ W 1) (h : PlR M e P) : PlR M e W := by
  unfold PlR at h ⊢
  rw [H 73 (by omega), H 74 (by omega)]
  obtain ⟨a1, a2, a3, a4⟩ := h
  refine ⟨a1, a2, a3, fun g => ?_⟩
  obtain ⟨b1, n, m, b2, b3, b4, b5, b6⟩ := a4 g
  exact ⟨b1, n, m, b2, b3, b4, b5, b6.view H h0 h1⟩
/-- the two empires have changed alike -/
theorem Inv.emp {M M2 : Mem} (h : Inv M) (W : Nat → Int) (hW : ∀ k, 73 ≤ k → W k = mV M k) (h0 : W 0 = mV M 0) (h1 : mV M 1 ≤ W 1) (hm : mV M2 = W) (hr : Rl M2 11 W) (hw : Wf W)
    (hF : ∀ a, Rc a → a ≠ 184 → a ≠ 187 → ¬ (11 ≤ a ∧ a < 39) → M2.1 a = M.1 a ∧ M2.2.1 a = M.2.1 a) (hP : ∀ a, 15 ≤ a → a < 21 → M2.1 a = M.1 a) (hN : NmR M2 11 0) (hNm : ∀ k, 18 ≤ k → M2.2.1 187 k = M.2.1 187 k) (hs : M2.1 0 0 = M2.1 179 0) (hk : KpH M M2) : Inv M2 := by
  obtain ⟨⟨a1, a2, a3, a4, a5, a6, a7, a8, a9, a10, a11⟩, hB⟩ := h
  obtain ⟨k1, k2, k3, k4, k5, k6, k7, k8, k9, k10, k11, k12, k13, k14⟩ := hk
  have hm2 : ∀ k, M2.1 184 k = W k := fun k => congrFun hm k
  refine ⟨⟨hs, ?_, ?_, ?_, ?_, ?_, ?_, ?_, ?_, ?_, ?_⟩, ?_⟩
  · rw [k1, k3, a2]
  · rw [k2, k4, a3]
  · rw [k5, k6, a4]
  · rw [k7, k8, a5]
  · rw [k9, k10, a6]
  · rw [k11, k12, a7]
  · rw [k13, k14, a8]
  · rw [k5]; exact a9
  · rw [k11]; exact a10
  · rw [k13]; exact a11
  · rw [k5, k11, k13]
    obtain ⟨b1, b2, b3, b4, b5, b6⟩ := hB
    refine ⟨fun t ht => (b1 t ht).cong fun a ha => hF a (by unfold Rc; omega) (by omega) (by omega) (by omega), ?_, ?_, ?_, ?_, ?_⟩
    · unfold TpR
      rw [(hF 2 (by unfold Rc; omega) (by omega) (by omega) (by omega)).1, (hF 183 (by unfold Rc; omega) (by omega) (by omega) (by omega)).1]; exact b2
    · obtain ⟨c1, c2, c3, c4⟩ := b3
      rw [blk_0] at c4
      unfold EmpR
      rw [blk_0, hm]
      refine ⟨hr, hw, hN, ?_⟩
      exact (c4.view hW h0 h1).cong fun a g1 g2 => hP a (by omega) (by omega)
    · intro i hi
      have hi3 : (i : Int) < 3 := by omega
      have hbl : blk M2 (i + 1) = blk M (i + 1) := by
        funext k
        unfold blk
        rw [hm2, hW _ (by omega)]; rfl
      obtain ⟨c1, c2, c3, c4⟩ := b4 i hi
      have hc := c1.1
      unfold Wc at hc
      have hE : ∀ a, 95 + 28 * i ≤ a → a < 95 + 28 * i + 28 → M2.1 a = M.1 a ∧ M2.2.1 a = M.2.1 a := fun a g1 g2 => hF a (by unfold Rc; omega) (by omega) (by omega) (by omega)
      unfold EmpR NmR
      rw [hbl]
      refine ⟨c1.cong fun a g1 g2 => (hE a g1 g2).1, c2, ⟨?_, ?_⟩, c4.cong fun a g1 g2 => (hE a (by omega) (by omega)).1⟩
      · intro p hp
        rw [(hE _ (by omega) (by omega)).2, hNm _ (by omega)]; exact c3.1 p hp
      · intro p hp
        rw [(hE _ (by omega) (by omega)).2, hNm _ (by omega)]; exact c3.2 p hp
    · unfold LvR
      rw [(hF 83 (by unfold Rc; omega) (by omega) (by omega) (by omega)).1, (hF 190 (by unfold Rc; omega) (by omega) (by omega) (by omega)).1]; exact b5
    · unfold KyR
      rw [(hF 4 (by unfold Rc; omega) (by omega) (by omega) (by omega)).2]; exact b6
/-- what a deed of an empire may change -/
def Fe (e : Nat) (M M' : Mem) : Prop := (∀ a, ¬ (e ≤ a ∧ a < e + 28) → M'.1 a = M.1 a) ∧ (∀ a, e + 4 ≤ a → a < e + 10 → M'.1 a = M.1 a) ∧ M'.2 = M.2
theorem Fe.rfl {e : Nat} {M : Mem} : Fe e M M := ⟨fun _ _ => Eq.refl _, fun _ _ _ => Eq.refl _, Eq.refl _⟩
theorem Fe.tr {e : Nat} {M N K : Mem} (h : Fe e M N) (g : Fe e N K) : Fe e M K := ⟨fun a ha => (g.1 a ha).trans (h.1 a ha), fun a h1 h2 => (g.2.1 a h1 h2).trans (h.2.1 a h1 h2), g.2.2.trans h.2.2⟩
theorem Fe.p {e a k : Nat} {M : Mem} {v : Int} (h : e ≤ a ∧ a < e + 28 ∧ ¬ (e + 4 ≤ a ∧ a < e + 10)) : Fe e M (putI M a k v) := ⟨fun b hb => up2_ne (by omega), fun b h1 h2 => up2_ne (by omega), Eq.refl _⟩
/-- a deed: the class has done it, the reference has done it -/
theorem Inv.deedG {M M1 M2 : Mem} (h : Inv M) (W : Nat → Int) (hW : ∀ k, 73 ≤ k → W k = mV M k) (h0 : W 0 = mV M 0) (h1 : W 1 = mV M 1) (hf : Fe 11 M M1) (hr : Rl M1 11 W) (hw : Wf W)
    (hA : ∀ a, a ≠ 0 → a ≠ 179 → a ≠ 184 → M2.1 a = M1.1 a) (hL : M2.2 = M1.2) (hm : mV M2 = W) (hs : M2.1 0 0 = M2.1 179 0) (hx : ∀ k, k ≠ 0 → M2.1 0 k = M1.1 0 k) (hy : ∀ k, k ≠ 0 → k ≠ 1 → M2.1 179 k = M1.1 179 k) : Inv M2 := by
  have hL2 : M2.2.1 = M.2.1 := congrArg Prod.fst (hL.trans hf.2.2)
  refine h.emp W hW h0 (by omega) hm (hr.cong fun a g1 g2 => hA a (by omega) (by omega) (by omega)) hw ?_ ?_ ?_ ?_ hs ?_
  · intro a g1 g2 g3 g4
    unfold Rc at g1
    rw [hA a (by omega) (by omega) g2, hL2, hf.1 a (by omega)]
    exact ⟨Eq.refl _, Eq.refl _⟩
  · intro a g1 g2
    rw [hA a (by omega) (by omega) (by omega), hf.2.1 a (by omega) (by omega)]
  · have hn := h.2.2.2.1.2.2.1
    unfold NmR at hn ⊢
    rw [blk_0] at hn ⊢
    rw [hm, hL2, h0, h1]
    exact hn
  · intro k _
    rw [hL2]
  · unfold KpH
    have e0 := hf.1 0 (by omega)
    have e1 := hf.1 179 (by omega)
    rw [hL2, hx 5 (by omega), hx 9 (by omega), hx 10 (by omega), hx 14 (by omega), hx 18 (by omega), hy 8 (by omega) (by omega), hy 10 (by omega) (by omega), hy 11 (by omega) (by omega), hy 24 (by omega) (by omega), hy 34 (by omega) (by omega), e0, e1]
    simp
theorem Inv.deed {M M1 : Mem} (h : Inv M) (W : Nat → Int) (hW : ∀ k, 73 ≤ k → W k = mV M k) (h0 : W 0 = mV M 0) (h1 : W 1 = mV M 1) (hf : Fe 11 M M1) (hr : Rl M1 11 W) (hw : Wf W) : Inv (setC (putI (putI (putI M1 0 0 0) 179 1 0) 179 0 0) W) := by
  refine h.deedG W hW h0 h1 hf hr hw ?_ rfl mV_set ?_ ?_ ?_
  · intro a g0 g1 g2
    rw [set_ne g2]
    show up2 (up2 (up2 M1.1 0 0 0) 179 1 0) 179 0 0 a = _
    rw [up2_ne g1, up2_ne g1, up2_ne g0]
  · rw [set_ne (by decide), set_ne (by decide)]
    show up2 (up2 (up2 M1.1 0 0 0) 179 1 0) 179 0 0 0 0 = up2 (up2 (up2 M1.1 0 0 0) 179 1 0) 179 0 0 179 0
    simp [up2]
  · intro k hk
    rw [set_ne (by decide)]
    show up2 (up2 (up2 M1.1 0 0 0) 179 1 0) 179 0 0 0 k = _
    simp [up2, hk]
  · intro k hk hk1
    rw [set_ne (by decide)]
    show up2 (up2 (up2 M1.1 0 0 0) 179 1 0) 179 0 0 179 k = _
    simp [up2, hk, hk1]
theorem Inv.deedR {M M1 : Mem} (h : Inv M) (s : Int) (hf : Fe 11 M M1) (hr : Rl M1 11 (mV M)) : Inv (putI (putI (putI (putI M1 0 0 s) 179 1 0) 179 0 0) 179 0 s) := by
  refine h.deedG (mV M) (fun _ _ => rfl) rfl rfl hf hr h.wf ?_ rfl ?_ ?_ ?_ ?_
  · intro a g0 g1 g2
    show up2 (up2 (up2 (up2 M1.1 0 0 s) 179 1 0) 179 0 0) 179 0 s a = _
    rw [up2_ne g1, up2_ne g1, up2_ne g1, up2_ne g0]
  · rw [mV_i (by decide), mV_i (by decide), mV_i (by decide), mV_i (by decide)]
    funext k
    show M1.1 184 k = M.1 184 k
    rw [hf.1 184 (by omega)]
  · show up2 (up2 (up2 (up2 M1.1 0 0 s) 179 1 0) 179 0 0) 179 0 s 0 0 = up2 (up2 (up2 (up2 M1.1 0 0 s) 179 1 0) 179 0 0) 179 0 s 179 0
    simp [up2]
  · intro k hk
    show up2 (up2 (up2 (up2 M1.1 0 0 s) 179 1 0) 179 0 0) 179 0 s 0 k = _
    simp [up2, hk]
  · intro k hk hk1
    show up2 (up2 (up2 (up2 M1.1 0 0 s) 179 1 0) 179 0 0) 179 0 s 179 k = _
    simp [up2, hk, hk1]
theorem mV_fe {M M1 : Mem} (hf : Fe 11 M M1) : mV M1 = mV M := by
  funext k
  show M1.1 184 k = M.1 184 k
  rw [hf.1 184 (by omega)]
theorem opD {d jx jm : Nat} {ax : List mv} {M M1 : Mem} (h : Inv M) (W : Nat → Int) (hW : ∀ k, 73 ≤ k → W k = mV M k) (h0 : W 0 = mV M 0) (h1 : W 1 = mV M 1) (hf : Fe 11 M M1) (hr : Rl M1 11 W) (hw : Wf W) (x : Int) (hx : C2 d jx (vR 11 0 :: ax) M = some (some (vI x), putI M1 0 0 0)) (hm : C2 d jm (vR 12 179 :: ax) (putI M1 0 0 0) = some (some (vI x), setC (putI (putI (putI M1 0 0 0) 179 1 0) 179 0 0) W)) : OpI d jx jm ax M :=
  ⟨x, _, _, hx, hm, h.deed W hW h0 h1 hf hr hw⟩
theorem opDR {d jx jm : Nat} {ax : List mv} {M M1 : Mem} (h : Inv M) (s : Int) (hf : Fe 11 M M1) (hr : Rl M1 11 (mV M)) (x : Int) (hx : C2 d jx (vR 11 0 :: ax) M = some (some (vI x), putI M1 0 0 s)) (hm : C2 d jm (vR 12 179 :: ax) (putI M1 0 0 s) = some (some (vI x), putI (putI (putI (putI M1 0 0 s) 179 1 0) 179 0 0) 179 0 s)) : OpI d jx jm ax M :=
  ⟨x, _, _, hx, hm, h.deedR s hf hr⟩
