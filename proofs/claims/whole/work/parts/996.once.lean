section Once
variable (d : Nat) {f : Nat → Int} {n T i : Nat} {X Y : Mem}
theorem Mk.keep {X' Y' : Mem} {e b : Nat} (h : Mk X Y e b) (he : ∀ a, e ≤ a → a < e + 28 → X'.1 a = X.1 a ∧ X'.2.1 a = X.2.1 a) (h4 : Y'.1 184 = Y.1 184) (h7 : Y'.2.1 187 = Y.2.1 187) : Mk X' Y' e b := by
  obtain ⟨a1, a2, a3, a4, a5, a6, a7, a8⟩ := h
  have hb : blk Y' b = blk Y b := by unfold blk; rw [h4]
  have hc := a1.1
  unfold Wc at hc
  unfold Mk
  rw [hb, h7]
  refine ⟨a1.cong fun a g1 g2 => (he a g1 g2).1, a2, fun p hp => ?_, fun p hp => ?_, fun p hp => ?_, ?_, ?_, a8⟩
  · rw [(he _ (by omega) (by omega)).2]; exact a3 p hp
  · rw [(he _ (by omega) (by omega)).2]; exact a4 p hp
  · rw [(he _ (by omega) (by omega)).2]; exact a5 p hp
  · rw [(he _ (by omega) (by omega)).1]; exact a6
  · rw [(he _ (by omega) (by omega)).1]; exact a7
theorem Mk.tok {X' Y' : Mem} (h : Mk X Y 39 4) (hz : FZ X X') (hw : FW Y Y') : Mk X' Y' 39 4 := h.keep (fun a g1 g2 => hz a (by omega)) (hw.1 184 (by decide)).1 (hw.1 187 (by decide)).2
theorem blk_put {b k : Nat} {v : Int} : blk (putI Y 184 (345 * b + k) v) b = up1 (blk Y b) k v := by
  funext j
  show (putI Y 184 (345 * b + k) v).1 184 (345 * b + j) = up1 (blk Y b) k v j
  by_cases c : j = k
  · rw [c, pI_s, up1_s]
  · rw [pI_nk (by omega), up1_n c]; rfl
theorem Mk.fld (h : Mk X Y 39 4) {k : Nat} (hk : k < 3) {v : Int} (ho : OkAt (blk Y 4) (3 + k) v) : Mk (putI X 39 k v) (putI Y 184 (1383 + k) v) 39 4 := by
  obtain ⟨a1, a2, a3, a4, a5, a6, a7, a8⟩ := h
  have e : blk (putI Y 184 (1383 + k) v) 4 = up1 (blk Y 4) (3 + k) v := by
    rw [show 1383 + k = 345 * 4 + (3 + k) by omega]; exact blk_put
  unfold Mk
  rw [e, up1_n (by omega), up1_n (by omega), up1_n (by omega), up1_n (by omega)]
  have r := a1.fld (k := k) (j := 3 + k) (by omega) v
  refine ⟨r, wf_upd a2 ho, a3, a4, a5, ?_, ?_, a8⟩
  · rw [pI_ne (by decide)]; exact a6
  · rw [pI_ne (by decide)]; exact a7
/-- what the class may change while it reads, what the reference may change -/
def FE (X X' : Mem) : Prop := ∀ a, a ≠ 3 → a ≠ 8 → ¬ (39 ≤ a ∧ a < 67) → X'.1 a = X.1 a ∧ X'.2.1 a = X.2.1 a
def FN (Y Y' : Mem) : Prop := (∀ a, a ≠ 179 → a ≠ 184 → Y'.1 a = Y.1 a) ∧ (∀ a, a ≠ 179 → a ≠ 187 → Y'.2.1 a = Y.2.1 a) ∧ (∀ k, ¬ (12 ≤ k ∧ k ≤ 18) → k ≠ 25 → Y'.1 179 k = Y.1 179 k) ∧ (∀ k, k ≠ 19 → Y'.2.1 179 k = Y.2.1 179 k) ∧ (∀ k, (k < 1380 ∨ (1407 ≤ k ∧ k < 1413) ∨ (1437 ≤ k ∧ k < 1445)) → Y'.1 184 k = Y.1 184 k) ∧ (∀ k, k < 72 → Y'.2.1 187 k = Y.2.1 187 k)
theorem FE.tr {A B C : Mem} (h : FE A B) (g : FE B C) : FE A C := fun a h1 h2 h3 => ⟨(g a h1 h2 h3).1.trans (h a h1 h2 h3).1, (g a h1 h2 h3).2.trans (h a h1 h2 h3).2⟩
theorem FE.rfl {A : Mem} : FE A A := fun _ _ _ _ => ⟨Eq.refl _, Eq.refl _⟩
theorem FZ.e {A B : Mem} (h : FZ A B) : FE A B := fun a h1 _ _ => h a h1
theorem FE.p {A : Mem} {a k : Nat} {v : Int} (h : a = 3 ∨ a = 8 ∨ (39 ≤ a ∧ a < 67)) : FE A (putI A a k v) := fun b h1 h2 h3 => ⟨pI_ne (by omega), Eq.refl _⟩
theorem FE.l {A : Mem} {a k : Nat} {v : Int} (h : a = 3 ∨ a = 8 ∨ (39 ≤ a ∧ a < 67)) : FE A (putL A a k v) := fun b h1 h2 h3 => ⟨Eq.refl _, pL_ne (by omega)⟩
theorem FN.tr {A B C : Mem} (h : FN A B) (g : FN B C) : FN A C := ⟨fun a h1 h2 => (g.1 a h1 h2).trans (h.1 a h1 h2), fun a h1 h2 => (g.2.1 a h1 h2).trans (h.2.1 a h1 h2), fun k h1 h2 => (g.2.2.1 k h1 h2).trans (h.2.2.1 k h1 h2), fun k h1 => (g.2.2.2.1 k h1).trans (h.2.2.2.1 k h1), fun k h1 => (g.2.2.2.2.1 k h1).trans (h.2.2.2.2.1 k h1), fun k h1 => (g.2.2.2.2.2 k h1).trans (h.2.2.2.2.2 k h1)⟩
theorem FN.rfl {A : Mem} : FN A A := ⟨fun _ _ _ => Eq.refl _, fun _ _ _ => Eq.refl _, fun _ _ _ => Eq.refl _, fun _ _ => Eq.refl _, fun _ _ => Eq.refl _, fun _ _ => Eq.refl _⟩
theorem fw_n {A B : Mem} (h : FW A B) : FN A B := ⟨fun a h1 _ => (h.1 a h1).1, fun a h1 _ => (h.1 a h1).2, fun k h1 _ => h.2.1 k h1, h.2.2, fun k _ => by rw [(h.1 184 (by decide)).1], fun k _ => by rw [(h.1 187 (by decide)).2]⟩
theorem FN.p {A : Mem} {k : Nat} {v : Int} (h : 1380 ≤ k ∧ ¬ (1407 ≤ k ∧ k < 1413) ∧ ¬ (1437 ≤ k ∧ k < 1445)) : FN A (putI A 184 k v) := ⟨fun a _ h2 => pI_ne h2, fun _ _ _ => Eq.refl _, fun _ _ _ => by rw [pI_ne (by decide)], fun _ _ => Eq.refl _, fun j hj => pI_nk (by omega), fun _ _ => Eq.refl _⟩
theorem FN.t {A : Mem} {v : Int} : FN A (putI A 179 25 v) := ⟨fun a h1 _ => pI_ne h1, fun _ _ _ => Eq.refl _, fun k _ h => pI_nk h, fun _ _ => Eq.refl _, fun j hj => by rw [pI_ne (by decide)], fun _ _ => Eq.refl _⟩
/-- between two things that are told -/
def StE (X Y : Mem) (f : Nat → Int) (n T i : Nat) : Prop := RT X Y f n T i ∧ Y.1 179 12 = 0 ∧ Mk X Y 39 4 ∧ X.1 8 0 = Y.1 179 25
/-- how a thing ends -/
def ThO (X Y X' Y' : Mem) (f : Nat → Int) (n T i : Nat) (b : Bool) : Prop := FE X X' ∧ FN Y Y' ∧ ((b = true ∧ ∃ i', i < i' ∧ StE X' Y' f n T i') ∨ (b = false ∧ Bad X' Y'))
theorem RT.y25 {v : Int} (h : RT X Y f n T i) : RT X (putI Y 179 25 v) f n T i := by
  obtain ⟨h1, h2, h3, ⟨g1, g2, g3⟩, ⟨t1, t2, t3, t4, t5, t6⟩⟩ := h
  refine ⟨h1, h2, h3, ⟨fun k hk => ?_, ?_, g3⟩, ⟨?_, ?_, ?_, ?_, ?_, ?_⟩⟩
  · rw [pI_ne (by decide)]; exact g1 k hk
  · rw [pI_nk (by decide)]; exact g2
  · rw [pI_nk (by decide)]; exact t1
  · rw [pI_nk (by decide)]; exact t2
  · rw [pI_nk (by decide)]; exact t3
  · rw [pI_nk (by decide)]; exact t4
  · rw [pI_nk (by decide)]; exact t5
  · rw [pI_nk (by decide)]; exact t6
theorem RT.x {X' : Mem} (h : RT X Y f n T i) (he : ∀ a, (3 ≤ a ∧ a ≤ 7) → X'.1 a = X.1 a ∧ X'.2.1 a = X.2.1 a) : RT X' Y f n T i := by
  obtain ⟨⟨h1, h2, h3, h4, h5, h6, h7, h8⟩, hi, ⟨s1, s2, s3, s4, s5, s6⟩, hy, ht⟩ := h
  have e3 := he 3 (by omega)
  refine ⟨⟨fun j hj => ?_, h2, h3, ?_, ?_, h6, h7, fun j hj => ?_, ?_, ?_⟩, hi, ⟨?_, ?_, ?_, ?_, ?_, ?_⟩, hy, ht⟩
  · rw [(he 5 (by omega)).1, (he 6 (by omega)).1, (he 7 (by omega)).2]; exact h1 j hj
  · rw [e3.1]; exact h4
  · rw [e3.1]; exact h5
  · rw [(he 4 (by omega)).2]; exact h8.1 j hj
  · rw [e3.1]; exact h8.2.1
  · rw [e3.1]; exact h8.2.2
  · rw [e3.1]; exact s1
  · rw [e3.1]; exact s2
  · rw [e3.2]; exact s3
  · rw [e3.1]; exact s4
  · rw [e3.1]; exact s5
  · rw [e3.1]; exact s6
end Once
