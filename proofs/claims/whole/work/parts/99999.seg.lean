section Sg
variable {M M' : Mem} {q : Nat} {P P' : Nat → Int}
theorem Seg.mono : ∀ {k k' D s t r r' : Nat}, k ≤ k' → Seg M q P k D s t r r' → Seg M q P k' D s t r r'
  | 0, _, _, _, _, _, _, _, h => h.elim
  | k + 1, 0, _, _, _, _, _, hk, _ => absurd hk (by omega)
  | k + 1, k' + 1, D, s, t, r, r', hk, h => by
    rcases h with h | ⟨g1, g2, h3⟩
    · exact Or.inl h
    · refine Or.inr ⟨g1, g2, ?_⟩
      rcases h3 with ⟨hk', E, D', u, a1, a2, a3, a4, a5, a6, a7, a8, a9⟩ | ⟨hk', a1, a2⟩
      · exact Or.inl ⟨hk', E, D', u, a1, a2, a3, a4, a5, a6, a7, Seg.mono (by omega) a8, Seg.mono (by omega) a9⟩
      · exact Or.inr ⟨hk', a1, Seg.mono (by omega) a2⟩
theorem StR.ex {s r : Nat} (H : ∀ i, 1 ≤ i → i ≤ 4 → M'.1 (q + i) r = M.1 (q + i) r) (HP : ∀ k, k < 2 ∨ (75 + 9 * s ≤ k ∧ k < 83 + 9 * s) → P' k = P k) (h : StR M q P s r) : StR M' q P' s r := by
  unfold StR at h ⊢
  rw [H 1 (by omega) (by omega), H 2 (by omega) (by omega), H 3 (by omega) (by omega), H 4 (by omega) (by omega), HP (75 + 9 * s) (by omega), HP (76 + 9 * s) (by omega), HP (77 + 9 * s) (by omega), HP (78 + 9 * s) (by omega), HP (81 + 9 * s) (by omega), HP (82 + 9 * s) (by omega), HP 0 (by omega), HP 1 (by omega)]
  exact h
theorem Seg.fr {r0 m s0 t0 : Nat} (H : ∀ i j : Nat, 1 ≤ i → i ≤ 5 → r0 ≤ j → j < m → M'.1 (q + i) j = M.1 (q + i) j) (HP : ∀ k, (k < 2 ∨ 75 + 9 * s0 ≤ k) → k < 75 + 9 * t0 → P' k = P k) : ∀ {k D s t r r' : Nat}, s0 ≤ s → t ≤ t0 → r0 ≤ r → r' ≤ m → Seg M q P k D s t r r' → Seg M' q P' k D s t r r'
  | 0, _, _, _, _, _, _, _, _, _, h => h.elim
  | k + 1, D, s, t, r, r', hs, ht, hr0, hr, h => by
    rcases h with h | ⟨g1, g2, h3⟩
    · exact Or.inl h
    · have hr2 : r < r' := by
        rcases h3 with ⟨hk, E, D', u, a1, a2, a3, a4, a5, a6, a7, a8, a9⟩ | ⟨hk, a1, a2⟩
        · have := Seg.up a8
          have := Seg.up a9
          omega
        · have := Seg.up a2
          omega
      refine Or.inr ⟨g1, g2.ex (fun i i1 i2 => H i r i1 (by omega) hr0 (by omega)) (fun k hk => HP k (by omega) (by omega)), ?_⟩
      rw [HP (75 + 9 * s) (by omega) (by omega), HP (83 + 9 * s) (by omega) (by omega)]
      rcases h3 with ⟨hk, E, D', u, a1, a2, a3, a4, a5, a6, a7, a8, a9⟩ | ⟨hk, a1, a2⟩
      · have u8 := Seg.up a8
        have u9 := Seg.up a9
        refine Or.inl ⟨hk, E, D', u, a1, a2, a3, a4, ?_, ?_, ?_, Seg.fr H HP (by omega) (by omega) (by omega) (by omega) a8, Seg.fr H HP (by omega) ht (by omega) hr a9⟩
        · rw [H 5 r (by omega) (by omega) (by omega) (by omega)]; exact a5
        · rw [H 5 E (by omega) (by omega) (by omega) (by omega)]; exact a6
        · rw [H 1 E (by omega) (by omega) (by omega) (by omega)]; exact a7
      · exact Or.inr ⟨hk, a1, Seg.fr H HP (by omega) ht (by omega) hr a2⟩
/-- one step, with what stands in it -/
def Seg1 (M : Mem) (q : Nat) (P : Nat → Int) (D s t r r' : Nat) : Prop := s < t ∧ StR M q P s r ∧ (((P (75 + 9 * s) = 8 ∨ P (75 + 9 * s) = 9) ∧ ∃ E D', D = D' + 1 ∧ P (83 + 9 * s) = ((t : Nat) : Int) ∧ E < 60 ∧ M.1 (q + 5) r = ((E : Nat) : Int) ∧ M.1 (q + 5) E = (r : Int) ∧ M.1 (q + 1) E = 26 ∧ Seg M q P (t + 1 - (s + 1)) D' (s + 1) t (r + 1) E ∧ r' = E + 1) ∨ (¬ (P (75 + 9 * s) = 8 ∨ P (75 + 9 * s) = 9) ∧ P (83 + 9 * s) = ((s + 1 : Nat) : Int) ∧ t = s + 1 ∧ r' = r + 1))
theorem Seg1.up {D s t r r' : Nat} (h : Seg1 M q P D s t r r') : s < t ∧ r < r' := by
  obtain ⟨h1, h2, h3⟩ := h
  rcases h3 with ⟨hk, E, D', a1, a2, a3, a4, a5, a6, a7, a8⟩ | ⟨hk, a1, a2, a3⟩
  · have := Seg.up a7
    omega
  · omega
theorem Seg1.fr {D s t r r' : Nat} (H : ∀ i j : Nat, 1 ≤ i → i ≤ 5 → j < r' → M'.1 (q + i) j = M.1 (q + i) j) (HP : ∀ k, k < 75 + 9 * t → P' k = P k) (h : Seg1 M q P D s t r r') : Seg1 M' q P' D s t r r' := by
  have hu := h.up
  obtain ⟨h1, h2, h3⟩ := h
  refine ⟨h1, h2.ex (fun i i1 i2 => H i r i1 (by omega) (by omega)) (fun k hk => HP k (by omega)), ?_⟩
  rw [HP (75 + 9 * s) (by omega), HP (83 + 9 * s) (by omega)]
  rcases h3 with ⟨hk, E, D', a1, a2, a3, a4, a5, a6, a7, a8⟩ | ⟨hk, a1, a2, a3⟩
  · have := Seg.up a7
    refine Or.inl ⟨hk, E, D', a1, a2, a3, ?_, ?_, ?_, Seg.fr (r0 := 0) (m := r') (s0 := 0) (t0 := t) (fun i j i1 i2 _ j2 => H i j i1 i2 j2) (fun k _ hk => HP k hk) (by omega) (by omega) (by omega) (by omega) a7, a8⟩
    · rw [H 5 r (by omega) (by omega) (by omega)]; exact a4
    · rw [H 5 E (by omega) (by omega) (by omega)]; exact a5
    · rw [H 1 E (by omega) (by omega) (by omega)]; exact a6
  · exact Or.inr ⟨hk, a1, a2, a3⟩
theorem seg_cons {D s u t r r1 r' : Nat} (h : Seg1 M q P D s u r r1) (g : Seg M q P (t + 1 - u) D u t r1 r') : Seg M q P (t + 1 - s) D s t r r' := by
  have hu := h.up
  have gu := Seg.up g
  obtain ⟨h1, h2, h3⟩ := h
  obtain ⟨k, hk0⟩ : ∃ k, t + 1 - s = k + 1 := ⟨t - s, by omega⟩
  rw [hk0]
  refine Or.inr ⟨by omega, h2, ?_⟩
  rcases h3 with ⟨hk, E, D', a1, a2, a3, a4, a5, a6, a7, a8⟩ | ⟨hk, a1, a2, a3⟩
  · subst a8
    exact Or.inl ⟨hk, E, D', u, a1, a2, by omega, a3, a4, a5, a6, Seg.mono (by omega) a7, Seg.mono (by omega) g⟩
  · subst a2
    subst a3
    exact Or.inr ⟨hk, a1, Seg.mono (by omega) g⟩
theorem seg_nil {D s r : Nat} : Seg M q P (s + 1 - s) D s s r r := by
  rw [show s + 1 - s = 0 + 1 by omega]
  exact Or.inl ⟨rfl, rfl⟩
end Sg
section Pst
variable (d e : Nat) {f : Nat → Int} {n T i : Nat} {X Y : Mem}
def FPc (lv r : Nat) (X X' : Mem) : Prop := (∀ a, a ≠ 3 → a ≠ 9 → a ≠ 10 → ¬ (43 ≤ a ∧ a ≤ 48) → X'.1 a = X.1 a) ∧ (∀ a, a ≠ 3 → X'.2.1 a = X.2.1 a) ∧ (∀ j, j < lv → X'.1 10 j = X.1 10 j) ∧ (∀ q j, 44 ≤ q → q ≤ 48 → j < r → X'.1 q j = X.1 q j)
def FPr (s : Nat) (Y Y' : Mem) : Prop := (∀ a, a ≠ 179 → a ≠ 184 → Y'.1 a = Y.1 a) ∧ (∀ a, a ≠ 179 → Y'.2.1 a = Y.2.1 a) ∧ (∀ k, ¬ (12 ≤ k ∧ k ≤ 18) → k ≠ 26 → Y'.1 179 k = Y.1 179 k) ∧ (∀ k, k ≠ 19 → Y'.2.1 179 k = Y.2.1 179 k) ∧ (∀ k, k < 1455 + 9 * s → Y'.1 184 k = Y.1 184 k)
theorem FPc.tr {lv r lv' r' : Nat} {A B C : Mem} (h : FPc lv r A B) (g : FPc lv' r' B C) (h1 : lv ≤ lv') (h2 : r ≤ r') : FPc lv r A C := ⟨fun a e1 e2 e3 e4 => (g.1 a e1 e2 e3 e4).trans (h.1 a e1 e2 e3 e4), fun a e1 => (g.2.1 a e1).trans (h.2.1 a e1), fun j e1 => (g.2.2.1 j (by omega)).trans (h.2.2.1 j e1), fun q j e1 e2 e3 => (g.2.2.2 q j e1 e2 (by omega)).trans (h.2.2.2 q j e1 e2 e3)⟩
theorem FPr.tr {s s' : Nat} {A B C : Mem} (h : FPr s A B) (g : FPr s' B C) (h1 : s ≤ s') : FPr s A C := ⟨fun a e1 e2 => (g.1 a e1 e2).trans (h.1 a e1 e2), fun a e1 => (g.2.1 a e1).trans (h.2.1 a e1), fun k e1 e2 => (g.2.2.1 k e1 e2).trans (h.2.2.1 k e1 e2), fun k e1 => (g.2.2.2.1 k e1).trans (h.2.2.2.1 k e1), fun k e1 => (g.2.2.2.2 k (by omega)).trans (h.2.2.2.2 k e1)⟩
theorem FPc.rfl {lv r : Nat} {A : Mem} : FPc lv r A A := ⟨fun _ _ _ _ _ => Eq.refl _, fun _ _ => Eq.refl _, fun _ _ => Eq.refl _, fun _ _ _ _ _ => Eq.refl _⟩
theorem FPr.rfl {s : Nat} {A : Mem} : FPr s A A := ⟨fun _ _ _ => Eq.refl _, fun _ _ => Eq.refl _, fun _ _ _ => Eq.refl _, fun _ _ => Eq.refl _, fun _ _ => Eq.refl _⟩
theorem FZ.pc {lv r : Nat} {A B : Mem} (h : FZ A B) : FPc lv r A B := ⟨fun a e1 _ _ _ => (h a e1).1, fun a e1 => (h a e1).2, fun j _ => by rw [(h 10 (by decide)).1], fun q j e1 _ _ => by rw [(h q (by omega)).1]⟩
theorem FW.pr {s : Nat} {A B : Mem} (h : FW A B) : FPr s A B := ⟨fun a e1 _ => (h.1 a e1).1, fun a e1 => (h.1 a e1).2, fun k e1 _ => h.2.1 k e1, h.2.2, fun k _ => by rw [(h.1 184 (by decide)).1]⟩
theorem RsX.pc {lv r : Nat} {A B : Mem} (h : RsX r A B) : FPc lv r A B := ⟨fun a e1 _ _ e4 => h.1 a e1 (by omega), h.2.2, fun j _ => by rw [h.1 10 (by decide) (by decide)], fun q j e1 e2 e3 => by
  by_cases c : 45 ≤ q ∧ q ≤ 47
  · exact h.2.1 q j c.1 c.2 (by omega)
  · rw [h.1 q (by omega) c]⟩
theorem RsY.pr {s : Nat} {A B : Mem} (h : RsY s A B) : FPr s A B := ⟨h.1, h.2.1, fun k e1 _ => h.2.2.1 k e1, h.2.2.2.1, fun k e1 => h.2.2.2.2 k (Or.inl (by omega))⟩
theorem FPr.p {s k : Nat} {A : Mem} {v : Int} (h : 1455 + 9 * s ≤ k) : FPr s A (putI A 184 k v) := ⟨fun a _ h2 => pI_ne h2, fun _ _ => Eq.refl _, fun _ _ _ => by rw [pI_ne (by decide)], fun _ _ => Eq.refl _, fun j hj => pI_nk (by omega)⟩
theorem FPr.t {s : Nat} {A : Mem} {v : Int} : FPr s A (putI A 179 26 v) := ⟨fun a h1 _ => pI_ne h1, fun _ _ => Eq.refl _, fun k _ h2 => pI_nk h2, fun _ _ => Eq.refl _, fun j _ => by rw [pI_ne (by decide)]⟩
theorem FPc.p3 {lv r k : Nat} {A : Mem} {v : Int} : FPc lv r A (putI A 43 k v) := ⟨fun a _ _ _ h => pI_ne (by omega), fun _ _ => Eq.refl _, fun j _ => by rw [pI_ne (by decide)], fun q j h1 _ _ => by rw [pI_ne (by omega)]⟩
theorem FPc.p9 {lv r k : Nat} {A : Mem} {v : Int} : FPc lv r A (putI A 9 k v) := ⟨fun a _ h _ _ => pI_ne h, fun _ _ => Eq.refl _, fun j _ => by rw [pI_ne (by decide)], fun q j h1 _ _ => by rw [pI_ne (by omega)]⟩
theorem FPc.p10 {lv r k : Nat} {A : Mem} {v : Int} (hk : lv ≤ k) : FPc lv r A (putI A 10 k v) := ⟨fun a _ _ h _ => pI_ne h, fun _ _ => Eq.refl _, fun j hj => pI_nk (by omega), fun q j h1 _ _ => by rw [pI_ne (by omega)]⟩
theorem FPc.pr {lv r q k : Nat} {A : Mem} {v : Int} (hq : 44 ≤ q ∧ q ≤ 48) (hk : r ≤ k) : FPc lv r A (putI A q k v) := ⟨fun a _ _ _ h => pI_ne (by omega), fun _ _ => Eq.refl _, fun j _ => by rw [pI_ne (by omega)], fun c j _ _ hj => by
  by_cases e : c = q
  · rw [e, pI_nk (by omega)]
  · rw [pI_ne e]⟩
theorem NR.pp {X' Y' : Mem} {a b lv r s : Nat} (h : NR X Y a b) (hx : FPc lv r X X') (hy : FPr s Y Y') : NR X' Y' a b := h.keep (hx.1 11 (by decide) (by decide) (by decide) (by decide)) (fun q h1 h2 => hx.2.1 q (by omega)) (fun k hk => hy.2.2.2.2 k (by omega)) (hy.2.1 187 (by decide))
/-- between two steps -/
def PSt (X Y : Mem) (f : Nat → Int) (n T i lv r s a b : Nat) : Prop := RT X Y f n T i ∧ Y.1 179 12 = 0 ∧ X.1 43 5 = (r : Int) ∧ X.1 43 6 = (s : Int) ∧ Y.1 179 26 = (s : Int) ∧ X.1 9 1 = (lv : Int) ∧ r + lv ≤ 2 * s ∧ s ≤ 30 ∧ lv ≤ 3 ∧ NR X Y a b
/-- a row more -/
def aR (M : Mem) (r : Nat) (w : Int) : Mem := putI (putI (putI (putI (putI (putI M (43 + 1) r w) (43 + 2) r 0) (43 + 3) r 0) (43 + 4) r 0) (43 + 5) r (r : Int)) 43 5 ((r + 1 : Nat) : Int)
theorem c_row {M : Mem} {r : Nat} (hr : M.1 43 5 = (r : Int)) (h60 : r < 60) (w : Int) : C2 d j_pl_addRow [vR 6 43, vI w] M = some (some (vI (r : Int)), aR M r w) := by
  have u : w32 ((r : Int) + 1) = ((r + 1 : Nat) : Int) := by rw [w32s (by omega)]; omega
  rw [q_pl_addRow, hr, if_pos (lo60 h60), if_pos (lo60 h60), if_pos (lo60 h60), if_pos (lo60 h60), if_pos (lo60 h60), Int.toNat_natCast, pI_ne (by decide), pI_ne (by decide), pI_ne (by decide), pI_ne (by decide), pI_ne (by decide), hr, u]
  rfl
theorem aR_f {lv r : Nat} {A : Mem} {w : Int} : FPc lv r A (aR A r w) := ((((((FPc.pr (q := 43 + 1) (by decide) (Nat.le_refl _)).tr (FPc.pr (q := 43 + 2) (by decide) (Nat.le_refl _)) (Nat.le_refl _) (Nat.le_refl _)).tr (FPc.pr (q := 43 + 3) (by decide) (Nat.le_refl _)) (Nat.le_refl _) (Nat.le_refl _)).tr (FPc.pr (q := 43 + 4) (by decide) (Nat.le_refl _)) (Nat.le_refl _) (Nat.le_refl _)).tr (FPc.pr (q := 43 + 5) (by decide) (Nat.le_refl _)) (Nat.le_refl _) (Nat.le_refl _)).tr FPc.p3 (Nat.le_refl _) (Nat.le_refl _))
theorem aR_n {A : Mem} {r c : Nat} {w : Int} (h : ¬ (43 ≤ c ∧ c ≤ 48)) : (aR A r w).1 c = A.1 c := by
  unfold aR
  rw [pI_ne (by omega), pI_ne (by omega), pI_ne (by omega), pI_ne (by omega), pI_ne (by omega), pI_ne (by omega)]
theorem aR_w {A : Mem} {r : Nat} {w : Int} : (aR A r w).1 (43 + 1) r = w := by
  unfold aR
  rw [pI_ne (by decide), pI_ne (by decide), pI_ne (by decide), pI_ne (by decide), pI_ne (by decide), pI_s]
theorem aR_3 {A : Mem} {r k : Nat} {w : Int} (h : k ≠ 5) : (aR A r w).1 43 k = A.1 43 k := by
  unfold aR
  rw [pI_nk h, pI_ne (by decide), pI_ne (by decide), pI_ne (by decide), pI_ne (by decide), pI_ne (by decide)]
theorem aR_5 {A : Mem} {r : Nat} {w : Int} : (aR A r w).1 43 5 = ((r + 1 : Nat) : Int) := pI_s
theorem RT.y26 {v : Int} (h : RT X Y f n T i) : RT X (putI Y 179 26 v) f n T i := by
  obtain ⟨h1, h2, h3, ⟨g1, g2, g3⟩, ⟨t1, t2, t3, t4, t5, t6⟩⟩ := h
  refine ⟨h1, h2, h3, ⟨fun k hk => ?_, ?_, g3⟩, ⟨?_, ?_, ?_, ?_, ?_, ?_⟩⟩
  · rw [pI_ne (by decide)]; exact g1 k hk
  · rw [pI_nk (by decide)]; exact g2
  · rw [pI_nk (by decide)]; exact t1
  · rw [pI_nk (by decide)]; exact t2
  · rw [pI_nk (by decide)]; exact t3
  · rw [pI_nk (by decide)]; exact t4
  · rw [pI_nk (by decide)]; exact t5
  · rw [pI_nk (by decide)]; exact t6
end Pst
