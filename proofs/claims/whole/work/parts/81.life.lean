/-! lives -/
theorem sm1_s {p : Nat → Bool} : ∀ n, n ≤ 8 → (0 ≤ smB p (fun _ => 1) n ∧ smB p (fun _ => 1) n ≤ n) ∧ (∀ q r : Nat → Bool, (∀ i, i < n → r i = (p i || q i) ∧ (p i && q i) = false) → smB p (fun _ => 1) n + smB q (fun _ => 1) n = smB r (fun _ => 1) n)
  | 0, _ => ⟨⟨Int.le_refl _, Int.le_refl _⟩, fun _ _ _ => rfl⟩
  | n + 1, hn => by
    have e : ∀ u : Nat → Bool, smB u (fun _ => 1) (n + 1) = bif u n then w32 (smB u (fun _ => 1) n + 1) else smB u (fun _ => 1) n := fun u => rfl
    have hp := @sm1_s p n (by omega)
    refine ⟨?_, fun q r h => ?_⟩
    · rw [e p]
      have := hp.1
      cases p n
      · simp only [cond_false]; omega
      · simp only [cond_true]; rw [w32s (by omega)]; omega
    · have hq := (@sm1_s q n (by omega)).1
      have hr := (@sm1_s r n (by omega)).1
      have hs := hp.2 q r (fun i hi => h i (by omega))
      have h1 := hp.1
      rw [e p, e q, e r]
      obtain ⟨g1, g2⟩ := h n (by omega)
      rw [g1]
      cases hpn : p n <;> cases hqn : q n <;> rw [hpn, hqn] at g2 <;> simp only [cond_true, cond_false, Bool.or_false, Bool.or_true, Bool.false_or, Bool.true_or]
      · omega
      · rw [w32s (by omega), w32s (by omega)]; omega
      · rw [w32s (by omega), w32s (by omega)]; omega
      · cases g2
theorem sz_die {V : Nat → Int} {n : Int} (hw : Wf V) (hn : 0 ≤ n ∧ n ≤ 300) : sSz (sDie V n) + sSz (sDi1 (vY V n)) = sSz (sDie V (n + 1)) := by
  refine (@sm1_s (fun h => bt (sDie V n) h) 8 (by decide)).2 _ _ fun i hi => ⟨?_, ?_⟩
  · show bt (sDie V (n + 1)) i = (bt (sDie V n) i || bt (sDi1 (vY V n)) i)
    rw [← die_s hw hn, bt_or]
  · have hc := hw.1
    have hc' := hc
    unfold Wc at hc'
    have a1 : vY V n 1 = V 1 := vY_c (by omega)
    have a3 : vY V n 3 = V 3 := vY_c (by omega)
    show (bt (sDie V n) i && bt (sDi1 (vY V n)) i) = false
    unfold sDie sDi1
    rw [bt_msk (by omega) (by omega), bt_msk (by rw [a1]; omega) (by omega), a1]
    by_cases ci : i < (V 1).toNat
    · have hh : (i : Int) < V 1 := by omega
      rw [decide_eq_true ci, a3, vY_a hc hh, vY_s hc hh]
      by_cases c : V (57 + i) = 0
      · by_cases c1 : sLeft V i ≤ n
        · simp [c, c1]
        · simp [c, c1]
      · simp [c]
    · rw [decide_eq_false ci]; rfl
theorem w32_w {a b : Int} : w32 (w32 a + b) = w32 (a + b) := by unfold w32; omega
theorem rI_w {a : Int} : rI (w32 a) := by unfold rI w32; omega
def LR (X Y : Mem) (lf e : Nat) : Prop := Rl X e (mV Y) ∧ Wf (mV Y) ∧ (∀ j, j < 6 → X.1 lf j = Y.1 179 (37 + j)) ∧ X.1 lf 6 = Y.1 179 36 ∧ (0 ≤ Y.1 179 36 ∧ Y.1 179 36 ≤ 65535) ∧ (Y.1 179 42 = 0 ∨ Y.1 179 42 = 1) ∧ (∀ j, 2 ≤ j → j ≤ 4 → rI (Y.1 179 (37 + j)))
def FY (Y Y' : Mem) : Prop := (∀ a, a ≠ 179 → a ≠ 184 → Y'.1 a = Y.1 a) ∧ Y'.2 = Y.2 ∧ (∀ k, ¬ (35 ≤ k ∧ k ≤ 42) → Y'.1 179 k = Y.1 179 k) ∧ (∀ k, 73 ≤ k ∨ k < 3 → mV Y' k = mV Y k)
def FX (lf e : Nat) (X X' : Mem) : Prop := (∀ a, ¬ (e ≤ a ∧ a < e + 28) → a ≠ lf → a ≠ lf + 1 → X'.1 a = X.1 a) ∧ (∀ a, e + 4 ≤ a → a < e + 10 → X'.1 a = X.1 a) ∧ X'.2 = X.2
theorem FY.rfl {Y : Mem} : FY Y Y := ⟨fun _ _ _ => Eq.refl _, Eq.refl _, fun _ _ => Eq.refl _, fun _ _ => Eq.refl _⟩
theorem FY.tr {A B C : Mem} (h : FY A B) (g : FY B C) : FY A C := ⟨fun a h1 h2 => (g.1 a h1 h2).trans (h.1 a h1 h2), g.2.1.trans h.2.1, fun k hk => (g.2.2.1 k hk).trans (h.2.2.1 k hk), fun k hk => (g.2.2.2 k hk).trans (h.2.2.2 k hk)⟩
theorem FX.rfl {lf e : Nat} {X : Mem} : FX lf e X X := ⟨fun _ _ _ _ => Eq.refl _, fun _ _ _ => Eq.refl _, Eq.refl _⟩
theorem FX.tr {lf e : Nat} {A B C : Mem} (h : FX lf e A B) (g : FX lf e B C) : FX lf e A C := ⟨fun a h1 h2 h3 => (g.1 a h1 h2 h3).trans (h.1 a h1 h2 h3), fun a h1 h2 => (g.2.1 a h1 h2).trans (h.2.1 a h1 h2), g.2.2.trans h.2.2⟩
/-- one step of both -/
def StO (lf e : Nat) (X Y X' Y' : Mem) : Prop := LR X' Y' lf e ∧ FX lf e X X' ∧ FY Y Y' ∧ X'.1 (lf + 1) = X.1 (lf + 1) ∧ Y'.1 179 35 = Y.1 179 35 ∧ Y'.1 179 37 = Y.1 179 37 ∧ Y'.1 179 38 = Y.1 179 38 ∧ Y'.1 179 42 = Y.1 179 42
section Lf
variable {X Y X' : Mem} {lf e : Nat}
theorem StO.tr {A B C D E F : Mem} (h : StO lf e A B C D) (g : StO lf e C D E F) : StO lf e A B E F := by
  obtain ⟨h1, h2, h3, h4, h5, h6, h7, h8⟩ := h
  obtain ⟨g1, g2, g3, g4, g5, g6, g7, g8⟩ := g
  exact ⟨g1, h2.tr g2, h3.tr g3, g4.trans h4, g5.trans h5, g6.trans h6, g7.trans h7, g8.trans h8⟩
theorem StO.rfl (h : LR X Y lf e) : StO lf e X Y X Y := ⟨h, FX.rfl, FY.rfl, Eq.refl _, Eq.refl _, Eq.refl _, Eq.refl _, Eq.refl _⟩
theorem LR.deed (h : LR X Y lf e) (hl : e + 28 ≤ lf) {W : Nat → Int} (hf : Fe e X X') (hr : Rl X' e W) (hw : Wf W) (hk : ∀ k, 73 ≤ k ∨ k < 5 → W k = mV Y k) : StO lf e X Y X' (setC Y W) := by
  obtain ⟨h1, h2, h3, h4, h5, h6, h7⟩ := h
  have k9 : (setC Y W).1 179 = Y.1 179 := set_ne (by decide)
  have kl : X'.1 lf = X.1 lf := hf.1 lf (by omega)
  refine ⟨⟨by rw [mV_set]; exact hr, by rw [mV_set]; exact hw, ?_, ?_, ?_, ?_, ?_⟩, ⟨fun a g1 _ _ => hf.1 a g1, hf.2.1, hf.2.2⟩, ⟨fun a _ g2 => set_ne g2, Eq.refl _, fun k _ => by rw [k9], fun k g => by rw [mV_set]; exact hk k (by omega)⟩, hf.1 _ (by omega), ?_, ?_, ?_, ?_⟩
  · rw [kl, k9]; exact h3
  · rw [kl, k9]; exact h4
  · rw [k9]; exact h5
  · rw [k9]; exact h6
  · rw [k9]; exact h7
  · rw [k9]
  · rw [k9]
  · rw [k9]
  · rw [k9]
theorem mV_9 {k : Nat} {v : Int} : mV (putI Y 179 k v) = mV Y := mV_i (by decide)
theorem LR.rl (h : LR X Y lf e) : Rl X e (mV Y) := h.1
/-- a count that is kept on both sides -/
theorem LR.put (h : LR X Y lf e) (hl : e + 28 ≤ lf) (j : Nat) (hj : j < 6) (v : Int) (h5 : j = 5 → v = 0 ∨ v = 1) (h4 : 2 ≤ j → j ≤ 4 → rI v) : LR (putI X lf j v) (putI Y 179 (37 + j) v) lf e := by
  obtain ⟨a1, a2, a3, a4, a5, a6, a7⟩ := h
  refine ⟨?_, by rw [mV_9]; exact a2, fun i hi => ?_, ?_, ?_, ?_, ?_⟩
  · rw [mV_9]
    exact a1.cong fun a g1 g2 => pI_ne (by omega)
  · by_cases c : i = j
    · rw [c, pI_s, pI_s]
    · rw [pI_nk c, pI_nk (by omega)]; exact a3 i hi
  · rw [pI_nk (by omega), pI_nk (by omega)]; exact a4
  · rw [pI_nk (by omega)]; exact a5
  · by_cases c : j = 5
    · rw [c, pI_s]; exact h5 c
    · rw [pI_nk (by omega)]; exact a6
  · intro i i2 i4
    by_cases c : j = i
    · subst c; rw [pI_s]; exact h4 i2 i4
    · rw [pI_nk (by omega)]; exact a7 i i2 i4
theorem FX.p {j : Nat} {v : Int} (hl : e + 28 ≤ lf) : FX lf e X (putI X lf j v) := ⟨fun a _ g _ => pI_ne g, fun a g1 g2 => pI_ne (by omega), Eq.refl _⟩
theorem FY.p {j : Nat} {v : Int} (hj : 35 ≤ j ∧ j ≤ 42) : FY Y (putI Y 179 j v) := ⟨fun a g _ => pI_ne g, Eq.refl _, fun k hk => pI_nk (by omega), fun k _ => by rw [mV_9]⟩
theorem LR.cnt (h : LR X Y lf e) (hl : e + 28 ≤ lf) (j : Nat) (hj : 2 ≤ j ∧ j ≤ 4) (v : Int) (h4 : rI v) : StO lf e X Y (putI X lf j v) (putI Y 179 (37 + j) v) := by
  refine ⟨h.put hl j (by omega) v (by omega) (fun _ _ => h4), FX.p hl, FY.p (by omega), pI_ne (by omega), ?_, ?_, ?_, ?_⟩
  · exact pI_nk (by omega)
  · exact pI_nk (by omega)
  · exact pI_nk (by omega)
  · exact pI_nk (by omega)
theorem LR.draw (h : LR X Y lf e) (hl : e + 28 ≤ lf) (v : Int) (hv : 0 ≤ v ∧ v ≤ 65535) : StO lf e X Y (putI X lf 6 v) (putI Y 179 36 v) := by
  obtain ⟨a1, a2, a3, a4, a5, a6, a7⟩ := h
  refine ⟨⟨?_, by rw [mV_9]; exact a2, fun i hi => ?_, ?_, ?_, ?_, ?_⟩, FX.p hl, FY.p (by omega), pI_ne (by omega), ?_, ?_, ?_, ?_⟩
  · rw [mV_9]
    exact a1.cong fun a g1 g2 => pI_ne (by omega)
  · rw [pI_nk (by omega), pI_nk (by omega)]; exact a3 i hi
  · rw [pI_s, pI_s]
  · rw [pI_s]; exact hv
  · rw [pI_nk (by omega)]; exact a6
  · intro i i2 i4
    rw [pI_nk (by omega)]; exact a7 i i2 i4
  · exact pI_nk (by omega)
  · exact pI_nk (by omega)
  · exact pI_nk (by omega)
  · exact pI_nk (by omega)
theorem put_own {M : Mem} {a k : Nat} {v : Int} (h : v = M.1 a k) : putI M a k v = M := by
  subst h
  refine Prod.ext (funext fun b => funext fun j => ?_) (Eq.refl _)
  show up2 M.1 a k (M.1 a k) b j = M.1 b j
  unfold up2
  by_cases c : b = a ∧ j = k
  · rw [if_pos c, c.1, c.2]
  · rw [if_neg c]
end Lf
