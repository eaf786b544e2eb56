/-! both readers at a token -/
def wdF (f : Nat → Int) (n a : Nat) : Int := if tK f n a = 1 then (if en isLe f n a - a ≤ 8 then cd f a (en isLe f n a - a) else 0) else 0
/-- the class has laid out all tokens -/
def KyF (X : Mem) : Prop := KyR X ∧ X.1 3 12 = 0 ∧ X.1 3 13 = -1
def RdT (X : Mem) (f : Nat → Int) (n T : Nat) : Prop := (∀ j, j ≤ T → X.1 5 j = tK f n (tkA f n j) ∧ X.1 6 j = ((tkA f n j : Nat) : Int) ∧ Vs f n (tkA f n j) (X.2.1 7 j)) ∧ (∀ j, j < T → tkA f n j < n) ∧ tkA f n T = n ∧ X.1 3 4 = (T : Int) ∧ X.1 3 6 = (n : Int) ∧ n ≤ 900 ∧ T ≤ n ∧ KyF X
def RdS (X : Mem) (f : Nat → Int) (n i : Nat) : Prop := X.1 3 5 = (i : Int) ∧ X.1 3 7 = tK f n (tkA f n i) ∧ X.2.1 3 9 = wdF f n (tkA f n i) ∧ X.1 3 10 = kwI (wdF f n (tkA f n i)) ∧ (tK f n (tkA f n i) = 2 → X.1 3 8 = nm f (tkA f n i) (en isDi f n (tkA f n i) - tkA f n i)) ∧ (tK f n (tkA f n i) = 3 → X.1 3 8 = f (tkA f n i))
/-- what the class changes when it goes on -/
def FCr (X X' : Mem) : Prop := (∀ a, a ≠ 3 → X'.1 a = X.1 a ∧ X'.2.1 a = X.2.1 a) ∧ (∀ k, k ≠ 5 → k ≠ 7 → k ≠ 8 → k ≠ 10 → X'.1 3 k = X.1 3 k) ∧ (∀ k, k ≠ 9 → X'.2.1 3 k = X.2.1 3 k)
theorem FCr.rfl {X : Mem} : FCr X X := ⟨fun _ _ => ⟨Eq.refl _, Eq.refl _⟩, fun _ _ _ _ _ => Eq.refl _, fun _ _ => Eq.refl _⟩
theorem FCr.tr {A B C : Mem} (h : FCr A B) (g : FCr B C) : FCr A C := ⟨fun a h1 => ⟨(g.1 a h1).1.trans (h.1 a h1).1, (g.1 a h1).2.trans (h.1 a h1).2⟩, fun k h1 h2 h3 h4 => (g.2.1 k h1 h2 h3 h4).trans (h.2.1 k h1 h2 h3 h4), fun k hk => (g.2.2 k hk).trans (h.2.2 k hk)⟩
theorem fcr_adM {M : Mem} {i : Nat} : FCr M (adM M i) := by
  refine ⟨fun a ha => ⟨?_, ?_⟩, fun k h1 h2 h3 h4 => ?_, fun k hk => ?_⟩
  · unfold adM
    rw [pI_ne ha, pI_ne ha]
    show (putI (putI M 3 5 (i : Int)) 3 7 (M.1 5 i)).1 a = _
    rw [pI_ne ha, pI_ne ha]
  · show (putL (putI (putI M 3 5 (i : Int)) 3 7 (M.1 5 i)) 3 9 _).2.1 a = _
    rw [pL_ne ha]
  · unfold adM
    rw [pI_nk h4, pI_nk h3]
    show (putI (putI M 3 5 (i : Int)) 3 7 (M.1 5 i)).1 3 k = _
    rw [pI_nk h2, pI_nk h1]
  · show (putL (putI (putI M 3 5 (i : Int)) 3 7 (M.1 5 i)) 3 9 _).2.1 3 k = _
    rw [pL_nk hk]
theorem RdT.fc {X X' : Mem} {f : Nat → Int} {n T : Nat} (h : RdT X f n T) (g : FCr X X') : RdT X' f n T := by
  obtain ⟨h1, h2, h3, h4, h5, h6, h7, h8⟩ := h
  refine ⟨fun j hj => ?_, h2, h3, ?_, ?_, h6, h7, fun j hj => ?_, ?_, ?_⟩
  · rw [(g.1 5 (by decide)).1, (g.1 6 (by decide)).1, (g.1 7 (by decide)).2]; exact h1 j hj
  · rw [g.2.1 4 (by decide) (by decide) (by decide) (by decide)]; exact h4
  · rw [g.2.1 6 (by decide) (by decide) (by decide) (by decide)]; exact h5
  · rw [(g.1 4 (by decide)).2]; exact h8.1 j hj
  · rw [g.2.1 12 (by decide) (by decide) (by decide) (by decide)]; exact h8.2.1
  · rw [g.2.1 13 (by decide) (by decide) (by decide) (by decide)]; exact h8.2.2
section Rdr
variable (d : Nat) {f : Nat → Int} {n T : Nat}
theorem nm_len {a : Nat} (h : tK f n a = 2) : en isDi f n a - a ≤ 4 ∧ a < n := by
  unfold tK at h
  by_cases c : a < n
  · rw [if_pos c] at h
    refine ⟨?_, c⟩
    cases c1 : isLe (f a) <;> rw [c1] at h
    · cases c2 : isDi (f a) <;> rw [c2] at h
      · cases c3 : isSg (f a) <;> rw [c3] at h <;> simp at h
      · by_cases c4 : en isDi f n a - a ≤ 4
        · exact c4
        · rw [if_neg c4] at h; simp at h
    · simp at h
  · rw [if_neg c] at h; simp at h
/-- the run between a place and its end -/
theorem en_all {q : Int → Bool} : ∀ (k p : Nat), n - p = k → ∀ i, p ≤ i → i < en q f n p → q (f i) = true := by
  intro k
  induction k with
  | zero => intro p hp i h1 h2; rw [en_st (Or.inl (by omega))] at h2; omega
  | succ k ih =>
    intro p hp i h1 h2
    cases hq : q (f p)
    · rw [en_st (Or.inr hq)] at h2; omega
    · by_cases c : i = p
      · rw [c]; exact hq
      · rw [en_go (by omega) hq] at h2
        exact ih (p + 1) (by omega) i (by omega) h2
theorem nm_bd {a : Nat} (h : tK f n a = 2) : 0 ≤ nm f a (en isDi f n a - a) ∧ nm f a (en isDi f n a - a) < 10000 := by
  obtain ⟨h4, _⟩ := nm_len h
  have b := nm_b (f := f) (a := a) (en isDi f n a - a) h4 (fun i hi => en_all (n := n) (n - a) a rfl (a + i) (by omega) (by omega))
  have := p10 (en isDi f n a - a) (by omega)
  omega
theorem rds_ad {X : Mem} (h : RdT X f n T) {i : Nat} (hi : i ≤ T) (hf : ∀ k, k < n → -128 ≤ f k ∧ f k ≤ 127) : RdS (adM X i) f n i := by
  obtain ⟨h1, h2, h3, h4, h5, h6, h7, h8⟩ := h
  obtain ⟨a1, a2, a3⟩ := h1 i hi
  have ew : (if X.1 5 i = 1 then X.2.1 7 i else 0) = wdF f n (tkA f n i) := by
    unfold wdF
    rw [a1]
    by_cases c : tK f n (tkA f n i) = 1
    · rw [if_pos c, if_pos c, a3.1 c]
    · rw [if_neg c, if_neg c]
  refine ⟨?_, ?_, ?_, ?_, fun g => ?_, fun g => ?_⟩
  · unfold adM
    rw [pI_nk (by decide), pI_nk (by decide)]
    show (putI (putI X 3 5 (i : Int)) 3 7 (X.1 5 i)).1 3 5 = _
    rw [pI_nk (by decide), pI_s]
  · unfold adM
    rw [pI_nk (by decide), pI_nk (by decide)]
    show (putI (putI X 3 5 (i : Int)) 3 7 (X.1 5 i)).1 3 7 = _
    rw [pI_s, a1]
  · show (putL (putI (putI X 3 5 (i : Int)) 3 7 (X.1 5 i)) 3 9 _).2.1 3 9 = _
    rw [pL_s, ew]
  · unfold adM
    rw [pI_s, ew]
  · have e8 : (adM X i).1 3 8 = (if X.1 5 i = 1 then 0 else w32 (X.2.1 7 i)) := by
      unfold adM
      rw [pI_nk (by decide), pI_s]
    have r := nm_bd g
    rw [e8, a1, g, if_neg (by decide), a3.2.1 g, w32s (by omega)]
  · have e8 : (adM X i).1 3 8 = (if X.1 5 i = 1 then 0 else w32 (X.2.1 7 i)) := by
      unfold adM
      rw [pI_nk (by decide), pI_s]
    have hn : tkA f n i < n := by
      by_cases c : i = T
      · exfalso
        rw [c, h3] at g
        unfold tK at g
        rw [if_neg (by omega)] at g
        simp at g
      · exact h2 i (by omega)
    have r := hf _ hn
    rw [e8, a1, g, if_neg (by decide), a3.2.2 g, w32s (by omega)]
/-- both at token i -/
def RT (X Y : Mem) (f : Nat → Int) (n T i : Nat) : Prop := RdT X f n T ∧ i ≤ T ∧ RdS X f n i ∧ Ty Y f n ∧ TS Y f n (tkA f n i)
theorem tkA_n : ∀ i : Nat, tkA f n i ≤ n
  | 0 => en_n (Nat.zero_le _)
  | i + 1 => en_n (by
    have := tkA_n i
    by_cases c : tkA f n i < n
    · exact (tB_b c).2
    · unfold tB; rw [if_neg c]; exact this)
theorem tB_n {a : Nat} (h : a ≤ n) : tB f n a ≤ n := by
  by_cases c : a < n
  · exact (tB_b c).2
  · unfold tB; rw [if_neg c]; exact h
/-- both go on -/
theorem adv_both {X Y : Mem} {i : Nat} (h : RT X Y f n T i) : C2 d j_rd_advance [vR 8 3] X = some (none, adM X (min (i + 1) T)) ∧ ∃ Y', C2 d j_m_advance [vR 12 179] Y = some (none, Y') ∧ RT (adM X (min (i + 1) T)) Y' f n T (min (i + 1) T) ∧ FCr X (adM X (min (i + 1) T)) ∧ FT Y Y' := by
  obtain ⟨h1, hi, h2, h3, h4⟩ := h
  have hn := h1.2.2.2.2.2.1
  have hT := h1.2.2.2.2.2.2.1
  have hx := rd_adv d (T := T) h1.2.2.2.2.2.2.2.1 (i : Int) (by omega) (by omega) h1.2.2.2.1 h2.1
  rw [show (min ((i : Int) + 1) (T : Int)).toNat = min (i + 1) T by omega] at hx
  refine ⟨hx, ?_⟩
  obtain ⟨Y', y1, y2, y3⟩ := m_adv d h3 (b := tB f n (tkA f n i)) (tB_n (tkA_n i)) h4.2.2.1
  refine ⟨Y', y1, ⟨h1.fc fcr_adM, by omega, rds_ad h1 (by omega) (fun k hk => (h3.1 k hk).2), h3.ft y3, ?_⟩, fcr_adM, y3⟩
  by_cases c : i < T
  · rw [show min (i + 1) T = i + 1 by omega]; exact y2
  · have : i = T := by omega
    subst this
    rw [show min (i + 1) i = i by omega]
    have e : en isBl f n (tB f n (tkA f n i)) = tkA f n i := by
      rw [h1.2.2.1]
      unfold tB
      rw [if_neg (by omega), en_st (Or.inl (by omega))]
    rw [e] at y2; exact y2
end Rdr
