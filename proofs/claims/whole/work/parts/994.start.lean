section Start
variable (d : Nat) {f : Nat → Int} {n : Nat}
theorem tK_n : tK f n n = 0 := if_neg (by omega)
theorem vs_n {v : Int} : Vs f n n v := ⟨fun g => by rw [tK_n] at g; simp at g, fun g => by rw [tK_n] at g; simp at g, fun g => by rw [tK_n] at g; simp at g⟩
/-- the class lays out the text -/
theorem beg_c {X : Mem} (ht : ∀ k, k < n → X.1 2 k = f k ∧ -128 ≤ f k ∧ f k ≤ 127) (h9 : n ≤ 900) (hk : KyR X) : ∃ (T : Nat) (X' : Mem), C2 d j_rd_begin [vR 8 3, vR 21 2, vI (n : Int)] X = some (none, X') ∧ RdT X' f n T ∧ RdS X' f n 0 ∧ X'.1 3 12 = 0 ∧ X'.1 3 13 = -1 ∧ FRd X X' := by
  have F0 : FRd X (putI (putI X 3 6 (n : Int)) 3 4 0) := fun a g3 _ _ _ => ⟨by rw [pI_ne g3, pI_ne g3], rfl⟩
  have t0 : Tx (putI (putI X 3 6 (n : Int)) 3 4 0) f n 0 := by
    refine ⟨fun k hk => ?_, ?_, pI_s, h9, Nat.zero_le _⟩
    · rw [pI_ne (by decide), pI_ne (by decide)]; exact (ht k hk).1
    · rw [pI_nk (by decide), pI_s]
  obtain ⟨T, i', M', e1, e2, e3, e4, e5⟩ := begL d (f := f) (n := n) n 0 0 0 _ (by omega) (Nat.zero_le _) (Nat.le_refl _) (Nat.le_refl _) t0 rfl (fun j hj => by omega)
  have hT := e2.2.2.2.2
  have kB : ∀ a, a ≠ 3 → a ≠ 5 → a ≠ 6 → a ≠ 7 → (bgM M' n T).1 a = M'.1 a ∧ (bgM M' n T).2.1 a = M'.2.1 a := fun a g3 g5 g6 g7 => by
    constructor
    · unfold bgM
      rw [pI_ne g3, pI_ne g3, pI_ne g3]
      show (putI (putI M' 5 T 0) 6 T (n : Int)).1 a = _
      rw [pI_ne g6, pI_ne g5]
    · show (putL (putI (putI M' 5 T 0) 6 T (n : Int)) 7 T 0).2.1 a = _
      rw [pL_ne g7]
  have k5 : ∀ j, (bgM M' n T).1 5 j = if j = T then 0 else M'.1 5 j := fun j => by
    unfold bgM
    rw [pI_ne (by decide), pI_ne (by decide), pI_ne (by decide)]
    show (putI (putI M' 5 T 0) 6 T (n : Int)).1 5 j = _
    rw [pI_ne (by decide)]
    by_cases c : j = T
    · rw [c, pI_s, if_pos rfl]
    · rw [pI_nk c, if_neg c]
  have k6 : ∀ j, (bgM M' n T).1 6 j = if j = T then (n : Int) else M'.1 6 j := fun j => by
    unfold bgM
    rw [pI_ne (by decide), pI_ne (by decide), pI_ne (by decide)]
    show (putI (putI M' 5 T 0) 6 T (n : Int)).1 6 j = _
    by_cases c : j = T
    · rw [c, pI_s, if_pos rfl]
    · rw [pI_nk c, pI_ne (by decide), if_neg c]
  have k7 : ∀ j, (bgM M' n T).2.1 7 j = if j = T then 0 else M'.2.1 7 j := fun j => by
    show (putL (putI (putI M' 5 T 0) 6 T (n : Int)) 7 T 0).2.1 7 j = _
    by_cases c : j = T
    · rw [c, pL_s, if_pos rfl]
    · rw [pL_nk c, if_neg c]
  have k3 : ∀ j, j ≠ 12 → j ≠ 13 → j ≠ 5 → (bgM M' n T).1 3 j = M'.1 3 j := fun j g1 g2 g3 => by
    unfold bgM
    rw [pI_nk g3, pI_nk g2, pI_nk g1]
    show (putI (putI M' 5 T 0) 6 T (n : Int)).1 3 j = _
    rw [pI_ne (by decide), pI_ne (by decide)]
  have kK : KyR (bgM M' n T) := fun j hj => by
    rw [(kB 4 (by decide) (by decide) (by decide) (by decide)).2, (e5 4 (by decide) (by decide) (by decide) (by decide)).2, (F0 4 (by decide) (by decide) (by decide) (by decide)).2]
    exact hk j hj
  have R : RdT (bgM M' n T) f n T := by
    refine ⟨fun j hj => ?_, fun j hj => (e3 j hj).2.2.2, e4, ?_, ?_, h9, hT, kK, by unfold bgM; rw [pI_nk (by decide), pI_nk (by decide), pI_s], by unfold bgM; rw [pI_nk (by decide), pI_s]⟩
    · rw [k5, k6, k7]
      by_cases c : j = T
      · rw [if_pos c, if_pos c, if_pos c, c, e4]
        exact ⟨tK_n.symm, rfl, vs_n⟩
      · rw [if_neg c, if_neg c, if_neg c]
        have := e3 j (by omega)
        exact ⟨this.1, this.2.1, this.2.2.1⟩
    · rw [k3 4 (by decide) (by decide) (by decide)]; exact e2.2.2.1
    · rw [k3 6 (by decide) (by decide) (by decide)]; exact e2.2.1
  have hb5 : (bgM M' n T).1 3 5 = -1 := pI_s
  have ad := rd_adv d (T := T) kK (-1) (by omega) (by omega) R.2.2.2.1 hb5
  rw [show (min ((-1 : Int) + 1) (T : Int)).toNat = 0 by omega] at ad
  have fc := fcr_adM (M := bgM M' n T) (i := 0)
  refine ⟨T, adM (bgM M' n T) 0, ?_, R.fc fc, rds_ad R (Nat.zero_le _) (fun k hk => (ht k hk).2), ?_, ?_, ?_⟩
  · rw [q_rd_begin, mn_I, bI_k, mn_I, bI_k, mx_I, bI_k, show max 0 (min (n : Int) (min 900 900)) = (n : Int) by omega, show (0 : Int) = ((0 : Nat) : Int) from rfl]
    show E2 d r_rd_begin 17 [(0, vR 8 3), (1, vR 21 2), (3, vI ((0 : Nat) : Int)), (4, vI ((0 : Nat) : Int))] [] (putI (putI X 3 6 (n : Int)) 3 4 0) = _
    rw [e1, begE d e2, ad, bV_k]
  · rw [fc.2.1 12 (by decide) (by decide) (by decide) (by decide)]
    unfold bgM
    rw [pI_nk (by decide), pI_nk (by decide), pI_s]
  · rw [fc.2.1 13 (by decide) (by decide) (by decide) (by decide)]
    unfold bgM
    rw [pI_nk (by decide), pI_s]
  · exact fun a g3 g5 g6 g7 => ⟨by rw [(fc.1 a g3).1, (kB a g3 g5 g6 g7).1, (e5 a g3 g5 g6 g7).1, (F0 a g3 g5 g6 g7).1], by rw [(fc.1 a g3).2, (kB a g3 g5 g6 g7).2, (e5 a g3 g5 g6 g7).2, (F0 a g3 g5 g6 g7).2]⟩
/-- the reference begins to read -/
theorem beg_m {Y : Mem} (ht : ∀ k, k < n → Y.1 183 k = f k ∧ -128 ≤ f k ∧ f k ≤ 127) (lim : Int) (hl : (n : Int) ≤ lim) (h8 : (n : Int) ≤ Y.1 179 8) (h9 : n ≤ 900) : ∃ Y', C2 d j_m_starts [vR 12 179, vI (n : Int), vI lim] Y = some (some (vI 1), Y') ∧ Ty Y' f n ∧ TS Y' f n (tkA f n 0) ∧ Y'.1 179 12 = 0 ∧ Y'.1 179 8 = 0 ∧ (∀ a, a ≠ 179 → Y'.1 a = Y.1 a ∧ Y'.2.1 a = Y.2.1 a) ∧ (∀ k, k ≠ 8 → k ≠ 9 → ¬ (12 ≤ k ∧ k ≤ 18) → k ≠ 12 → Y'.1 179 k = Y.1 179 k) ∧ (∀ k, k ≠ 19 → Y'.2.1 179 k = Y.2.1 179 k) := by
  have t0 : Ty (putI (putI (putI (putI Y 179 9 (n : Int)) 179 8 0) 179 16 0) 179 12 0) f n := by
    refine ⟨fun k hk => ?_, ?_, h9⟩
    · rw [pI_ne (by decide), pI_ne (by decide), pI_ne (by decide), pI_ne (by decide)]; exact ht k hk
    · rw [pI_nk (by decide), pI_nk (by decide), pI_nk (by decide), pI_s]
  obtain ⟨Y', y1, y2, y3⟩ := m_adv d t0 (b := 0) (Nat.zero_le _) (by rw [pI_nk (by decide), pI_s]; rfl)
  refine ⟨Y', ?_, t0.ft y3, y2, ?_, ?_, fun a ha => ⟨?_, ?_⟩, fun k g8 g9 g12 g => ?_, fun k hk => ?_⟩
  · rw [q_m_starts, if_neg (by omega), if_neg (by omega), if_neg (by omega), y1, bV_k]
  · rw [y3.2.1 12 (by decide)]; exact pI_s
  · rw [y3.2.1 8 (by decide), pI_nk (by decide), pI_nk (by decide), pI_s]
  · rw [(y3.1 a ha).1, pI_ne ha, pI_ne ha, pI_ne ha, pI_ne ha]
  · rw [(y3.1 a ha).2]
  · rw [y3.2.1 k (by omega), pI_nk g, pI_nk (by omega), pI_nk g8, pI_nk g9]
  · rw [y3.2.2 k hk]
end Start
