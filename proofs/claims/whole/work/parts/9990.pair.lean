section Pair
variable (d : Nat) {f : Nat → Int} {n T i : Nat} {X Y : Mem}
theorem BdO.pre {X1 Y1 X' Y' : Mem} (hz : FZ X X1) (hw : FW Y Y1) (h : BdO X1 Y1 X' Y') : BdO X Y X' Y' := ⟨h.1, hz.tr h.2.1, hw.tr h.2.2⟩
theorem GdO.pre {X1 Y1 X' Y' : Mem} {j : Nat} (hz : FZ X X1) (hw : FT Y Y1) (h : GdO X1 Y1 X' Y' f n T j) : GdO X Y X' Y' f n T j := ⟨h.1, h.2.1, hz.tr h.2.2.1, hw.tr h.2.2.2⟩
/-- a word, and a number behind it -/
theorem t_wn (h : RT X Y f n T i) (h0 : Y.1 179 12 = 0) (j lo hi : Int) : ∃ X' Y' b v, C2 d j_rd_takeWordAndNumber [vR 8 3, vI j, vI lo, vI hi] X = some (some (vI (b01 b)), X') ∧ C2 d j_m_behindWord [vR 12 179, vI (b01 (decide (kwI (wdF f n (tkA f n i)) = j))), vI lo, vI hi] Y = some (some (vI v), Y') ∧ ((b = true ∧ GdO X Y X' Y' f n T (min (min (i + 1) T + 1) T) ∧ X'.1 3 11 = v ∧ lo ≤ v ∧ v ≤ hi) ∨ (b = false ∧ v = 0 ∧ BdO X Y X' Y')) := by
  obtain ⟨X1, Y1, b, a1, a2, a3⟩ := t_word d h h0 j
  rcases a3 with ⟨rfl, a3, a4⟩ | ⟨rfl, a3⟩
  · obtain ⟨X2, Y2, b, v, b1, b2, b3⟩ := t_num d a3.1 a3.2.1 lo hi
    refine ⟨X2, Y2, b, v, ?_, ?_, ?_⟩
    · rw [q_rd_takeWordAndNumber, a1, bI_k, if_neg (by decide), b1, bI_k]
      cases b
      · rw [if_pos b01_f]; rfl
      · rw [if_neg (by decide)]; rfl
    · rw [q_m_behindWord, a2, bV_k, b2, bI_k]
    · rcases b3 with ⟨c0, c1, c2⟩ | ⟨c0, c1, c2⟩
      · exact Or.inl ⟨c0, c1.pre a3.2.2.1 a3.2.2.2, c2⟩
      · exact Or.inr ⟨c0, c1, c2.pre a3.2.2.1 a3.2.2.2.w⟩
  · refine ⟨X1, Y1, false, 0, ?_, ?_, Or.inr ⟨rfl, rfl, a3⟩⟩
    · rw [q_rd_takeWordAndNumber, a1, bI_k, if_pos b01_f]; rfl
    · rw [q_m_behindWord, a2, bV_k, f_count d a3.1.pos, bI_k]
/-- a word that may stand there, with its number -/
theorem t_opt (h : RT X Y f n T i) (h0 : Y.1 179 12 = 0) (j lo hi wo : Int) : (¬ kwI (wdF f n (tkA f n i)) = j ∧ C2 d j_rd_takeOptional [vR 8 3, vI j, vI lo, vI hi, vI wo] X = some (some (vI 1), putI X 3 11 wo) ∧ C2 d j_m_perhaps [vR 12 179, vI (b01 (decide (kwI (wdF f n (tkA f n i)) = j)))] Y = some (some (vI 0), Y) ∧ RT (putI X 3 11 wo) Y f n T i) ∨ (∃ X' Y1 Y' b v, C2 d j_rd_takeOptional [vR 8 3, vI j, vI lo, vI hi, vI wo] X = some (some (vI (b01 b)), X') ∧ C2 d j_m_perhaps [vR 12 179, vI (b01 (decide (kwI (wdF f n (tkA f n i)) = j)))] Y = some (some (vI 1), Y1) ∧ C2 d j_m_count [vR 12 179, vI lo, vI hi] Y1 = some (some (vI v), Y') ∧ ((b = true ∧ GdO X Y X' Y' f n T (min (min (i + 1) T + 1) T) ∧ X'.1 3 11 = v ∧ lo ≤ v ∧ v ≤ hi) ∨ (b = false ∧ v = 0 ∧ BdO X Y X' Y'))) := by
  have k : (putI X 3 11 wo).1 3 10 = kwI (wdF f n (tkA f n i)) := by
    rw [pI_nk (by decide)]; exact h.2.2.1.2.2.2.1
  by_cases c : kwI (wdF f n (tkA f n i)) = j
  · obtain ⟨X1, Y1, a1, a2, a3, a4⟩ := go d (h.n11 (v := wo)) h0
    obtain ⟨X2, Y2, b, v, b1, b2, b3⟩ := t_num d a3.1 a3.2.1 lo hi
    refine Or.inr ⟨X2, Y1, Y2, b, v, ?_, ?_, b2, ?_⟩
    · rw [q_rd_takeOptional, k, if_pos c, a1, bV_k, bI_b b1]
    · rw [decide_eq_true c, q_m_perhaps, h0, if_neg (by decide), if_neg (by decide), a2, bV_k]
    · rcases b3 with ⟨c0, c1, c2⟩ | ⟨c0, c1, c2⟩
      · exact Or.inl ⟨c0, c1.pre (FZ.p.tr a3.2.2.1) a3.2.2.2, c2⟩
      · exact Or.inr ⟨c0, c1, c2.pre (FZ.p.tr a3.2.2.1) a3.2.2.2.w⟩
  · refine Or.inl ⟨c, ?_, ?_, h.n11⟩
    · rw [q_rd_takeOptional, k, if_neg c]
    · rw [decide_eq_false c, q_m_perhaps, h0, if_neg (by decide), if_pos b01_f]
end Pair
