section Lp
variable (d : Nat) {f : Nat → Int} {n T : Nat} {a b : Nat}
theorem kw_0 {i : Nat} (h : tK f n (tkA f n i) = 0) : kwI (wdF f n (tkA f n i)) = -1 := by
  unfold wdF
  rw [if_neg (by rw [h]; decide)]
  rfl
theorem pp_fr {Y Y' : Mem} {s : Nat} (h : FPr s Y Y') : ∀ k, k < 75 + 9 * s → PP Y' k = PP Y k := fun k hk => by
  unfold PP
  by_cases c : k < 75
  · rw [if_pos c, if_pos c, h.2.2.2.2 k (by omega)]
  · rw [if_neg c, if_neg c, h.2.2.2.2 _ (by omega)]
/-- the class's loop over steps -/
noncomputable def CL (p : Nat) (X : Mem) : Option Res := E2 d r_pr_parse 7 [(0, vR 7 9), (1, vR 8 3), (2, vR 1 11), (3, vR 6 43), (4, vI (p : Int))] [] X
/-- at a step -/
theorem cl_step {X Y : Mem} {i p lv r s : Nat} (h : PSt X Y f n T i lv r s a b) (hp : p ≤ i) (h0 : ¬ tK f n (tkA f n i) = 0) (h26 : ¬ kwI (wdF f n (tkA f n i)) = 26) : CL d p X = (bI (C2 d j_pr_parseStep [vR 7 9, vR 8 3, vR 1 11, vR 6 43] X) fun x10 M9 => if x10 = 0 then (some (some (vI 0), M9)) else (bI (C2 d j_rd_takeSign [vR 8 3, vI 59] M9) fun x12 M11 => if x12 = 0 then (some (some (vI 0), M11)) else CL d (p + 1) M11)) := by
  have hR := h.1
  have k7 : X.1 3 7 = tK f n (tkA f n i) := hR.2.2.1.2.1
  have k6 : X.1 3 6 = (n : Int) := hR.1.2.2.2.2.1
  have k10 : X.1 3 10 = kwI (wdF f n (tkA f n i)) := hR.2.2.1.2.2.2.1
  have hT := hR.1.2.2.2.2.2.2.1
  have hn := hR.1.2.2.2.2.2.1
  have hi := hR.2.1
  have u1 : ¬ (n : Int) < (p : Int) := by omega
  have u2 : w32 ((p : Int) + 1) = ((p + 1 : Nat) : Int) := by rw [w32s (by omega)]; omega
  unfold CL
  rw [q_pr_parse_7, k6, if_neg u1, q_rd_atEnd, k7, if_neg h0, bI_k, if_pos rfl, k10, if_neg h26, u2]
/-- at an end -/
theorem cl_end {X Y : Mem} {i p lv r s : Nat} (h : PSt X Y f n T i lv r s a b) (hp : p ≤ i) (h26 : kwI (wdF f n (tkA f n i)) = 26) : CL d p X = (bI (C2 d j_pr_parseEnd [vR 7 9, vR 8 3, vR 6 43] X) fun x6 M5 => if x6 = 0 then (some (some (vI 0), M5)) else (bI (C2 d j_rd_takeSign [vR 8 3, vI 59] M5) fun x8 M7 => if x8 = 0 then (some (some (vI 0), M7)) else CL d (p + 1) M7)) := by
  have hR := h.1
  have k7 : X.1 3 7 = tK f n (tkA f n i) := hR.2.2.1.2.1
  have k6 : X.1 3 6 = (n : Int) := hR.1.2.2.2.2.1
  have k10 : X.1 3 10 = kwI (wdF f n (tkA f n i)) := hR.2.2.1.2.2.2.1
  have hT := hR.1.2.2.2.2.2.2.1
  have hn := hR.1.2.2.2.2.2.1
  have hi := hR.2.1
  have u1 : ¬ (n : Int) < (p : Int) := by omega
  have u2 : w32 ((p : Int) + 1) = ((p + 1 : Nat) : Int) := by rw [w32s (by omega)]; omega
  have h0 : ¬ tK f n (tkA f n i) = 0 := fun g => by rw [kw_0 g] at h26; simp at h26
  unfold CL
  rw [q_pr_parse_7, k6, if_neg u1, q_rd_atEnd, k7, if_neg h0, bI_k, if_pos rfl, k10, if_pos h26, u2]
/-- at the end of the text -/
theorem cl_fin {X Y : Mem} {i p lv r s : Nat} (h : PSt X Y f n T i lv r s a b) (hp : p ≤ i) (h0 : tK f n (tkA f n i) = 0) : CL d p X = (if 0 < X.1 9 1 then (bI (C2 d j_rd_misplaced [vR 8 3] X) fun x14 M13 => if x14 = 0 ∨ x14 = 1 then some (some (vI x14), M13) else none) else (some (some (vI 1), (putI X 43 7 1)))) := by
  have hR := h.1
  have k7 : X.1 3 7 = tK f n (tkA f n i) := hR.2.2.1.2.1
  have k6 : X.1 3 6 = (n : Int) := hR.1.2.2.2.2.1
  have hT := hR.1.2.2.2.2.2.2.1
  have hi := hR.2.1
  have u1 : ¬ (n : Int) < (p : Int) := by omega
  unfold CL
  rw [q_pr_parse_7, k6, if_neg u1, q_rd_atEnd, k7, if_pos h0, bI_k, if_neg (by decide)]
/-- a step, whole -/
def SO (e D lv p : Nat) (X Y : Mem) (f : Nat → Int) (n T i r s a b : Nat) : Prop :=
  (∃ X' Y', CL d p X = some (some (vI 0), X') ∧ C2 e j_m_readStep [vR 12 179, vI (lv : Int)] Y = some (none, Y') ∧ Bad X' Y' ∧ FPc lv r X X' ∧ FPr s Y Y') ∨
  (∃ X' Y' p' j r' s', CL d p X = CL d p' X' ∧ C2 e j_m_readStep [vR 12 179, vI (lv : Int)] Y = some (none, Y') ∧ i < j ∧ p' ≤ j ∧ PSt X' Y' f n T j lv r' s' a b ∧ FPc lv r X X' ∧ FPr s Y Y' ∧ Seg1 X' 43 (PP Y') D s s' r r')
/-- the steps within -/
theorem b_loop {e D lv : Nat} {p4 : Int} (l3 : lv < 3) (ih : ∀ p i X Y r s, p ≤ i → PSt X Y f n T i (lv + 1) r s a b → ¬ tK f n (tkA f n i) = 0 → ¬ kwI (wdF f n (tkA f n i)) = 26 → SO d e D (lv + 1) p X Y f n T i r s a b) : ∀ (m i p : Nat) (X Y : Mem) (r s : Nat), T - i = m → p ≤ i → PSt X Y f n T i (lv + 1) r s a b →
    (∃ X' Y', CL d p X = some (some (vI 0), X') ∧ E2 (e + 1) r_m_readStep 74 [(0, vR 12 179), (1, vI (lv : Int)), (3, vI 1), (4, vI p4)] [] Y = E2 (e + 1) r_m_readStep 88 [(0, vR 12 179), (3, vI 1), (4, vI p4)] [] Y' ∧ Bad X' Y' ∧ FPc (lv + 1) r X X' ∧ FPr s Y Y') ∨
    (∃ X' Y' p' j r' s', CL d p X = CL d p' X' ∧ E2 (e + 1) r_m_readStep 74 [(0, vR 12 179), (1, vI (lv : Int)), (3, vI 1), (4, vI p4)] [] Y = E2 (e + 1) r_m_readStep 88 [(0, vR 12 179), (3, vI 1), (4, vI p4)] [] Y' ∧ i ≤ j ∧ p' ≤ j ∧ PSt X' Y' f n T j (lv + 1) r' s' a b ∧ kwI (wdF f n (tkA f n j)) = 26 ∧ FPc (lv + 1) r X X' ∧ FPr s Y Y' ∧ Seg X' 43 (PP Y') (s' + 1 - s) D s s' r r') := by
  have wl : w32 ((lv : Int) + 1) = ((lv + 1 : Nat) : Int) := by rw [w32s (by omega)]; omega
  intro m
  induction m using Nat.strongRecOn with
  | _ m ihm =>
    intro i p X Y r s hm hp h
    have z0 := h.2.1
    have em := q_m_readStep_74 (lv : Int) 1 p4 (e + 1) Y
    rw [if_neg (by decide), if_pos z0, is_end (e + 1) h.1.2.2.2.2, bI_k] at em
    by_cases c26 : kwI (wdF f n (tkA f n i)) = 26
    · rw [decide_eq_true c26, if_neg (by decide)] at em
      exact Or.inr ⟨X, Y, p, i, r, s, rfl, em, Nat.le_refl _, hp, h, c26, FPc.rfl, FPr.rfl, seg_nil⟩
    · rw [decide_eq_false c26, if_pos b01_f, wl] at em
      have em2 : E2 (e + 1) r_m_readStep 74 [(0, vR 12 179), (1, vI (lv : Int)), (3, vI 1), (4, vI p4)] [] Y = (bV (C2 e j_m_readStep [vR 12 179, vI ((lv + 1 : Nat) : Int)] Y) fun M3 => E2 (e + 1) r_m_readStep 74 [(0, vR 12 179), (1, vI (lv : Int)), (3, vI 1), (4, vI p4)] [] M3) := em
      clear em
      have f74 : ∀ Y' : Mem, 0 < Y'.1 179 12 → E2 (e + 1) r_m_readStep 74 [(0, vR 12 179), (1, vI (lv : Int)), (3, vI 1), (4, vI p4)] [] Y' = E2 (e + 1) r_m_readStep 88 [(0, vR 12 179), (3, vI 1), (4, vI p4)] [] Y' := fun Y' hY => by
        rw [q_m_readStep_74, if_neg (by decide), if_neg (pos_ne hY)]
      by_cases c0 : tK f n (tkA f n i) = 0
      · obtain ⟨X', Y', m1, m2, m3⟩ := mis2 d e h.1 z0
        have x9 : X.1 9 1 = ((lv + 1 : Nat) : Int) := h.2.2.2.2.2.1
        refine Or.inl ⟨X', Y', ?_, ?_, m3.1, m3.2.1.pc, m3.2.2.pr⟩
        · rw [cl_fin d h hp c0, x9, if_pos (by omega), m1, bI_k, if_pos (Or.inl rfl)]
        · rw [em2, rst_bad e h.1.2.2.2.2 (by rw [kw_0 c0]; decide) _ m2 m3.1.pos, bV_k, f74 Y' m3.1.pos]
      · rcases ih p i X Y r s hp h c0 c26 with ⟨X', Y', e1, e2, e3, e4, e5⟩ | ⟨X1, Y1, p1, j1, r1, s1, e1, e2, e3, e4, e5, e6, e7, e8⟩
        · refine Or.inl ⟨X', Y', e1, ?_, e3, e4, e5⟩
          rw [em2, e2, bV_k, f74 Y' e3.pos]
        · have hj := e5.1.2.1
          have u1 := e8.up
          rcases ihm (T - j1) (by omega) j1 p1 X1 Y1 r1 s1 rfl e4 e5 with ⟨X', Y', g1, g2, g3, g4, g5⟩ | ⟨X2, Y2, p2, j2, r2, s2, g1, g2, g3, g4, g5, g6, g7, g8, g9⟩
          · refine Or.inl ⟨X', Y', e1.trans g1, ?_, g3, e6.tr g4 (Nat.le_refl _) (by omega), e7.tr g5 (by omega)⟩
            rw [em2, e2, bV_k, g2]
          · refine Or.inr ⟨X2, Y2, p2, j2, r2, s2, e1.trans g1, ?_, by omega, g4, g5, g6, e6.tr g7 (Nat.le_refl _) (by omega), e7.tr g8 (by omega), ?_⟩
            · rw [em2, e2, bV_k, g2]
            · exact seg_cons (e8.fr (fun k j k1 k2 hj' => g7.2.2.2 (43 + k) j (by omega) (by omega) hj') (fun k hk => pp_fr g8 k hk)) g9
end Lp
