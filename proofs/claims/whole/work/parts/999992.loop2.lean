section Lp2
variable (d : Nat) {f : Nat → Int} {n T : Nat} {a b : Nat}
/-- an end, and its sign -/
theorem end_both {X Y : Mem} {e i p lv r s r0 s0 : Nat} (h : PSt X Y f n T i (lv + 1) r s a b) (hp : p ≤ i) (h26 : kwI (wdF f n (tkA f n i)) = 26) (l3 : lv < 3) (hr0 : X.1 10 lv = (r0 : Int)) (h0r : r0 < r) (hs0 : s0 < 30) :
    (∃ X' Y', CL d p X = some (some (vI 0), X') ∧ E2 e r_m_readStep 88 [(0, vR 12 179), (3, vI 1), (4, vI ((1455 + 9 * s0 : Nat) : Int))] [] Y = some (none, Y') ∧ Bad X' Y' ∧ FPc lv r0 X X' ∧ FPr s0 Y Y') ∨
    (∃ X' Y' j, CL d p X = CL d (p + 1) X' ∧ E2 e r_m_readStep 88 [(0, vR 12 179), (3, vI 1), (4, vI ((1455 + 9 * s0 : Nat) : Int))] [] Y = some (none, Y') ∧ i < j ∧ PSt X' Y' f n T j lv (r + 1) s a b ∧ FPc lv r0 X X' ∧ FPr s0 Y Y' ∧ (∀ q j, 44 ≤ q → q ≤ 48 → j < r → (q = 48 → j ≠ r0) → X'.1 q j = X.1 q j) ∧ X'.1 (43 + 5) r0 = (r : Int) ∧ X'.1 (43 + 5) r = (r0 : Int) ∧ X'.1 (43 + 1) r = 26 ∧ (∀ k, k ≠ 1455 + 8 + 9 * s0 → Y'.1 184 k = Y.1 184 k) ∧ Y'.1 184 (1455 + 8 + 9 * s0) = (s : Int)) := by
  obtain ⟨hR, h0, h5, h6, h26', h9, hrl, hs30, hl3, hN⟩ := h
  have hlt : i < T := kw_lt hR (by rw [h26]; decide)
  have hi2 : min (i + 1) T = i + 1 := by omega
  have r60 : r < 60 := by omega
  have r060 : r0 < 60 := by omega
  have wl : w32 (((lv + 1 : Nat) : Int) - 1) = (lv : Int) := by rw [w32s (by omega)]; omega
  have bl : (0 : Int) ≤ (lv : Int) ∧ (lv : Int) < 3 := by omega
  obtain ⟨X1, Y1, g1, g2, ⟨g3, g4, g5, g6⟩, g7⟩ := must_t2 d e hR h0
  rw [hi2] at g3
  have x5 : (putI X1 9 1 (lv : Int)).1 43 5 = (r : Int) := by rw [pI_ne (by decide), (g5 43 (by decide)).1]; exact h5
  have c1 := c_row d x5 r60 26
  have x91 : X1.1 9 1 = ((lv + 1 : Nat) : Int) := by rw [(g5 9 (by decide)).1]; exact h9
  have a91 : (aR (putI X1 9 1 (lv : Int)) r 26).1 9 1 = (lv : Int) := by rw [aR_n (by decide), pI_s]
  have a10 : (aR (putI X1 9 1 (lv : Int)) r 26).1 10 lv = (r0 : Int) := by rw [aR_n (by decide), pI_ne (by decide), (g5 10 (by decide)).1]; exact hr0
  have ee : C2 d j_pr_parseEnd [vR 7 9, vR 8 3, vR 6 43] X = some (some (vI 1), putI (putI (aR (putI X1 9 1 (lv : Int)) r 26) (43 + 5) r (r0 : Int)) (43 + 5) r0 (r : Int)) := by
    rw [q_pr_parseEnd, h9, if_pos (show (0 : Int) < ((lv + 1 : Nat) : Int) by omega), g1, bV_k, x91, wl, c1, bI_k, a91, if_pos bl, if_pos (lo60 r60), Int.toNat_natCast, Int.toNat_natCast, a10, pI_ne (by decide), a91, if_pos bl, Int.toNat_natCast, pI_ne (by decide), a10, if_pos (lo60 r060), Int.toNat_natCast]
  have R4 : RT (putI (putI (aR (putI X1 9 1 (lv : Int)) r 26) (43 + 5) r (r0 : Int)) (43 + 5) r0 (r : Int)) Y1 f n T (i + 1) := g3.x fun q hq => ⟨by rw [pI_ne (by omega), pI_ne (by omega), aR_n (by omega), pI_ne (by omega)], rfl⟩
  have FX4 : FPc lv r0 X (putI (putI (aR (putI X1 9 1 (lv : Int)) r 26) (43 + 5) r (r0 : Int)) (43 + 5) r0 (r : Int)) := (((g5.pc.tr FPc.p9 (Nat.le_refl _) (Nat.le_refl _)).tr (aR_f (lv := lv) (r := r)) (Nat.le_refl _) (by omega)).tr (FPc.pr (lv := lv) (r := r) (by decide) (Nat.le_refl _)) (Nat.le_refl _) (by omega)).tr (FPc.pr (lv := lv) (r := r0) (by decide) (Nat.le_refl _)) (Nat.le_refl _) (Nat.le_refl _)
  have q1 : ∀ q j, 44 ≤ q → q ≤ 48 → j < r → (q = 48 → j ≠ r0) → (putI (putI (aR (putI X1 9 1 (lv : Int)) r 26) (43 + 5) r (r0 : Int)) (43 + 5) r0 (r : Int)).1 q j = X.1 q j := fun q j e1 e2 e3 e4 => by
    have hh : (aR (putI X1 9 1 (lv : Int)) r 26).1 q j = X.1 q j := by
      rw [(aR_f (lv := 0) (r := r) (A := putI X1 9 1 (lv : Int)) (w := 26)).2.2.2 q j e1 e2 e3, pI_ne (by omega), (g5 q (by omega)).1]
    by_cases c : q = 48
    · subst c
      rw [pI_nk (e4 rfl), pI_nk (by omega)]; exact hh
    · rw [pI_ne c, pI_ne c]; exact hh
  have q2 : (putI (putI (aR (putI X1 9 1 (lv : Int)) r 26) (43 + 5) r (r0 : Int)) (43 + 5) r0 (r : Int)).1 (43 + 5) r0 = (r : Int) := pI_s
  have q3 : (putI (putI (aR (putI X1 9 1 (lv : Int)) r 26) (43 + 5) r (r0 : Int)) (43 + 5) r0 (r : Int)).1 (43 + 5) r = (r0 : Int) := by rw [pI_nk (by omega), pI_s]
  have q4 : (putI (putI (aR (putI X1 9 1 (lv : Int)) r 26) (43 + 5) r (r0 : Int)) (43 + 5) r0 (r : Int)).1 (43 + 1) r = 26 := by rw [pI_ne (by decide), pI_ne (by decide)]; exact aR_w
  have q5 : (putI (putI (aR (putI X1 9 1 (lv : Int)) r 26) (43 + 5) r (r0 : Int)) (43 + 5) r0 (r : Int)).1 43 5 = ((r + 1 : Nat) : Int) := by rw [pI_ne (by decide), pI_ne (by decide)]; exact aR_5
  have q6 : (putI (putI (aR (putI X1 9 1 (lv : Int)) r 26) (43 + 5) r (r0 : Int)) (43 + 5) r0 (r : Int)).1 43 6 = (s : Int) := by rw [pI_ne (by decide), pI_ne (by decide), aR_3 (by decide), pI_ne (by decide), (g5 43 (by decide)).1]; exact h6
  have q9 : (putI (putI (aR (putI X1 9 1 (lv : Int)) r 26) (43 + 5) r (r0 : Int)) (43 + 5) r0 (r : Int)).1 9 1 = (lv : Int) := by rw [pI_ne (by decide), pI_ne (by decide)]; exact a91
  have ex : CL d p X = _ := cl_end d ⟨hR, h0, h5, h6, h26', h9, hrl, hs30, hl3, hN⟩ hp h26
  rw [ee, bI_k, if_neg (by decide)] at ex
  have em := q_m_readStep_88 1 ((1455 + 9 * s0 : Nat) : Int) e Y
  rw [if_neg (by decide), is_end e hR.2.2.2.2, bI_k, decide_eq_true h26] at em
  have g2' : C2 e j_m_must [vR 12 179, vI (b01 true)] Y = some (none, Y1) := g2
  rw [g2', bV_k, (ad8 hs0).1] at em
  simp only [if_pos (ad8 hs0).2, Int.toNat_natCast] at em
  generalize (putI (putI (aR (putI X1 9 1 (lv : Int)) r 26) (43 + 5) r (r0 : Int)) (43 + 5) r0 (r : Int)) = X4 at *
  obtain ⟨X5, Y5, g, t1, t2, t3⟩ := t_sign2 d e R4 g4 59
  rw [m_sign e R4, bI_k] at t2
  rw [t1, bI_k] at ex
  rw [m_sign e R4, bI_k, t2, bV_k] at em
  rcases t3 with ⟨rfl, ⟨k1, k2, k3, k4⟩, k5⟩ | ⟨rfl, k1⟩
  · rw [if_neg (by decide)] at ex
    have y26 : Y5.1 179 26 = (s : Int) := by rw [k4.2.1 26 (by decide), g6.2.1 26 (by decide)]; exact h26'
    rw [y26] at em
    have FXe : FPc lv r0 X X5 := FX4.tr k3.pc (Nat.le_refl _) (Nat.le_refl _)
    have FYe : FPr s0 Y (putI Y5 184 (1455 + 8 + 9 * s0) (s : Int)) := (g6.w.pr.tr k4.w.pr (Nat.le_refl _)).tr (FPr.p (s := s0) (by omega)) (Nat.le_refl _)
    refine Or.inr ⟨X5, _, _, ex, em, ?_, ⟨k1.y184, ?_, ?_, ?_, ?_, ?_, by omega, hs30, by omega, hN.pp FXe FYe⟩, FXe, FYe, fun q j e1 e2 e3 e4 => ?_, ?_, ?_, ?_, fun k hk => ?_, pI_s⟩
    · have := g3.2.1
      omega
    · rw [pI_ne (by decide)]; exact k2
    · rw [(k3 43 (by decide)).1]; exact q5
    · rw [(k3 43 (by decide)).1]; exact q6
    · rw [pI_ne (by decide)]; exact y26
    · rw [(k3 9 (by decide)).1]; exact q9
    · rw [(k3 q (by omega)).1]; exact q1 q j e1 e2 e3 e4
    · rw [(k3 (43 + 5) (by decide)).1]; exact q2
    · rw [(k3 (43 + 5) (by decide)).1]; exact q3
    · rw [(k3 (43 + 1) (by decide)).1]; exact q4
    · rw [pI_nk hk, (k4.1 184 (by decide)).1, (g6.1 184 (by decide)).1]
  · rw [if_pos b01_f] at ex
    exact Or.inl ⟨X5, _, ex, em, k1.1.y184, FX4.tr k1.2.1.pc (Nat.le_refl _) (Nat.le_refl _), (g6.w.pr.tr k1.2.2.pr (Nat.le_refl _)).tr (FPr.p (s := s0) (by omega)) (Nat.le_refl _)⟩
/-- any step -/
theorem s_step : ∀ (D lv e : Nat), lv + D = 3 → D ≤ e → ∀ p i X Y r s, p ≤ i → PSt X Y f n T i lv r s a b → ¬ tK f n (tkA f n i) = 0 → ¬ kwI (wdF f n (tkA f n i)) = 26 → SO d e D lv p X Y f n T i r s a b := by
  intro D
  induction D with
  | zero =>
    intro lv e hl he p i X Y r s hp h h0 h26
    have hd := st_head d e h (fun M => CL d (p + 1) M)
    rw [← cl_step d h hp h0 h26] at hd
    rcases hd with ⟨X', Y', e1, e2, e3, e4, e5⟩ | ⟨X', Y', j, e1, e2, e3, e4, e5, e6, e7⟩ | ⟨X', Y', j, e1, e2, e3, e4, _⟩
    · exact Or.inl ⟨X', Y', e1, e2, e3, e4, e5⟩
    · exact Or.inr ⟨X', Y', p + 1, j, r + 1, s + 1, e1, e2, e3, by omega, e4, e5, e6, e7 0⟩
    · omega
  | succ D ih =>
    intro lv e hl he p i X Y r s hp h h0 h26
    have hd := st_head d e h (fun M => CL d (p + 1) M)
    rw [← cl_step d h hp h0 h26] at hd
    rcases hd with ⟨X', Y', e1, e2, e3, e4, e5⟩ | ⟨X', Y', j, e1, e2, e3, e4, e5, e6, e7⟩ | ⟨X1, Y1, j, e1, e2, e3, e4, e4s, e5, e6, e7, e8, e9, e10⟩
    · exact Or.inl ⟨X', Y', e1, e2, e3, e4, e5⟩
    · exact Or.inr ⟨X', Y', p + 1, j, r + 1, s + 1, e1, e2, e3, by omega, e4, e5, e6, e7 _⟩
    · obtain ⟨e', rfl⟩ : ∃ e', e = e' + 1 := ⟨e - 1, by omega⟩
      rcases b_loop d (p4 := ((1455 + 9 * s : Nat) : Int)) e4 (ih (lv + 1) e' (by omega) (by omega)) (T - j) j (p + 1) X1 Y1 (r + 1) (s + 1) rfl (by omega) e5 with ⟨X2, Y2, g1, g2, g3, g4, g5⟩ | ⟨X2, Y2, p2, j2, r2, s2, g1, g2, g3, g4, g5, g6, g7, g8, g9⟩
      · refine Or.inl ⟨X2, _, e1.trans g1, e2.trans (g2.trans (r88_f (e' + 1) e4s g3.pos)), g3.y184, e7.tr g4 (by omega) (by omega), (e8.tr g5 (by omega)).tr (FPr.p (s := s) (by omega)) (Nat.le_refl _)⟩
      · have u9 := Seg.up g9
        have hr2 : X2.1 10 lv = (r : Int) := by rw [g7.2.2.1 lv (by omega)]; exact e6
        have FX2 : FPc lv r X X2 := e7.tr g7 (by omega) (by omega)
        have FY2 : FPr s Y Y2 := e8.tr g8 (by omega)
        rcases end_both d (e := e' + 1) (r0 := r) (s0 := s) g5 g4 g6 e4 hr2 (by omega) e4s with ⟨X3, Y3, k1, k2, k3, k4, k5⟩ | ⟨X3, Y3, j3, k1, k2, k3, k4, k5, k6, k7, k8, k9, k10, k11, k12⟩
        · exact Or.inl ⟨X3, Y3, e1.trans (g1.trans k1), e2.trans (g2.trans k2), k3, FX2.tr k4 (Nat.le_refl _) (Nat.le_refl _), FY2.tr k5 (Nat.le_refl _)⟩
        · have pk : ∀ k, k ≠ 83 + 9 * s → PP Y3 k = PP Y2 k := fun k hk => by
            unfold PP
            by_cases c : k < 75
            · rw [if_pos c, if_pos c, k11 k (by omega)]
            · rw [if_neg c, if_neg c, k11 _ (by omega)]
          refine Or.inr ⟨X3, Y3, p2 + 1, j3, r2 + 1, s2, e1.trans (g1.trans k1), e2.trans (g2.trans k2), by omega, by omega, k4, FX2.tr k5 (Nat.le_refl _) (Nat.le_refl _), FY2.tr k6 (Nat.le_refl _), by omega, ?_, Or.inl ⟨?_, r2, D, rfl, ?_, ?_, k8, k9, k10, ?_, rfl⟩⟩
          · refine (e9.ex (M' := X2) (P' := PP Y2) (fun k k1 k2 => g7.2.2.2 (43 + k) r (by omega) (by omega) (by omega)) (fun k hk => pp_fr g8 k (by omega))).ex (fun k k1 k2 => k7 (43 + k) r (by omega) (by omega) (by omega) (by omega)) (fun k hk => pk k (by omega))
          · rw [pk _ (by omega), pp_fr g8 _ (by omega)]; exact e10
          · rw [PP_hi (by omega), show 1380 + (83 + 9 * s) = 1455 + 8 + 9 * s by omega]; exact k12
          · have := g5.2.2.2.2.2.2.1
            have := g5.2.2.2.2.2.2.2.1
            omega
          · exact Seg.fr (r0 := r + 1) (m := r2) (s0 := s + 1) (t0 := s2) (fun k j k1 k2 j1 j2 => k7 (43 + k) j (by omega) (by omega) j2 (by omega)) (fun k hk _ => pk k (by omega)) (Nat.le_refl _) (Nat.le_refl _) (Nat.le_refl _) (Nat.le_refl _) g9
/-- all steps -/
theorem t_loop {e : Nat} (he : 3 ≤ e) : ∀ (m i p : Nat) (X Y : Mem) (r s : Nat), T - i = m → p ≤ i → PSt X Y f n T i 0 r s a b → ∃ X' Y' g, CL d p X = some (some (vI (b01 g)), X') ∧ E2 e r_m_empires 16 [(0, vR 12 179)] [] Y = E2 e r_m_empires 16 [(0, vR 12 179)] [] Y' ∧ FPc 0 r X X' ∧ FPr s Y Y' ∧ ((g = true ∧ ∃ X0 j r' s', X' = putI X0 43 7 1 ∧ PSt X0 Y' f n T j 0 r' s' a b ∧ tK f n (tkA f n j) = 0 ∧ FPc 0 r X X0 ∧ Seg X0 43 (PP Y') (s' + 1 - s) 3 s s' r r') ∨ (g = false ∧ Bad X' Y')) := by
  intro m
  induction m using Nat.strongRecOn with
  | _ m ihm =>
    intro i p X Y r s hm hp h
    have z0 := h.2.1
    have k14 : Y.1 179 14 = tK f n (tkA f n i) := h.1.2.2.2.2.1
    have em := q_m_empires_16 e Y
    rw [if_pos z0, k14] at em
    by_cases c0 : tK f n (tkA f n i) = 0
    · have x9 : X.1 9 1 = ((0 : Nat) : Int) := h.2.2.2.2.2.1
      refine ⟨_, Y, true, ?_, rfl, FPc.p3, FPr.rfl, Or.inl ⟨rfl, X, i, r, s, rfl, h, c0, FPc.rfl, seg_nil⟩⟩
      rw [cl_fin d h hp c0, x9, if_neg (by decide)] <;> rfl
    · rw [if_neg c0] at em
      by_cases c26 : kwI (wdF f n (tkA f n i)) = 26
      · obtain ⟨X', Y', m1, m2, m3⟩ := mis2 d e h.1 z0
        have x9 : X.1 9 1 = ((0 : Nat) : Int) := h.2.2.2.2.2.1
        have rb := rst_bad e h.1.2.2.2.2 (by rw [c26]; decide) 0 m2 m3.1.pos
        rw [rb, bV_k] at em
        refine ⟨X', Y', false, ?_, em, m3.2.1.pc, m3.2.2.pr, Or.inr ⟨rfl, m3.1⟩⟩
        rw [cl_end d h hp c26, q_pr_parseEnd, x9, if_neg (by decide), m1, bI_k, if_pos (Or.inl rfl), bI_k, if_pos rfl] <;> rfl
      · rcases s_step d 3 0 e rfl he p i X Y r s hp h c0 c26 with ⟨X', Y', e1, e2, e3, e4, e5⟩ | ⟨X1, Y1, p1, j1, r1, s1, e1, e2, e3, e4, e5, e6, e7, e8⟩
        · have e2' : C2 e j_m_readStep [vR 12 179, vI 0] Y = some (none, Y') := e2
          rw [e2', bV_k] at em
          exact ⟨X', Y', false, e1, em, e4, e5, Or.inr ⟨rfl, e3⟩⟩
        · have e2' : C2 e j_m_readStep [vR 12 179, vI 0] Y = some (none, Y1) := e2
          rw [e2', bV_k] at em
          have hj := e5.1.2.1
          have u1 := e8.up
          obtain ⟨X2, Y2, g, g1, g2, g3, g4, g5⟩ := ihm (T - j1) (by omega) j1 p1 X1 Y1 r1 s1 rfl e4 e5
          refine ⟨X2, Y2, g, e1.trans g1, em.trans g2, e6.tr g3 (Nat.le_refl _) (by omega), e7.tr g4 (by omega), ?_⟩
          rcases g5 with ⟨rfl, X0, j, r', s', k1, k2, k3, k4, k5⟩ | g5
          · refine Or.inl ⟨rfl, X0, j, r', s', k1, k2, k3, e6.tr k4 (Nat.le_refl _) (by omega), seg_cons (e8.fr (fun k j k1 k2 hj' => k4.2.2.2 (43 + k) j (by omega) (by omega) hj') (fun k hk => pp_fr g4 k hk)) k5⟩
          · exact Or.inr g5
end Lp2
