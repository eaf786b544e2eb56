/-! the first throw; jars to win -/
section Bat2
variable {M : Mem} (d : Nat)
theorem o_throwFirst (h : Inv M) (p n j e : Int) : OpI d j_x_throwFirst j_m_throwFirst [vI p, vI n, vI j, vI e] M := by
  rcases wind_both d h p n with ⟨s, hs, hx, hm⟩ | ⟨t, m, rfl, rfl, ht, hmm, hx, hg, heq, hm⟩
  · refine ⟨-1, putI M 0 0 s, _, ?_, ?_, inv_r1 h s⟩
    · rw [q_x_throwFirst, q_x_battleTrouble, hx, bI_k, if_neg (by omega), bI_k, if_neg (by omega), x_refR]
    · rw [q_m_throwFirst, hm _ g181 rfl 1 (Or.inr rfl) e, bI_k, if_neg (by rw [pI_s]; omega), if_pos (by rw [pI_s]; omega)]
  · by_cases ce : (0 ≤ e ∧ e ≤ 12) ∧ 1 ≤ m
    · by_cases cj : 0 ≤ j ∧ j ≤ 12
      · obtain ⟨je, rfl⟩ : ∃ a : Nat, j = (a : Int) := ⟨j.toNat, by omega⟩
        obtain ⟨ee, rfl⟩ : ∃ a : Nat, e = (a : Int) := ⟨e.toNat, by omega⟩
        obtain ⟨M1, f1, f2⟩ := bt_foresee (M := M) d (88 + 2 * t) ⟨by omega, by omega⟩ m 1 hmm ce.2 hg
        have f0 : C2 d j_bt_foresee [vR 0 68, vR 23 (88 + 2 * t), vI (m : Int), vI 1] M = some (none, M1) := f1
        have hb := bT_b (wd := M.2.1 (88 + 2 * t)) (n := m) hg (m - 1) (by omega)
        have hp := p16_b (k := m - 1) (by omega)
        have hbb : ∀ a b, 0 ≤ bT (M.2.1 (88 + 2 * t)) m (m - 1) a b ∧ bT (M.2.1 (88 + 2 * t)) m (m - 1) a b ≤ 281474976710656 := fun a b => ⟨(hb a b).1, by have := (hb a b).2; omega⟩
        have hw0 : M1.2.1 (88 + 2 * t) 0 = M.2.1 (88 + 2 * t) 0 := by rw [f2.2.1 _ (by omega) (by omega)]
        have hX : C2 d j_x_throwFirst [vR 11 0, vI (t : Int), vI (m : Int), vI (je : Int), vI (ee : Int)] M = some (some (vI (tfl (M.2.1 (88 + 2 * t) 0) (bT (M.2.1 (88 + 2 * t)) m (m - 1)) je ee)), putI M1 0 0 0) := by
          rw [q_x_throwFirst, q_x_battleTrouble, hx, bI_k, if_pos rfl, x_within, bI_k, if_pos cj, if_neg (by decide), x_within, bI_k, if_pos ce.1, if_neg (by decide), bI_k, if_pos rfl, if_neg (by omega), if_pos (by omega), Int.toNat_natCast, show 1 + 86 + 2 * t + 1 = 88 + 2 * t by omega, f0, bV_k, if_pos (by omega), hw0, bt_thrown d f2 je ee (by omega) (by omega) (hg 0 (by omega)) rfl (fun _ _ => rfl) (fun _ _ => rfl) (hbb _ _) (hbb _ _) (hbb _ _), bL_k, bt_kept d f2 je ee (by omega) (by omega) rfl (hbb _ _), bL_k, x_answerIf, bI_k, x_answerIf, bI_k]
          simp only [ycmp_gt]
          unfold tfl
          by_cases z : je = 0 ∨ ee = 0
          · rw [if_pos z, if_pos (show ee = 0 ∨ je = 0 by omega), if_neg (by omega), if_pos trivial]
          · rw [if_neg z, if_neg (show ¬ (ee = 0 ∨ je = 0) by omega)]
            by_cases z2 : 16 * bT (M.2.1 (88 + 2 * t)) m (m - 1) je ee < M.2.1 (88 + 2 * t) 0 * bT (M.2.1 (88 + 2 * t)) m (m - 1) (je - 1) (ee - 1) + (16 - M.2.1 (88 + 2 * t) 0) * bT (M.2.1 (88 + 2 * t)) m (m - 1) (je - 1) ee
            · rw [if_pos z2, if_pos z2, if_neg (by decide)]
            · rw [if_neg z2, if_neg z2, if_pos trivial]
        have e81 : (putI (putI M1 0 0 0) 179 1 0).1 181 = M.1 181 := by
          rw [pI_ne (by decide), pI_ne (by decide), f2.1]
        have w82 : (putI (putI (putI M1 0 0 0) 179 1 0) 179 0 0).2.1 182 = M.2.1 182 := by
          rw [pI_L, pI_L, pI_L, f2.2.1 182 (by decide) (by decide)]
        obtain ⟨M2, k1, k2, k3⟩ := m_lays (M := putI (putI (putI M1 0 0 0) 179 1 0) 179 0 0) d t m je ee ht hmm (by omega) (by omega) (fun i hi => by rw [w82, ← heq i hi]; exact hg i hi)
        have eb : bT (fun i => (putI (putI (putI M1 0 0 0) 179 1 0) 179 0 0).2.1 182 (60 * t + i)) m (m - 1) = bT (M.2.1 (88 + 2 * t)) m (m - 1) := bT_c (fun i hi => by rw [w82, heq i hi]) (m - 1) (by omega)
        have k4 := k3 ce.2
        rw [eb, w82, show 60 * t = 60 * t + 0 from rfl, ← heq 0 (by omega)] at k4
        have hM : C2 d j_m_throwFirst [vR 12 179, vI (t : Int), vI (m : Int), vI (je : Int), vI (ee : Int)] (putI M1 0 0 0) = some (some (vI (tfl (M.2.1 (88 + 2 * t) 0) (bT (M.2.1 (88 + 2 * t)) m (m - 1)) je ee)), putL M2 179 30 (p16 m)) := by
          rw [q_m_throwFirst, hm _ e81 (by rw [pI_L, pI_L, f2.2.1 182 (by decide) (by decide)]) 1 ee, bI_k, if_pos (show (1 : Int) ≤ (m : Int) ∧ (0 ≤ (ee : Int) ∧ (ee : Int) ≤ 12) by omega), if_pos (by rw [pI_s]), m_isIn, bI_k, if_pos cj, if_neg (by decide), if_neg (by rw [pI_s]; decide), k1, bV_k, pL_I, k4]
          unfold tfl
          by_cases z : ee = 0 ∨ je = 0
          · rw [if_pos z, if_pos rfl]
          · rw [if_neg z]
            by_cases z2 : 16 * bT (M.2.1 (88 + 2 * t)) m (m - 1) je ee < M.2.1 (88 + 2 * t) 0 * bT (M.2.1 (88 + 2 * t)) m (m - 1) (je - 1) (ee - 1) + (16 - M.2.1 (88 + 2 * t) 0) * bT (M.2.1 (88 + 2 * t)) m (m - 1) (je - 1) ee
            · rw [if_pos z2, if_neg (by decide)]
            · rw [if_neg z2, if_pos rfl]
        refine ⟨_, _, _, hX, hM, h.keepT ?_ ?_ ?_ ?_ ?_ ?_⟩
        · intro a ha
          unfold Rc at ha
          refine ⟨?_, ?_⟩
          · rw [pL_I, k2.1 a (by omega), pI_ne (by omega), pI_ne (by omega), pI_ne (by omega), f2.1]
          · rw [pL_ne (by omega), k2.2.2.1 a (by omega) (by omega), pI_L, pI_L, pI_L, f2.2.1 a (by omega) (by omega)]
        · rw [pL_I, k2.1 0 (by decide), k2.2.1 0 (by decide), pI_ne (by decide), pI_ne (by decide), pI_s, pI_s]
        · rw [pL_ne (show (0 : Nat) ≠ 179 by decide), k2.2.2.1 0 (by decide) (by decide), pL_nk (by decide), k2.2.2.1 179 (by decide) (by decide), pI_L, pI_L, pI_L, f2.2.1 0 (by decide) (by decide), f2.2.1 179 (by decide) (by decide)]
          exact h.1.2.1
        · rw [pL_ne (show (0 : Nat) ≠ 179 by decide), k2.2.2.1 0 (by decide) (by decide), pL_nk (by decide), k2.2.2.1 179 (by decide) (by decide), pI_L, pI_L, pI_L, f2.2.1 0 (by decide) (by decide), f2.2.1 179 (by decide) (by decide)]
          exact h.1.2.2.1
        · intro k hk
          rw [pL_I, k2.1 0 (by decide), pI_ne (by decide), pI_ne (by decide), pI_nk hk, f2.1]
        · intro k hk hk1 hk2
          rw [pL_I, k2.2.1 k hk2, pI_nk hk, pI_nk hk1, pI_ne (by decide), f2.1]
      · refine ⟨-1, putI M 0 0 5, _, ?_, ?_, inv_r2 h 5⟩
        · rw [q_x_throwFirst, q_x_battleTrouble, hx, bI_k, if_pos rfl, x_within, bI_k, if_neg cj, if_pos rfl, bI_k, if_neg (by decide), x_refR]
        · rw [q_m_throwFirst, hm _ g181 rfl 1 e, bI_k, if_pos (show (1 : Int) ≤ (m : Int) ∧ (0 ≤ e ∧ e ≤ 12) by omega), if_pos (by rw [pI_s]), m_isIn, bI_k, if_neg cj, if_pos rfl, if_pos (by rw [pI_s]; decide)]
    · refine ⟨-1, putI M 0 0 5, _, ?_, ?_, inv_r1 h 5⟩
      · rw [q_x_throwFirst, q_x_battleTrouble, hx, bI_k, if_pos rfl, x_within, bI_k, x_within, bI_k]
        by_cases cj : 0 ≤ j ∧ j ≤ 12
        · rw [if_pos cj, if_neg (by decide)]
          by_cases cE : 0 ≤ e ∧ e ≤ 12
          · rw [if_pos cE, if_neg (by decide), bI_k, if_pos rfl, if_pos (by omega), x_refR]
          · rw [if_neg cE, if_pos rfl, bI_k, if_neg (by decide), x_refR]
        · rw [if_neg cj, if_pos rfl, bI_k, if_neg (by decide), x_refR]
      · rw [q_m_throwFirst, hm _ g181 rfl 1 e, bI_k, if_neg (show ¬ ((1 : Int) ≤ (m : Int) ∧ (0 ≤ e ∧ e ≤ 12)) by omega), if_neg (by rw [pI_s]; decide), if_pos (by rw [pI_s]; decide)]
theorem o_jarsToWin (h : Inv M) (p n e z : Int) : OpI d j_x_jarsToWin j_m_jarsToWin [vI p, vI n, vI e, vI z] M := by
  rcases wind_both d h p n with ⟨s, hs, hx, hm⟩ | ⟨t, m, rfl, rfl, ht, hmm, hx, hg, heq, hm⟩
  · refine ⟨-1, putI M 0 0 s, _, ?_, ?_, inv_r1 h s⟩
    · rw [q_x_jarsToWin, q_x_battleTrouble, hx, bI_k, if_neg (by omega), bI_k, if_neg (by omega), x_refR]
    · rw [q_m_jarsToWin, hm _ g181 rfl 0 (Or.inl rfl) e, bI_k, if_neg (by rw [pI_s]; omega), if_pos (by rw [pI_s]; omega)]
  · by_cases ce : 0 ≤ e ∧ e ≤ 12
    · by_cases cz : 0 ≤ z ∧ z ≤ 16
      · obtain ⟨ee, rfl⟩ : ∃ a : Nat, e = (a : Int) := ⟨e.toNat, by omega⟩
        obtain ⟨M1, f1, f2⟩ := bt_foresee (M := M) d (88 + 2 * t) ⟨by omega, by omega⟩ m 0 hmm (by omega) hg
        rw [Nat.sub_zero] at f2
        have f0 : C2 d j_bt_foresee [vR 0 68, vR 23 (88 + 2 * t), vI (m : Int), vI 0] M = some (none, M1) := f1
        have hb := bT_b (wd := M.2.1 (88 + 2 * t)) (n := m) hg m (Nat.le_refl _)
        have hp := p16_b (k := m) hmm
        have hpz : 0 ≤ p16 m * z ∧ p16 m * z ≤ 281474976710656 * 16 := ⟨Int.mul_nonneg (by omega) cz.1, Int.mul_le_mul hp.2 cz.2 cz.1 (by omega)⟩
        have w81 : ∀ s : Int, (putI (putI M1 0 0 s) 179 1 0).1 181 = M.1 181 := fun s => by
          rw [pI_ne (by decide), pI_ne (by decide), f2.1]
        have w82 : ∀ s : Int, (putI (putI (putI M1 0 0 s) 179 1 0) 179 0 0).2.1 182 = M.2.1 182 := fun s => by
          rw [pI_L, pI_L, pI_L, f2.2.1 182 (by decide) (by decide)]
        have hX0 : C2 d j_x_jarsToWin [vR 11 0, vI (t : Int), vI (m : Int), vI (ee : Int), vI z] M = E2 d r_x_jarsToWin 35 [(0, vR 11 0), (3, vI (ee : Int)), (4, vI z), (6, vI 0)] [] M1 := by
          rw [q_x_jarsToWin, q_x_battleTrouble, hx, bI_k, if_pos rfl, x_within, bI_k, if_pos (show (0 : Int) ≤ 0 ∧ (0 : Int) ≤ 12 by decide), if_neg (by decide), x_within, bI_k, if_pos ce, if_neg (by decide), bI_k, if_pos rfl, x_within, bI_k, if_pos cz, if_neg (by decide), if_pos (by omega), Int.toNat_natCast, show 1 + 86 + 2 * t + 1 = 88 + 2 * t by omega, f0, bV_k]
        have hM0 : ∀ s : Int, ∃ M2, C2 d j_m_jarsToWin [vR 12 179, vI (t : Int), vI (m : Int), vI (ee : Int), vI z] (putI M1 0 0 s) = E2 d r_m_jarsToWin 36 [(0, vR 12 179), (3, vI (ee : Int)), (4, vI z), (5, vI 0)] [] (putL M2 179 30 (p16 m)) ∧ MB (putI (putI (putI M1 0 0 s) 179 1 0) 179 0 0) M2 (bT (M.2.1 (88 + 2 * t)) m m) := by
          intro s
          obtain ⟨M2, k1, k2, k3⟩ := m_lays (M := putI (putI (putI M1 0 0 s) 179 1 0) 179 0 0) d t m 0 ee ht hmm (by omega) (by omega) (fun i hi => by rw [w82, ← heq i hi]; exact hg i hi)
          have eb : bT (fun i => (putI (putI (putI M1 0 0 s) 179 1 0) 179 0 0).2.1 182 (60 * t + i)) m m = bT (M.2.1 (88 + 2 * t)) m m := bT_c (fun i hi => by rw [w82, heq i hi]) m (Nat.le_refl _)
          rw [eb] at k2
          have k0 : C2 d j_m_laysOdds [vR 12 179, vI (t : Int), vI (m : Int), vI 0, vI (ee : Int)] (putI (putI (putI M1 0 0 s) 179 1 0) 179 0 0) = some (none, putL M2 179 30 (p16 m)) := k1
          refine ⟨M2, ?_, k2⟩
          rw [q_m_jarsToWin, hm _ (w81 s) (by rw [pI_L, pI_L, f2.2.1 182 (by decide) (by decide)]) 0 ee, bI_k, if_pos (show (0 : Int) ≤ (m : Int) ∧ (0 ≤ (ee : Int) ∧ (ee : Int) ≤ 12) by omega), if_pos (by rw [pI_s]), m_isIn, bI_k, if_pos cz, if_neg (by decide), if_neg (by rw [pI_s]; decide), k0, bV_k]
        have sx : ∀ i : Nat, i < 13 → E2 d r_x_jarsToWin 35 [(0, vR 11 0), (3, vI (ee : Int)), (4, vI z), (6, vI (i : Int))] [] M1 = if 16 * bT (M.2.1 (88 + 2 * t)) m m i ee < p16 m * z then E2 d r_x_jarsToWin 35 [(0, vR 11 0), (3, vI (ee : Int)), (4, vI z), (6, vI ((i + 1 : Nat) : Int))] [] M1 else some (some (vI (i : Int)), putI M1 0 0 0) := by
          intro i hi
          have := hb i ee
          rw [q_x_jarsToWin_35, if_neg (by omega), if_pos (by omega), if_pos (by omega), Int.toNat_natCast, Int.toNat_natCast, f2.2.2.2 i ee hi (by omega), f2.2.2.1, Int.mul_comm (bT (M.2.1 (88 + 2 * t)) m m i ee) 16, w64s (x := 16 * bT (M.2.1 (88 + 2 * t)) m m i ee) (by omega), w64s (x := p16 m * z) (by omega), w32n (by omega), x_ansR]
          simp only [ycmp_lt]
        have sm : ∀ (s : Int) (M2 : Mem), MB (putI (putI (putI M1 0 0 s) 179 1 0) 179 0 0) M2 (bT (M.2.1 (88 + 2 * t)) m m) → ∀ i : Nat, i < 13 → E2 d r_m_jarsToWin 36 [(0, vR 12 179), (3, vI (ee : Int)), (4, vI z), (5, vI (i : Int))] [] (putL M2 179 30 (p16 m)) = if 16 * bT (M.2.1 (88 + 2 * t)) m m i ee < p16 m * z then E2 d r_m_jarsToWin 36 [(0, vR 12 179), (3, vI (ee : Int)), (4, vI z), (5, vI ((i + 1 : Nat) : Int))] [] (putL M2 179 30 (p16 m)) else some (some (vI (i : Int)), putL M2 179 30 (p16 m)) := by
          intro s M2 k2 i hi
          have := hb i ee
          rw [q_m_jarsToWin_36, if_neg (by omega), m_st d i ee hi (by omega), bI_k, if_pos (by omega), Int.toNat_natCast, pL_ne (show (188 : Nat) ≠ 179 by decide), k2.2.2.2 i ee hi (by omega), pL_s, Int.mul_comm z (p16 m), w64s (x := 16 * bT (M.2.1 (88 + 2 * t)) m m i ee) (by omega), w64s (x := p16 m * z) (by omega), w32n (by omega)]
          simp only [ycmp_lt]
        have fin : ∀ (s v : Int) (M2 : Mem), MB (putI (putI (putI M1 0 0 s) 179 1 0) 179 0 0) M2 (bT (M.2.1 (88 + 2 * t)) m m) → v = s → Inv (putI (putL M2 179 30 (p16 m)) 179 0 v) := by
          intro s v M2 k2 hv
          subst hv
          refine h.keepT ?_ ?_ ?_ ?_ ?_ ?_
          · intro a ha
            unfold Rc at ha
            refine ⟨?_, ?_⟩
            · rw [pI_ne (by omega), pL_I, k2.1 a (by omega), pI_ne (by omega), pI_ne (by omega), pI_ne (by omega), f2.1]
            · rw [pI_L, pL_ne (by omega), k2.2.2.1 a (by omega) (by omega), pI_L, pI_L, pI_L, f2.2.1 a (by omega) (by omega)]
          · rw [pI_ne (by decide), pL_I, k2.1 0 (by decide), pI_ne (by decide), pI_ne (by decide), pI_s, pI_s]
          · rw [pI_L, pL_ne (show (0 : Nat) ≠ 179 by decide), k2.2.2.1 0 (by decide) (by decide), pL_nk (by decide), k2.2.2.1 179 (by decide) (by decide), pI_L, pI_L, pI_L, f2.2.1 0 (by decide) (by decide), f2.2.1 179 (by decide) (by decide)]
            exact h.1.2.1
          · rw [pI_L, pL_ne (show (0 : Nat) ≠ 179 by decide), k2.2.2.1 0 (by decide) (by decide), pL_nk (by decide), k2.2.2.1 179 (by decide) (by decide), pI_L, pI_L, pI_L, f2.2.1 0 (by decide) (by decide), f2.2.1 179 (by decide) (by decide)]
            exact h.1.2.2.1
          · intro k hk
            rw [pI_ne (by decide), pL_I, k2.1 0 (by decide), pI_ne (by decide), pI_ne (by decide), pI_nk hk, f2.1]
          · intro k hk hk1 hk2
            rw [pI_nk hk, pL_I, k2.2.1 k hk2, pI_nk hk, pI_nk hk1, pI_ne (by decide), f2.1]
        rcases least (fun i => decide (16 * bT (M.2.1 (88 + 2 * t)) m m i ee < p16 m * z)) 13 with hall | ⟨u, hu, hf, hbb⟩
        · obtain ⟨M2, k1, k2⟩ := hM0 8
          refine ⟨-1, putI M1 0 0 8, putI (putL M2 179 30 (p16 m)) 179 0 8, ?_, ?_, fin 8 8 M2 k2 rfl⟩
          · rw [hX0]
            refine up_loop (P := fun i => E2 d r_x_jarsToWin 35 [(0, vR 11 0), (3, vI (ee : Int)), (4, vI z), (6, vI (i : Int))] [] M1) (n := 13) (fun i hi => by rw [sx i hi, if_pos (of_decide_eq_true (hall i hi))]) ?_ 0 (by omega)
            rw [q_x_jarsToWin_35, if_pos (by decide), x_refR]
          · rw [k1]
            refine up_loop (P := fun i => E2 d r_m_jarsToWin 36 [(0, vR 12 179), (3, vI (ee : Int)), (4, vI z), (5, vI (i : Int))] [] (putL M2 179 30 (p16 m))) (n := 13) (fun i hi => by rw [sm 8 M2 k2 i hi, if_pos (of_decide_eq_true (hall i hi))]) ?_ 0 (by omega)
            rw [q_m_jarsToWin_36, if_pos (by decide), m_refR]
        · obtain ⟨M2, k1, k2⟩ := hM0 0
          have hI := fin 0 0 M2 k2 rfl
          have e9 : putI (putL M2 179 30 (p16 m)) 179 0 0 = putL M2 179 30 (p16 m) := by
            refine Prod.ext (funext fun b => funext fun j => ?_) rfl
            show up2 M2.1 179 0 0 b j = M2.1 b j
            unfold up2
            by_cases q : b = 179 ∧ j = 0
            · rw [if_pos q, q.1, q.2, k2.2.1 0 (by decide), pI_s]
            · rw [if_neg q]
          rw [e9] at hI
          refine ⟨(u : Int), putI M1 0 0 0, putL M2 179 30 (p16 m), ?_, ?_, hI⟩
          · rw [hX0]
            refine up_loop (P := fun i => E2 d r_x_jarsToWin 35 [(0, vR 11 0), (3, vI (ee : Int)), (4, vI z), (6, vI (i : Int))] [] M1) (n := u) (fun i hi => by rw [sx i (by omega), if_pos (of_decide_eq_true (hbb i hi))]) ?_ 0 (by omega)
            rw [sx u hu, if_neg (of_decide_eq_false hf)]
          · rw [k1]
            refine up_loop (P := fun i => E2 d r_m_jarsToWin 36 [(0, vR 12 179), (3, vI (ee : Int)), (4, vI z), (5, vI (i : Int))] [] (putL M2 179 30 (p16 m))) (n := u) (fun i hi => by rw [sm 0 M2 k2 i (by omega), if_pos (of_decide_eq_true (hbb i hi))]) ?_ 0 (by omega)
            rw [sm 0 M2 k2 u hu, if_neg (of_decide_eq_false hf)]
      · refine ⟨-1, putI M 0 0 5, _, ?_, ?_, inv_r2 h 5⟩
        · rw [q_x_jarsToWin, q_x_battleTrouble, hx, bI_k, if_pos rfl, x_within, bI_k, if_pos (show (0 : Int) ≤ 0 ∧ (0 : Int) ≤ 12 by decide), if_neg (by decide), x_within, bI_k, if_pos ce, if_neg (by decide), bI_k, if_pos rfl, x_within, bI_k, if_neg cz, if_pos rfl, x_refR]
        · rw [q_m_jarsToWin, hm _ g181 rfl 0 e, bI_k, if_pos (show (0 : Int) ≤ (m : Int) ∧ (0 ≤ e ∧ e ≤ 12) by omega), if_pos (by rw [pI_s]), m_isIn, bI_k, if_neg cz, if_pos rfl, if_pos (by rw [pI_s]; decide)]
    · refine ⟨-1, putI M 0 0 5, _, ?_, ?_, inv_r1 h 5⟩
      · rw [q_x_jarsToWin, q_x_battleTrouble, hx, bI_k, if_pos rfl, x_within, bI_k, if_pos (show (0 : Int) ≤ 0 ∧ (0 : Int) ≤ 12 by decide), if_neg (by decide), x_within, bI_k, if_neg ce, if_pos rfl, bI_k, if_neg (by decide), x_refR]
      · rw [q_m_jarsToWin, hm _ g181 rfl 0 e, bI_k, if_neg (fun q : (0 : Int) ≤ (m : Int) ∧ (0 ≤ e ∧ e ≤ 12) => ce q.2), if_neg (by rw [pI_s]; decide), if_pos (by rw [pI_s]; decide)]
end Bat2
