/-! battles: the calls -/
theorem Inv.keepT {M M' : Mem} (h : Inv M) (hb : Kp M M') (hs : M'.1 0 0 = M'.1 179 0) (ht : M'.2.1 0 1 = M'.2.1 179 2) (hbm : M'.2.1 0 2 = M'.2.1 179 3) (h0 : ∀ k, k ≠ 0 → M'.1 0 k = M.1 0 k) (h1 : ∀ k, k ≠ 0 → k ≠ 1 → k ≠ 29 → M'.1 179 k = M.1 179 k) : Inv M' := by
  obtain ⟨⟨a1, a2, a3, a4, a5, a6, a7, a8, a9, a10, a11⟩, hB⟩ := h
  refine ⟨⟨hs, ht, hbm, ?_, ?_, ?_, ?_, ?_, ?_, ?_, ?_⟩, ?_⟩
  · rw [h0 5 (by omega), h1 8 (by omega) (by omega) (by omega)]; exact a4
  · rw [h0 9 (by omega), h1 10 (by omega) (by omega) (by omega)]; exact a5
  · rw [h0 10 (by omega), h1 11 (by omega) (by omega) (by omega)]; exact a6
  · rw [h0 14 (by omega), h1 24 (by omega) (by omega) (by omega)]; exact a7
  · rw [h0 18 (by omega), h1 34 (by omega) (by omega) (by omega)]; exact a8
  · rw [h0 5 (by omega)]; exact a9
  · rw [h0 14 (by omega)]; exact a10
  · rw [h0 18 (by omega)]; exact a11
  · rw [h0 5 (by omega), h0 14 (by omega), h0 18 (by omega)]
    exact hB.cong hb a10.2
section Bat
variable {M : Mem} (d : Nat)
theorem wind_both (h : Inv M) (p n : Int) :
    (∃ s, 0 < s ∧ C2 d j_x_windTrouble [vR 11 0, vI p, vI n] M = some (some (vI s), M) ∧ ∀ N : Mem, N.1 181 = M.1 181 → N.2.1 182 = M.2.1 182 → ∀ l : Int, l = 0 ∨ l = 1 → ∀ sh, C2 d j_m_whyNoBattle [vR 12 179, vI p, vI n, vI l, vI sh] N = some (some (vI s), N)) ∨
    (∃ t m : Nat, p = (t : Int) ∧ n = (m : Int) ∧ t < 4 ∧ m ≤ 12 ∧ C2 d j_x_windTrouble [vR 11 0, vI p, vI n] M = some (some (vI 0), M) ∧ (∀ i, i < m → 0 ≤ M.2.1 (88 + 2 * t) i ∧ M.2.1 (88 + 2 * t) i ≤ 16) ∧ (∀ i, i < m → M.2.1 (88 + 2 * t) i = M.2.1 182 (60 * t + i)) ∧ ∀ N : Mem, N.1 181 = M.1 181 → N.2.1 182 = M.2.1 182 → ∀ l : Int, ∀ sh, C2 d j_m_whyNoBattle [vR 12 179, vI p, vI n, vI l, vI sh] N = some (some (vI (if l ≤ (m : Int) ∧ (0 ≤ sh ∧ sh ≤ 12) then 0 else 5)), N)) := by
  by_cases c : 0 ≤ p ∧ p ≤ 3
  · obtain ⟨t, rfl⟩ : ∃ t : Nat, p = (t : Int) := ⟨p.toNat, by omega⟩
    have ht := h.2.1 t (by omega)
    rcases ht with ht | ⟨t1, t2, t3, t4, t5⟩
    · refine Or.inl ⟨3, by decide, ?_, ?_⟩
      · rw [q_x_windTrouble, x_tTr, bI_k]
        unfold tTr
        rw [if_pos c, Int.toNat_natCast, if_pos ht.1, if_neg (by decide)]
      · intro N e1 e2 l hl sh
        rw [q_m_whyNoBattle, m_isTray, bI_k, if_pos c, if_neg (by decide), if_pos (by omega), Int.toNat_natCast, e1, if_pos (by omega)]
    · have e1 : tTr M t n = if M.1 (87 + 2 * t) 2 < n then 4 else 0 := by
        unfold tTr
        rw [if_pos c, Int.toNat_natCast, if_neg (by omega)]
      by_cases c2 : M.1 (87 + 2 * t) 2 < n
      · refine Or.inl ⟨4, by decide, ?_, ?_⟩
        · rw [q_x_windTrouble, x_tTr, bI_k, e1, if_pos c2, if_neg (by decide)]
        · intro N g1 g2 l hl sh
          rw [q_m_whyNoBattle, m_isTray, bI_k, if_pos c, if_neg (by decide), if_pos (by omega), Int.toNat_natCast, g1, if_neg (by omega), if_pos (by omega), if_pos (by omega)]
      · have hx0 : C2 d j_x_windTrouble [vR 11 0, vI (t : Int), vI n] M = if 0 ≤ n ∧ n ≤ 12 then E2 d r_x_windTrouble 20 [(0, vR 11 0), (1, vI (t : Int)), (2, vI n), (4, vI 0)] [] M else some (some (vI 5), M) := by
          rw [q_x_windTrouble, x_tTr, bI_k, e1, if_neg c2, if_pos rfl, x_within, bI_k]
          by_cases z : 0 ≤ n ∧ n ≤ 12
          · rw [if_pos z, if_neg (by decide), if_pos z]
          · rw [if_neg z, if_pos rfl, if_neg z]
        have hm0 : ∀ N : Mem, N.1 181 = M.1 181 → ∀ l sh : Int, C2 d j_m_whyNoBattle [vR 12 179, vI (t : Int), vI n, vI l, vI sh] N = if l ≤ n ∧ n ≤ 12 then (if 0 ≤ sh ∧ sh ≤ 12 then E2 d r_m_whyNoBattle 38 [(0, vR 12 179), (1, vI (t : Int)), (2, vI n), (5, vI 0)] [] N else some (some (vI 5), N)) else some (some (vI 5), N) := by
          intro N g1 l sh
          rw [q_m_whyNoBattle, m_isTray, bI_k, if_pos c, if_neg (by decide), if_pos (by omega), Int.toNat_natCast, g1, if_neg (by omega), if_pos (by omega), if_neg (by omega), m_isIn, bI_k, m_isIn, bI_k]
          by_cases z : l ≤ n ∧ n ≤ 12
          · rw [if_pos z, if_neg (by decide), if_pos z]
            by_cases z2 : 0 ≤ sh ∧ sh ≤ 12
            · rw [if_pos z2, if_neg (by decide), if_pos z2]
            · rw [if_neg z2, if_pos rfl, if_neg z2]
          · rw [if_neg z, if_pos rfl, if_neg z]
        by_cases c3 : 0 ≤ n ∧ n ≤ 12
        · obtain ⟨m, rfl⟩ : ∃ m : Nat, n = (m : Int) := ⟨n.toNat, by omega⟩
          rw [if_pos c3] at hx0
          have eq : ∀ i, i < m → M.2.1 (88 + 2 * t) i = M.2.1 182 (60 * t + i) := fun i hi => t5 i (by omega)
          have sx : ∀ i, i < m → E2 d r_x_windTrouble 20 [(0, vR 11 0), (1, vI (t : Int)), (2, vI (m : Int)), (4, vI (i : Int))] [] M = if 0 ≤ M.2.1 (88 + 2 * t) i ∧ M.2.1 (88 + 2 * t) i ≤ 16 then E2 d r_x_windTrouble 20 [(0, vR 11 0), (1, vI (t : Int)), (2, vI (m : Int)), (4, vI ((i + 1 : Nat) : Int))] [] M else some (some (vI 5), M) := by
            intro i hi
            rw [q_x_windTrouble_20, if_pos (by omega), if_pos (by omega), if_pos (by omega), x_within, bI_k, Int.toNat_natCast, Int.toNat_natCast, w32n (by omega), show 1 + 86 + 2 * t + 1 = 88 + 2 * t by omega]
            by_cases z : 0 ≤ M.2.1 (88 + 2 * t) i ∧ M.2.1 (88 + 2 * t) i ≤ 16
            · rw [if_pos z, if_neg (by decide), if_pos z]
            · rw [if_neg z, if_pos rfl, if_neg z]
          have sm : ∀ N : Mem, N.2.1 182 = M.2.1 182 → ∀ i, i < m → E2 d r_m_whyNoBattle 38 [(0, vR 12 179), (1, vI (t : Int)), (2, vI (m : Int)), (5, vI (i : Int))] [] N = if 0 ≤ M.2.1 (88 + 2 * t) i ∧ M.2.1 (88 + 2 * t) i ≤ 16 then E2 d r_m_whyNoBattle 38 [(0, vR 12 179), (1, vI (t : Int)), (2, vI (m : Int)), (5, vI ((i + 1 : Nat) : Int))] [] N else some (some (vI 5), N) := by
            intro N g i hi
            rw [q_m_whyNoBattle_38, if_pos (by omega), q_m_numberOf, w32s (x := 60 * (t : Int)) (by omega), w32s (x := 60 * (t : Int) + (i : Int)) (by omega), if_pos (by omega), bL_k, m_isIn, bI_k, show (60 * (t : Int) + (i : Int)).toNat = 60 * t + i by omega, g, ← eq i hi, w32n (by omega)]
            by_cases z : 0 ≤ M.2.1 (88 + 2 * t) i ∧ M.2.1 (88 + 2 * t) i ≤ 16
            · rw [if_pos z, if_neg (by decide), if_pos z]
            · rw [if_neg z, if_pos rfl, if_neg z]
          rcases least (fun i => decide (0 ≤ M.2.1 (88 + 2 * t) i ∧ M.2.1 (88 + 2 * t) i ≤ 16)) m with hall | ⟨u, hu, hf, hb⟩
          · refine Or.inr ⟨t, m, rfl, rfl, by omega, by omega, ?_, fun i hi => of_decide_eq_true (hall i hi), eq, ?_⟩
            · rw [hx0]
              refine up_loop (P := fun i => E2 d r_x_windTrouble 20 [(0, vR 11 0), (1, vI (t : Int)), (2, vI (m : Int)), (4, vI (i : Int))] [] M) (n := m) (fun i hi => by rw [sx i hi, if_pos (of_decide_eq_true (hall i hi))]) ?_ 0 (by omega)
              rw [q_x_windTrouble_20, if_neg (by omega)]
            · intro N g1 g2 l sh
              rw [hm0 N g1]
              by_cases z : l ≤ (m : Int)
              · rw [if_pos (show l ≤ (m : Int) ∧ (m : Int) ≤ 12 by omega)]
                by_cases z2 : 0 ≤ sh ∧ sh ≤ 12
                · rw [if_pos z2, if_pos ⟨z, z2⟩]
                  refine up_loop (P := fun i => E2 d r_m_whyNoBattle 38 [(0, vR 12 179), (1, vI (t : Int)), (2, vI (m : Int)), (5, vI (i : Int))] [] N) (n := m) (fun i hi => by rw [sm N g2 i hi, if_pos (of_decide_eq_true (hall i hi))]) ?_ 0 (by omega)
                  rw [q_m_whyNoBattle_38, if_neg (by omega)]
                · rw [if_neg z2, if_neg (fun q => z2 q.2)]
              · rw [if_neg (fun q => z q.1), if_neg (fun q => z q.1)]
          · refine Or.inl ⟨5, by decide, ?_, ?_⟩
            · rw [hx0]
              refine up_loop (P := fun i => E2 d r_x_windTrouble 20 [(0, vR 11 0), (1, vI (t : Int)), (2, vI (m : Int)), (4, vI (i : Int))] [] M) (n := u) (fun i hi => by rw [sx i (by omega), if_pos (of_decide_eq_true (hb i hi))]) ?_ 0 (by omega)
              rw [sx u hu, if_neg (of_decide_eq_false hf)]
            · intro N g1 g2 l hl sh
              rw [hm0 N g1, if_pos (by omega)]
              by_cases z2 : 0 ≤ sh ∧ sh ≤ 12
              · rw [if_pos z2]
                refine up_loop (P := fun i => E2 d r_m_whyNoBattle 38 [(0, vR 12 179), (1, vI (t : Int)), (2, vI (m : Int)), (5, vI (i : Int))] [] N) (n := u) (fun i hi => by rw [sm N g2 i (by omega), if_pos (of_decide_eq_true (hb i hi))]) ?_ 0 (by omega)
                rw [sm N g2 u hu, if_neg (of_decide_eq_false hf)]
              · rw [if_neg z2]
        · refine Or.inl ⟨5, by decide, ?_, ?_⟩
          · rw [hx0, if_neg c3]
          · intro N g1 g2 l hl sh
            rw [hm0 N g1, if_neg (by omega)]
  · refine Or.inl ⟨1, by decide, ?_, ?_⟩
    · rw [q_x_windTrouble, x_tTr, bI_k]
      unfold tTr
      rw [if_neg c, if_neg (by decide)]
    · intro N g1 g2 l hl sh
      rw [q_m_whyNoBattle, m_isTray, bI_k, if_neg c, if_pos rfl]
/-- refused alike: the memory behind -/
theorem inv_r1 (h : Inv M) (s : Int) : Inv (putI (putI (putI M 0 0 s) 179 1 0) 179 0 s) := h.keep (Kp.ofB SameB.rfl.i0.i1.i1) (by simp [up2]) (by simp [up2, KpH])
theorem inv_r2 (h : Inv M) (s : Int) : Inv (putI (putI (putI (putI M 0 0 s) 179 1 0) 179 0 0) 179 0 s) := h.keep (Kp.ofB SameB.rfl.i0.i1.i1.i1) (by simp [up2]) (by simp [up2, KpH])
theorem g181 {s : Int} : (putI (putI M 0 0 s) 179 1 0).1 181 = M.1 181 := by rw [pI_ne (by decide), pI_ne (by decide)]
theorem o_battle (h : Inv M) (p n j e : Int) : OpI d j_x_battle j_m_battle [vI p, vI n, vI j, vI e] M := by
  rcases wind_both d h p n with ⟨s, hs, hx, hm⟩ | ⟨t, m, rfl, rfl, ht, hmm, hx, hg, heq, hm⟩
  · refine ⟨0, putI M 0 0 s, _, ?_, ?_, inv_r1 h s⟩
    · rw [q_x_battle, q_x_battleTrouble, hx, bI_k, if_neg (by omega), bI_k, if_neg (by omega), x_denR]
    · rw [q_m_battle, hm _ g181 rfl 0 (Or.inl rfl) e, bI_k, if_neg (by rw [pI_s]; omega), if_pos (by rw [pI_s]; omega)]
  · by_cases ce : 0 ≤ e ∧ e ≤ 12
    · by_cases cj : 0 ≤ j ∧ j ≤ 12
      · obtain ⟨je, rfl⟩ : ∃ a : Nat, j = (a : Int) := ⟨j.toNat, by omega⟩
        obtain ⟨ee, rfl⟩ : ∃ a : Nat, e = (a : Int) := ⟨e.toNat, by omega⟩
        obtain ⟨M1, f1, f2⟩ := bt_foresee (M := M) d (88 + 2 * t) ⟨by omega, by omega⟩ m 0 hmm (by omega) hg
        rw [Nat.sub_zero] at f2
        have f0 : C2 d j_bt_foresee [vR 0 68, vR 23 (88 + 2 * t), vI (m : Int), vI 0] M = some (none, M1) := f1
        have hb := bT_b (wd := M.2.1 (88 + 2 * t)) (n := m) hg m (Nat.le_refl _) je ee
        have hp := p16_b (k := m) hmm
        obtain ⟨x, y, g1, g2⟩ := frac_both d (bT (M.2.1 (88 + 2 * t)) m m je ee) (p16 m) (by omega) (by omega)
        have hX : C2 d j_x_battle [vR 11 0, vI (t : Int), vI (m : Int), vI (je : Int), vI (ee : Int)] M = some (some (vI 1), putI (putL (putL M1 0 1 x) 0 2 y) 0 0 0) := by
          rw [q_x_battle, q_x_battleTrouble, hx, bI_k, if_pos rfl, x_within, bI_k, if_pos cj, if_neg (by decide), x_within, bI_k, if_pos ce, if_neg (by decide), bI_k, if_pos rfl, if_pos (by omega), Int.toNat_natCast, show 1 + 86 + 2 * t + 1 = 88 + 2 * t by omega, f0, bV_k, if_pos (by omega), if_pos (by omega), Int.toNat_natCast, Int.toNat_natCast, f2.2.2.2 je ee (by omega) (by omega), f2.2.2.1, g1, bV_k, x_graR]
        have e82 : ∀ N : Mem, N.2.1 182 = (putI (putI (putI (putL (putL M1 0 1 x) 0 2 y) 0 0 0) 179 1 0) 179 0 0).2.1 182 → N.2.1 182 = M.2.1 182 := by
          intro N hN
          rw [hN, pI_L, pI_L, pI_L, pL_ne (by decide), pL_ne (by decide), f2.2.1 182 (by decide) (by decide)]
        have e81 : (putI (putI (putL (putL M1 0 1 x) 0 2 y) 0 0 0) 179 1 0).1 181 = M.1 181 := by
          rw [pI_ne (by decide), pI_ne (by decide), pL_I, pL_I, f2.1]
        have w82 := e82 (putI (putI (putI (putL (putL M1 0 1 x) 0 2 y) 0 0 0) 179 1 0) 179 0 0) rfl
        obtain ⟨M2, k1, k2, k3⟩ := m_lays (M := putI (putI (putI (putL (putL M1 0 1 x) 0 2 y) 0 0 0) 179 1 0) 179 0 0) d t m je ee ht hmm (by omega) (by omega) (fun i hi => by rw [w82, ← heq i hi]; exact hg i hi)
        have eb : bT (fun i => (putI (putI (putI (putL (putL M1 0 1 x) 0 2 y) 0 0 0) 179 1 0) 179 0 0).2.1 182 (60 * t + i)) m m = bT (M.2.1 (88 + 2 * t)) m m := bT_c (fun i hi => by rw [w82, heq i hi]) m (Nat.le_refl _)
        rw [eb] at k2
        have hM : C2 d j_m_battle [vR 12 179, vI (t : Int), vI (m : Int), vI (je : Int), vI (ee : Int)] (putI (putL (putL M1 0 1 x) 0 2 y) 0 0 0) = some (some (vI 1), putL (putL (putL M2 179 30 (p16 m)) 179 2 x) 179 3 y) := by
          rw [q_m_battle, hm _ e81 (e82 _ rfl) 0 ee, bI_k, if_pos (show (0 : Int) ≤ (m : Int) ∧ (0 ≤ (ee : Int) ∧ (ee : Int) ≤ 12) by omega), if_pos (by rw [pI_s]), m_isIn, bI_k, if_pos cj, if_neg (by decide), if_neg (by rw [pI_s]; decide), k1, bV_k, m_st d je ee (by omega) (by omega), bI_k, if_pos (by omega), Int.toNat_natCast, pL_ne (show (188 : Nat) ≠ 179 by decide), k2.2.2.2 je ee (by omega) (by omega), pL_s, g2, bI_k, if_pos (by decide)]
        refine ⟨1, _, _, hX, hM, h.keepT ?_ ?_ ?_ ?_ ?_ ?_⟩
        · intro a ha
          unfold Rc at ha
          refine ⟨?_, ?_⟩
          · rw [pL_I, pL_I, pL_I, k2.1 a (by omega), pI_ne (by omega), pI_ne (by omega), pI_ne (by omega), pL_I, pL_I, f2.1]
          · rw [pL_ne (by omega), pL_ne (by omega), pL_ne (by omega), k2.2.2.1 a (by omega) (by omega), pI_L, pI_L, pI_L, pL_ne (by omega), pL_ne (by omega), f2.2.1 a (by omega) (by omega)]
        · rw [pL_I, pL_I, pL_I, k2.1 0 (by decide), k2.2.1 0 (by decide), pI_ne (by decide), pI_ne (by decide), pI_s, pI_s]
        · rw [pL_ne (show (0 : Nat) ≠ 179 by decide), pL_ne (show (0 : Nat) ≠ 179 by decide), pL_ne (show (0 : Nat) ≠ 179 by decide), k2.2.2.1 0 (by decide) (by decide), pI_L, pI_L, pI_L, pL_nk (by decide), pL_s, pL_nk (by decide), pL_s]
        · rw [pL_ne (show (0 : Nat) ≠ 179 by decide), pL_ne (show (0 : Nat) ≠ 179 by decide), pL_ne (show (0 : Nat) ≠ 179 by decide), k2.2.2.1 0 (by decide) (by decide), pI_L, pI_L, pI_L, pL_s, pL_s]
        · intro k hk
          rw [pL_I, pL_I, pL_I, k2.1 0 (by decide), pI_ne (by decide), pI_ne (by decide), pI_nk hk, pL_I, pL_I, f2.1]
        · intro k hk hk1 hk2
          rw [pL_I, pL_I, pL_I, k2.2.1 k hk2, pI_nk hk, pI_nk hk1, pI_ne (by decide), pL_I, pL_I, f2.1]
      · refine ⟨0, putI M 0 0 5, _, ?_, ?_, inv_r2 h 5⟩
        · rw [q_x_battle, q_x_battleTrouble, hx, bI_k, if_pos rfl, x_within, bI_k, if_neg cj, if_pos rfl, bI_k, if_neg (by decide), x_denR]
        · rw [q_m_battle, hm _ g181 rfl 0 e, bI_k, if_pos (show (0 : Int) ≤ (m : Int) ∧ (0 ≤ e ∧ e ≤ 12) by omega), if_pos (by rw [pI_s]), m_isIn, bI_k, if_neg cj, if_pos rfl, if_pos (by rw [pI_s]; decide)]
    · refine ⟨0, putI M 0 0 5, _, ?_, ?_, inv_r1 h 5⟩
      · rw [q_x_battle, q_x_battleTrouble, hx, bI_k, if_pos rfl, x_within, bI_k, x_within, bI_k, if_neg ce, if_pos rfl]
        by_cases cj : 0 ≤ j ∧ j ≤ 12
        · rw [if_pos cj, if_neg (by decide), bI_k, if_neg (by decide), x_denR]
        · rw [if_neg cj, if_pos rfl, bI_k, if_neg (by decide), x_denR]
      · rw [q_m_battle, hm _ g181 rfl 0 e, bI_k, if_neg (fun q : (0 : Int) ≤ (m : Int) ∧ (0 ≤ e ∧ e ≤ 12) => ce q.2), if_neg (by rw [pI_s]; decide), if_pos (by rw [pI_s]; decide)]
end Bat
