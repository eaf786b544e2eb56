section Mean2
variable {M : Mem} (d : Nat)
theorem Inv.keepS {M M' : Mem} (h : Inv M) (hb : Kp M M') (hs : M'.1 0 0 = M'.1 179 0) (ht : M'.2.1 0 1 = M'.2.1 179 2) (hbm : M'.2.1 0 2 = M'.2.1 179 3) (h0 : ∀ k, k ≠ 0 → M'.1 0 k = M.1 0 k) (h1 : ∀ k, k ≠ 0 → k ≠ 1 → ¬ (35 ≤ k ∧ k ≤ 42) → M'.1 179 k = M.1 179 k) : Inv M' := by
  obtain ⟨⟨a1, a2, a3, a4, a5, a6, a7, a8, a9, a10, a11⟩, hB⟩ := h
  refine ⟨⟨hs, ht, hbm, ?_, ?_, ?_, ?_, ?_, ?_, ?_, ?_⟩, ?_⟩
  · rw [h0 5 (by omega), h1 8 (by omega) (by omega) (by omega)]; exact a4
  · rw [h0 9 (by omega), h1 10 (by omega) (by omega) (by omega)]; exact a5
  · rw [h0 10 (by omega), h1 11 (by omega) (by omega) (by omega)]; exact a6
  · rw [h0 14 (by omega), h1 24 (by omega) (by omega) (by omega)]; exact a7
  · rw [h0 18 (by omega), h1 34 (by omega) (by omega) (by omega)]; exact a8
  · rw [h0 5 (by omega)]; exact a9
  · rw [h0 14 (by omega)]; exact a10
  · rw [h0 18 (by omega)]; exact a11
  · rw [h0 5 (by omega), h0 14 (by omega), h0 18 (by omega)]
    exact hB.cong hb a10.2
theorem m_before (p1 p2 : Int) {Y : Mem} : E2 d r_m_mean 36 [(0, vR 12 179), (1, vI p1), (2, vI p2), (3, vI 0)] [] Y = E2 d r_m_mean 53 [(0, vR 12 179), (1, vI p1), (2, vI p2), (3, vL 0), (5, vI 0)] [] (fI Y 186 0 73 (fun k => Y.1 184 k)) := by
  refine ex_loop (P := fun j M' => E2 d r_m_mean 36 [(0, vR 12 179), (1, vI p1), (2, vI p2), (3, vI (j : Int))] [] M') (R := fun r => r = E2 d r_m_mean 53 [(0, vR 12 179), (1, vI p1), (2, vI p2), (3, vL 0), (5, vI 0)] [] (fI Y 186 0 73 (fun k => Y.1 184 k))) (fun j M' => M' = fI Y 186 0 j (fun k => Y.1 184 k)) 73 (fun j M' hj hq => ?_) (fun M' hq => ?_) Y fI_0.symm
  · refine ⟨_, ?_, rfl⟩
    show E2 d r_m_mean 36 _ _ M' = _
    rw [hq, q_m_mean_36, if_pos (by omega), if_pos (by omega), if_pos (by omega), Int.toNat_natCast, w32n (by omega), fI_na (b := 184) (by decide), ← fI_s, Nat.zero_add]
  · show E2 d r_m_mean 36 _ _ M' = _
    rw [hq, q_m_mean_36, if_neg (by omega)]
theorem o_mean (h : Inv M) (hd : 3 ≤ d) (p1 p2 : Int) : OpI d j_x_mean j_m_mean [vI p1, vI p2] M := by
  have hE := h.2.2.2.1
  have hP := hE.2.2.2
  rw [blk_0] at hP
  have e7 : M.1 15 7 = mV M 73 := hP.1
  have c7 := hP.2.1
  by_cases c2 : 1 ≤ p2 ∧ p2 ≤ 20
  · have w1 : w32 (10000 - p2) = 10000 - p2 := w32s (by omega)
    by_cases c1 : 0 ≤ p1 ∧ p1 ≤ 10000 - p2
    · have c1' : 0 ≤ p1 ∧ p1 ≤ 9999 := by omega
      have w2 : ¬ 9999 < w32 (w32 (p1 + p2) - 1) := by rw [w32s (x := p1 + p2) (by omega), w32s (by omega)]; omega
      by_cases c : mV M 73 = 0
      · refine opR h 0 8 ?_ ?_
        · rw [q_x_mean, x_within, bI_k, if_pos c1', if_neg (by decide), x_within, bI_k, if_pos c2, if_neg (by decide), if_neg w2, e7, if_pos c, x_denR]
        · have hJ : (putI (putI (putI M 0 0 8) 179 1 0) 179 0 0).1 184 73 = mV M 73 := congrFun mV_bg 73
          rw [q_m_mean, m_isIn, bI_k, if_pos c2, if_neg (by decide), w1, m_isIn, bI_k, if_pos c1, if_neg (by decide), hJ, if_pos c, m_noR]
      · have h73 : mV M 73 = 1 := by omega
        obtain ⟨t, b, X', Y0, r1, _, r3, _⟩ := trials d h.wf h73 p1 p2 c1' c2 hd p2.toNat 0 0 M (fI M 186 0 73 (fun k => M.1 184 k)) (by omega) h.rl hP (funext fun k => congrFun (fI_na (by decide)) k) (fun k hk => by rw [fI_at (by omega), Nat.sub_zero]; rfl) (by omega)
        let K1 := putI (putL (putL X' 0 1 t) 0 2 b) 0 0 0
        let K2 := putI (putI K1 179 1 0) 179 0 0
        have kK : ∀ a, a ≠ 0 → a ≠ 179 → K2.1 a = X'.1 a := fun a g0 g9 => by
          show (putI (putI (putI (putL (putL X' 0 1 t) 0 2 b) 0 0 0) 179 1 0) 179 0 0).1 a = X'.1 a
          rw [pI_ne g9, pI_ne g9, pI_ne g0]
        have mK : mV K2 = mV M := funext fun k => by
          show K2.1 184 k = M.1 184 k
          rw [kK 184 (by decide) (by decide), (r3 184 (by omega) (by omega) (by omega)).1]
        let Y1 := fI K2 186 0 73 (fun k => K2.1 184 k)
        have mY : mV Y1 = mV M := (funext fun k => congrFun (fI_na (M := K2) (a := 186) (b := 184) (by decide)) k : mV Y1 = mV K2).trans mK
        obtain ⟨t2, b2, X2, Y', s1, s2, s3, s4⟩ := trials d h.wf h73 p1 p2 c1' c2 hd p2.toNat 0 0 M Y1 (by omega) h.rl hP mY (fun k hk => by
          show (fI K2 186 0 73 (fun k => K2.1 184 k)).1 186 k = mV M k
          rw [fI_at (by omega), Nat.sub_zero, ← mK]; rfl) (by omega)
        have hq : putI (putL (putL X2 0 1 t2) 0 2 b2) 0 0 0 = K1 := by
          rw [r1] at s1
          injection s1 with s1
          injection s1 with _ s1
          exact s1.symm
        have qt : ∀ (Z : Mem) (u v : Int), (putI (putL (putL Z 0 1 u) 0 2 v) 0 0 0).2.1 0 1 = u := fun Z u v => by
          show (putL (putL Z 0 1 u) 0 2 v).2.1 0 1 = u
          rw [pL_nk (by decide), pL_s]
        have qb : ∀ (Z : Mem) (u v : Int), (putI (putL (putL Z 0 1 u) 0 2 v) 0 0 0).2.1 0 2 = v := fun Z u v => by
          show (putL (putL Z 0 1 u) 0 2 v).2.1 0 2 = v
          exact pL_s
        have et : t2 = t := by
          have := congrArg (fun Z : Mem => Z.2.1 0 1) hq
          rw [← qt X2 t2 b2, ← qt X' t b]; exact this
        have eb : b2 = b := by
          have := congrArg (fun Z : Mem => Z.2.1 0 2) hq
          rw [← qb X2 t2 b2, ← qb X' t b]; exact this
        subst et eb
        have kA : ∀ a, a ≠ 0 → a ≠ 179 → a ≠ 184 → a ≠ 186 → ¬ (39 ≤ a ∧ a < 67) → a ≠ 85 → a ≠ 86 → (putL (putL Y' 179 2 t2) 179 3 b2).1 a = M.1 a := fun a g0 g9 g4 g6 g1 g2 g3 => by
          show Y'.1 a = M.1 a
          rw [s4.1 a g9 g4]
          show (fI K2 186 0 73 (fun k => K2.1 184 k)).1 a = M.1 a
          rw [fI_na g6, kK a g0 g9, (r3 a g1 g2 g3).1]
        have m184 : (putL (putL Y' 179 2 t2) 179 3 b2).1 184 = M.1 184 := s4.2.2.2.trans mY
        have kL : ∀ a, a ≠ 0 → a ≠ 179 → ¬ (39 ≤ a ∧ a < 67) → a ≠ 85 → a ≠ 86 → (putL (putL Y' 179 2 t2) 179 3 b2).2.1 a = M.2.1 a := fun a g0 g9 g1 g2 g3 => by
          rw [pL_ne g9, pL_ne g9, s4.2.1]
          show (putL (putL X' 0 1 t2) 0 2 b2).2.1 a = M.2.1 a
          rw [pL_ne g0, pL_ne g0, (r3 a g1 g2 g3).2]
        refine ⟨1, K1, putL (putL Y' 179 2 t2) 179 3 b2, ?_, ?_, ?_⟩
        · rw [q_x_mean, x_within, bI_k, if_pos c1', if_neg (by decide), x_within, bI_k, if_pos c2, if_neg (by decide), if_neg w2, e7, if_neg c]
          exact r1
        · have hJ : K2.1 184 73 = mV M 73 := congrFun mK 73
          rw [q_m_mean, m_isIn, bI_k, if_pos c2, if_neg (by decide), w1, m_isIn, bI_k, if_pos c1, if_neg (by decide)]
          show (if K2.1 184 73 = 0 then _ else E2 d r_m_mean 36 [(0, vR 12 179), (1, vI p1), (2, vI p2), (3, vI 0)] [] K2) = _
          rw [hJ, if_neg c, m_before]
          exact s2
        · refine h.keepS (fun a ha => ⟨?_, kL a (by unfold Rc at ha; omega) (by unfold Rc at ha; omega) (by unfold Rc at ha; omega) (by unfold Rc at ha; omega) (by unfold Rc at ha; omega)⟩) ?_ ?_ ?_ (fun k hk => ?_) (fun k g0 g1 g2 => ?_)
          · by_cases c4 : a = 184
            · rw [c4]; exact m184
            · exact kA a (by unfold Rc at ha; omega) (by unfold Rc at ha; omega) c4 (by unfold Rc at ha; omega) (by unfold Rc at ha; omega) (by unfold Rc at ha; omega) (by unfold Rc at ha; omega)
          · have e1 : Y'.1 0 0 = 0 := by
              rw [s4.1 0 (by decide) (by decide)]
              show (fI K2 186 0 73 (fun k => K2.1 184 k)).1 0 0 = 0
              rw [fI_na (by decide)]
              show (putI (putI (putI (putL (putL X' 0 1 t2) 0 2 b2) 0 0 0) 179 1 0) 179 0 0).1 0 0 = 0
              rw [pI_ne (by decide), pI_ne (by decide), pI_s]
            have e2 : Y'.1 179 0 = 0 := by
              rw [s4.2.2.1 0 (by omega)]
              show (fI K2 186 0 73 (fun k => K2.1 184 k)).1 179 0 = 0
              rw [fI_na (by decide)]
              exact pI_s
            exact e1.trans e2.symm
          · have e1 : (putL (putL Y' 179 2 t2) 179 3 b2).2.1 0 1 = t2 := by
              rw [pL_ne (by decide), pL_ne (by decide), s4.2.1]
              exact qt X' t2 b2
            rw [e1, pL_nk (by decide), pL_s]
          · have e1 : (putL (putL Y' 179 2 t2) 179 3 b2).2.1 0 2 = b2 := by
              rw [pL_ne (by decide), pL_ne (by decide), s4.2.1]
              exact qb X' t2 b2
            rw [e1, pL_s]
          · show Y'.1 0 k = M.1 0 k
            rw [s4.1 0 (by decide) (by decide)]
            show (fI K2 186 0 73 (fun k => K2.1 184 k)).1 0 k = M.1 0 k
            rw [fI_na (by decide)]
            show (putI (putI (putI (putL (putL X' 0 1 t2) 0 2 b2) 0 0 0) 179 1 0) 179 0 0).1 0 k = M.1 0 k
            rw [pI_ne (by decide), pI_ne (by decide), pI_nk hk]
            exact congrFun (r3 0 (by omega) (by omega) (by omega)).1 k
          · show Y'.1 179 k = M.1 179 k
            rw [s4.2.2.1 k g2]
            show (fI K2 186 0 73 (fun k => K2.1 184 k)).1 179 k = M.1 179 k
            rw [fI_na (by decide)]
            show (putI (putI (putI (putL (putL X' 0 1 t2) 0 2 b2) 0 0 0) 179 1 0) 179 0 0).1 179 k = M.1 179 k
            rw [pI_nk g0, pI_nk g1, pI_ne (by decide)]
            exact congrFun (r3 179 (by omega) (by omega) (by omega)).1 k
    · refine opR h 0 5 ?_ ?_
      · rw [q_x_mean, x_within, bI_k]
        by_cases c1' : 0 ≤ p1 ∧ p1 ≤ 9999
        · rw [if_pos c1', if_neg (by decide), x_within, bI_k, if_pos c2, if_neg (by decide), if_pos (by rw [w32s (x := p1 + p2) (by omega), w32s (by omega)]; omega), x_denR]
        · rw [if_neg c1', if_pos rfl, x_denR]
      · rw [q_m_mean, m_isIn, bI_k, if_pos c2, if_neg (by decide), w1, m_isIn, bI_k, if_neg c1, if_pos rfl, m_noR]
  · refine opR h 0 5 ?_ ?_
    · rw [q_x_mean, x_within, bI_k]
      by_cases c1' : 0 ≤ p1 ∧ p1 ≤ 9999
      · rw [if_pos c1', if_neg (by decide), x_within, bI_k, if_neg c2, if_pos rfl, x_denR]
      · rw [if_neg c1', if_pos rfl, x_denR]
    · rw [q_m_mean, m_isIn, bI_k, if_neg c2, if_pos rfl, m_noR]
end Mean2
