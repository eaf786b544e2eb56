section Emps2
variable (d : Nat) {M : Mem}
theorem o_empires (h3 : 3 ≤ d) (h : Inv M) (p : Int) : OpI d j_x_empires j_m_empires [vI p] M := by
  obtain ⟨a1, a2, a3, a4, a5, a6, a7, a8, a9, a10, a11⟩ := h.1
  by_cases c : 0 ≤ p ∧ p ≤ min (M.1 0 5) 300
  · obtain ⟨n, rfl⟩ : ∃ n : Nat, p = (n : Int) := ⟨p.toNat, by omega⟩
    have n9 : n ≤ 300 := by omega
    have n5 : (n : Int) ≤ M.1 0 5 := by omega
    obtain ⟨f, hf⟩ : ∃ f : Nat → Int, f = fun k => M.1 2 k := ⟨_, rfl⟩
    obtain ⟨na, nb, hNR⟩ := inv_NR h
    have tp := h.2.2.1
    have hx : ∀ k, k < n → (putI M 0 5 0).1 2 k = f k ∧ -128 ≤ f k ∧ f k ≤ 127 := fun k hk => by
      rw [pI_ne (by decide), hf]
      exact ⟨rfl, (tp k (by omega)).2⟩
    have hy : ∀ k, k < n → M.1 183 k = f k ∧ -128 ≤ f k ∧ f k ≤ 127 := fun k hk => by
      rw [hf]
      exact ⟨(tp k (by omega)).1.symm, (tp k (by omega)).2⟩
    have hky : KyR (putI M 0 5 0) := h.2.2.2.2.2.2
    have hN0 : NR (putI M 0 5 0) M na nb := hNR.keep (pI_ne (by decide)) (fun _ _ _ => rfl) (fun _ _ => rfl) rfl
    obtain ⟨X', Yd, g, T, x1, _, x3, _, x5⟩ := es_run d h3 hN0 hx hy n9 hky (by omega)
    have g0 := x3 0 (by decide) (by decide) (by decide) (by decide) (by decide) (by decide) (by decide)
    have gm : ∀ a, a ≠ 0 → a ≠ 3 → a ≠ 5 → a ≠ 6 → a ≠ 7 → a ≠ 9 → a ≠ 10 → ¬ (43 ≤ a ∧ a ≤ 48) → X'.1 a = M.1 a ∧ X'.2.1 a = M.2.1 a := fun a e0 e3 e5 e6 e7 e9 e10 e43 => ⟨by rw [(x3 a e3 e5 e6 e7 e9 e10 e43).1, pI_ne e0], (x3 a e3 e5 e6 e7 e9 e10 e43).2⟩
    clear hy
    have ex := q_x_empires (n : Int) d M
    rw [mn_I, bI_k, x_within, bI_k, if_pos c, if_neg (by decide)] at ex
    have ex2 : C2 d j_x_empires [vR 11 0, vI (n : Int)] M = (bI (some (some (vI (b01 g)), X')) fun x9 M8 => bV (C2 d j_x_keepFault [vR 11 0] M8) fun M10 => if x9 = 0 then (bI (C2 d j_x_refuse [vR 11 0, vI 10] M10) fun x12 M11 => some (some (vI x12), M11)) else (bV (C2 d j_pl_copyFrom [vR 6 15, vR 6 43] M10) fun M13 => bI (C2 d j_x_answer [vR 11 0, vI (M13.1 15 6)] M13) fun x15 M14 => some (some (vI x15), M14))) := by
      rw [ex, ← x1]
      cases hb : C2 d j_rd_begin [vR 8 3, vR 21 2, vI (n : Int)] (putI M 0 5 0) with
      | none => rw [hb] at x1; exact absurd x1 (by intro q; cases q)
      | some r =>
        obtain ⟨r1, r2⟩ := r
        cases r1 with
        | none => rfl
        | some v => rw [hb] at x1; exact absurd x1 (by intro q; cases q)
    rw [bI_k, q_x_keepFault, bV_k, pI_ne (by decide)] at ex2
    obtain ⟨K, hK⟩ : ∃ K, K = putI (putI X' 0 9 (X'.1 3 12)) 0 10 (X'.1 3 13) := ⟨_, rfl⟩
    rw [← hK] at ex2
    have K0 : ∀ j, j ≠ 9 → j ≠ 10 → K.1 0 j = X'.1 0 j := fun j g1 g2 => by rw [hK, pI_nk g2, pI_nk g1]
    have K9 : K.1 0 9 = X'.1 3 12 := by rw [hK, pI_nk (by decide), pI_s]
    have K10 : K.1 0 10 = X'.1 3 13 := by rw [hK, pI_s]
    have Kn : ∀ a, a ≠ 0 → K.1 a = X'.1 a := fun a g => by rw [hK, pI_ne g, pI_ne g]
    have Kl : K.2.1 = X'.2.1 := by rw [hK] <;> rfl
    clear hK
    have X0' : ∀ j, X'.1 0 j = (putI M 0 5 0).1 0 j := fun j => by rw [g0.1]
    have X05 : X'.1 0 5 = 0 := by rw [X0', pI_s]
    have X014 : X'.1 0 14 = M.1 0 14 := by rw [X0', pI_nk (by decide)]
    have X018 : X'.1 0 18 = M.1 0 18 := by rw [X0', pI_nk (by decide)]
    rcases x5 with ⟨rfl, Xd, jd, rd, sd, d1, d2, d3, d4⟩ | ⟨rfl, hb0⟩
    · rw [if_neg (by decide)] at ex2
      have xd5 : K.1 43 5 = (rd : Int) := by rw [Kn 43 (by decide), d1, pI_nk (by decide)]; exact d2.2.2.1
      have xd6 : K.1 43 6 = (sd : Int) := by rw [Kn 43 (by decide), d1, pI_nk (by decide)]; exact d2.2.2.2.1
      have xd7 : K.1 43 7 = 1 := by rw [Kn 43 (by decide), d1, pI_s]
      have rd60 : rd ≤ 60 := by
        have := d2.2.2.2.2.2.2.1
        have := d2.2.2.2.2.2.2.2.1
        omega
      obtain ⟨N, n1, n2, n3, n4, n5'⟩ := pl_cp d xd5 rd60 (Or.inr xd7)
      rw [n1, bV_k, q_x_answer, bI_k, n4 6 (by decide) (by decide), xd6] at ex2
      have N0 : N.1 0 = K.1 0 := n2 0 (by decide)
      have Nn : ∀ a, a ≠ 0 → ¬ (15 ≤ a ∧ a ≤ 20) → N.1 a = X'.1 a := fun a g1 g2 => by rw [n2 a g2, Kn a g1]
      have Nl : N.2.1 = X'.2.1 := n3.trans Kl
      have hy2 : ∀ k, k < n → (putI N 0 0 0).1 183 k = f k ∧ -128 ≤ f k ∧ f k ≤ 127 := fun k hk => by
        rw [pI_ne (by decide), Nn 183 (by decide) (by decide), (gm 183 (by decide) (by decide) (by decide) (by decide) (by decide) (by decide) (by decide) (by decide)).1, hf]
        exact ⟨(tp k (by omega)).1.symm, (tp k (by omega)).2⟩
      have h82 : (n : Int) ≤ (putI N 0 0 0).1 179 8 := by
        rw [pI_ne (by decide), Nn 179 (by decide) (by decide), (gm 179 (by decide) (by decide) (by decide) (by decide) (by decide) (by decide) (by decide) (by decide)).1]; omega
      have hN2 : NR (putI M 0 5 0) (putI N 0 0 0) na nb := by
        refine hNR.keep (pI_ne (by decide)) (fun _ _ _ => rfl) (fun k hk => ?_) ?_
        · rw [pI_ne (by decide), Nn 184 (by decide) (by decide), (gm 184 (by decide) (by decide) (by decide) (by decide) (by decide) (by decide) (by decide) (by decide)).1]
        · show N.2.1 187 = _
          rw [Nl, (gm 187 (by decide) (by decide) (by decide) (by decide) (by decide) (by decide) (by decide) (by decide)).2]
      obtain ⟨X2, Y2, b2, T2, y1, y2, y3, y4, y5⟩ := es_run d h3 hN2 hx hy2 n9 hky h82
      rw [x1] at y1
      injection y1 with y1
      injection y1 with y1 y1'
      injection y1 with y1
      injection y1 with y1
      have y1b := b01_inj y1
      subst y1b
      subst y1'
      rcases y5.symm with ⟨y5, _⟩ | ⟨_, Xe, je, re, se, e1, e2, e3, e4⟩
      · exact absurd y5 (by decide)
      have re' : rd = re := by
        have q1 : X'.1 43 5 = (re : Int) := by rw [e1, pI_nk (by decide)]; exact e2.2.2.1
        rw [Kn 43 (by decide), q1] at xd5
        omega
      have se' : sd = se := by
        have q1 : X'.1 43 6 = (se : Int) := by rw [e1, pI_nk (by decide)]; exact e2.2.2.2.1
        rw [Kn 43 (by decide), q1] at xd6
        omega
      subst re'
      subst se'
      obtain ⟨w1, w2, w3, w4, w5, w6, w7⟩ := y4
      have s30 : sd ≤ 30 := e2.2.2.2.2.2.2.2.1
      have z2 := e2.2.1
      have t26 := e2.2.2.2.2.1
      have em := y2
      rw [q_m_empires_16, if_pos z2, e2.1.2.2.2.2.1, if_pos e3, q_m_isWell, z2, pI_nk (by decide), z2, if_pos rfl, pI_nk (by decide), pI_nk (by decide), z2, if_pos rfl, bI_k, if_neg (by decide), pI_ne (by decide), pI_nk (by decide), pI_nk (by decide), t26] at em
      obtain ⟨W, hW⟩ : ∃ W, W = putI (putI (putI (putI Y2 179 10 0) 179 11 (-1)) 184 73 1) 184 74 (sd : Int) := ⟨_, rfl⟩
      rw [← hW] at em
      have W26 : W.1 179 26 = (sd : Int) := by rw [hW, pI_ne (by decide), pI_ne (by decide), pI_nk (by decide), pI_nk (by decide)]; exact t26
      have W4 : ∀ k, k ≠ 73 → k ≠ 74 → W.1 184 k = Y2.1 184 k := fun k k1 k2 => by rw [hW, pI_nk k2, pI_nk k1, pI_ne (by decide), pI_ne (by decide)]
      have W73 : W.1 184 73 = 1 := by rw [hW, pI_nk (by decide), pI_s]
      have W74 : W.1 184 74 = (sd : Int) := by rw [hW, pI_s]
      have W9 : ∀ j, j ≠ 10 → j ≠ 11 → W.1 179 j = Y2.1 179 j := fun j g1 g2 => by rw [hW, pI_ne (by decide), pI_ne (by decide), pI_nk g2, pI_nk g1]
      have W910 : W.1 179 10 = 0 := by rw [hW, pI_ne (by decide), pI_ne (by decide), pI_nk (by decide), pI_s]
      have W911 : W.1 179 11 = -1 := by rw [hW, pI_ne (by decide), pI_ne (by decide), pI_s]
      have Wn : ∀ a, a ≠ 179 → a ≠ 184 → W.1 a = Y2.1 a := fun a g1 g2 => by rw [hW, pI_ne g2, pI_ne g2, pI_ne g1, pI_ne g1]
      have Wl : W.2.1 = Y2.2.1 := by rw [hW] <;> rfl
      clear hW
      rw [m_44 d s30 W26] at em
      obtain ⟨Z, hZ⟩ : ∃ Z, Z = fI W 184 75 (9 * sd) (fun j => W.1 184 (1455 + j)) := ⟨_, rfl⟩
      rw [← hZ] at em
      have Zn : ∀ a, a ≠ 184 → Z.1 a = W.1 a := fun a g => by rw [hZ]; exact fI_na g
      have Zlo : ∀ k, k < 75 ∨ 75 + 9 * sd ≤ k → Z.1 184 k = W.1 184 k := fun k g => by rw [hZ]; exact fI_nj (by omega)
      have Zhi : ∀ k, k < 9 * sd → Z.1 184 (75 + k) = W.1 184 (1455 + k) := fun k g => by rw [hZ, fI_at (by omega), show 75 + k - 75 = k by omega]
      have Zl : Z.2.1 = W.2.1 := by rw [hZ] <;> rfl
      clear hZ
      have Cn : ∀ a, a ≠ 0 → a ≠ 179 → a ≠ 184 → Z.1 a = N.1 a := fun a q0 q1 q2 => by rw [Zn a q2, Wn a q1 q2, w1 a q1 q2, pI_ne q0]
      have Cl : ∀ a, a ≠ 179 → Z.2.1 a = X'.2.1 a := fun a q1 => by
        rw [Zl, Wl, w2 a q1]
        show N.2.1 a = _
        rw [Nl]
      have C0 : ∀ j, j ≠ 0 → Z.1 0 j = K.1 0 j := fun j q => by rw [Zn 0 (by decide), Wn 0 (by decide) (by decide), w1 0 (by decide) (by decide), pI_nk q, N0]
      have C00 : Z.1 0 0 = 0 := by rw [Zn 0 (by decide), Wn 0 (by decide) (by decide), w1 0 (by decide) (by decide), pI_s]
      have C9 : ∀ j, j ≠ 10 → j ≠ 11 → Z.1 179 j = Y2.1 179 j := fun j q1 q2 => by rw [Zn 179 (by decide), W9 j q1 q2]
      have C910 : Z.1 179 10 = 0 := by rw [Zn 179 (by decide), W910]
      have C911 : Z.1 179 11 = -1 := by rw [Zn 179 (by decide), W911]
      have Y9 : ∀ k, ¬ (12 ≤ k ∧ k ≤ 18) → k ≠ 26 → k ≠ 8 → k ≠ 9 → k ≠ 0 → k ≠ 1 → Y2.1 179 k = M.1 179 k := fun k q1 q2 q3 q4 q5 q6 => by
        rw [w3 k q1 q2 q3 q4 q5 q6, pI_ne (by decide), Nn 179 (by decide) (by decide), (gm 179 (by decide) (by decide) (by decide) (by decide) (by decide) (by decide) (by decide) (by decide)).1]
      have Y4 : ∀ k, k < 1455 → Y2.1 184 k = M.1 184 k := fun k hk => by
        rw [w7 k hk, pI_ne (by decide), Nn 184 (by decide) (by decide), (gm 184 (by decide) (by decide) (by decide) (by decide) (by decide) (by decide) (by decide) (by decide)).1]
      have Cl9 : ∀ k, k ≠ 19 → Z.2.1 179 k = M.2.1 179 k := fun k q1 => by
        rw [Zl, Wl, w6 k q1]
        show N.2.1 179 k = _
        rw [Nl, (gm 179 (by decide) (by decide) (by decide) (by decide) (by decide) (by decide) (by decide) (by decide)).2]
      have Cl0 : Z.2.1 0 = M.2.1 0 := by
        rw [Cl 0 (by decide), g0.2] <;> rfl
      have B73 : ∀ k, k < 73 → blk Z 0 k = blk M 0 k := fun k hk => by
        show Z.1 184 (345 * 0 + k) = M.1 184 (345 * 0 + k)
        rw [Zlo _ (by omega), W4 _ (by omega) (by omega), Y4 _ (by omega)]
      have fa := e2.1.1.2.2.2.2.2.2.2
      have f12 : X'.1 3 12 = 0 := by rw [e1, pI_ne (by decide)]; exact fa.2.1
      have f13 : X'.1 3 13 = -1 := by rw [e1, pI_ne (by decide)]; exact fa.2.2
      refine ⟨_, _, _, ex2, em, ?_⟩
      have hE : EmpR Z 11 0 := by
        obtain ⟨h1, h2, hn3, h4⟩ := h.2.2.2.1
        have hc' := h1.1
        unfold Wc at hc'
        have ci : ∀ a, (a = 11 ∨ (21 ≤ a ∧ a < 39)) → Z.1 a = M.1 a := fun a ha => by
          rw [Cn a (by omega) (by omega) (by omega), Nn a (by omega) (by omega), (gm a (by omega) (by omega) (by omega) (by omega) (by omega) (by omega) (by omega) (by omega)).1]
        have cl : ∀ a, (11 ≤ a ∧ a < 39) ∨ a = 187 → Z.2.1 a = M.2.1 a := fun a ha => by
          rw [Cl a (by omega), (gm a (by omega) (by omega) (by omega) (by omega) (by omega) (by omega) (by omega) (by omega)).2]
        refine ⟨(h1.plan (ci 11 (Or.inl rfl)) (fun a g1 g2 => ci a (Or.inr ⟨g1, g2⟩))).view (fun k hk => B73 k (by omega)), h2.view (fun k hk => B73 k hk), ⟨fun p hp => ?_, fun p hp => ?_⟩, ?_, ?_, ?_, fun _ => ?_⟩
        · rw [B73 0 (by decide)] at hp
          rw [cl _ (Or.inl (by omega)), cl 187 (Or.inr rfl)]
          exact hn3.1 p hp
        · rw [B73 1 (by decide)] at hp
          rw [cl _ (Or.inl (by omega)), cl 187 (Or.inr rfl)]
          exact hn3.2 p hp
        · show Z.1 15 7 = Z.1 184 (345 * 0 + 73)
          rw [Cn 15 (by decide) (by decide) (by decide), n4 7 (by decide) (by decide), xd7, Zlo _ (by omega)]
          exact W73.symm
        · refine Or.inr ?_
          show Z.1 184 (345 * 0 + 73) = 1
          rw [Zlo _ (by omega)]
          exact W73
        · show 0 ≤ Z.1 15 5 ∧ Z.1 15 5 ≤ 60
          rw [Cn 15 (by decide) (by decide) (by decide), n4 5 (by decide) (by decide), xd5]
          omega
        · have p74 : blk Z 0 74 = (sd : Int) := by
            show Z.1 184 (345 * 0 + 74) = _
            rw [Zlo _ (by omega)]
            exact W74
          refine ⟨?_, sd, rd, p74, s30, ?_, rd60, ?_⟩
          · rw [p74]
            show Z.1 15 6 = _
            rw [Cn 15 (by decide) (by decide) (by decide), n4 6 (by decide) (by decide), xd6]
          · show Z.1 15 5 = _
            rw [Cn 15 (by decide) (by decide) (by decide), n4 5 (by decide) (by decide), xd5]
          · have sg1 : Seg Xe 43 (blk Z 0) (sd + 1 - 0) 3 0 sd 0 rd := by
              refine Seg.fr (M := Xe) (M' := Xe) (P := PP Y2) (P' := blk Z 0) (r0 := 0) (m := rd) (s0 := 0) (t0 := sd) (fun _ _ _ _ _ _ => rfl) (fun k hk hk2 => ?_) (Nat.le_refl _) (Nat.le_refl _) (Nat.le_refl _) (Nat.le_refl _) e4
              show Z.1 184 (345 * 0 + k) = PP Y2 k
              rw [show 345 * 0 + k = k by omega]
              rcases hk with g | g
              · rw [PP_lo (by omega), Zlo k (by omega), W4 k (by omega) (by omega)]
              · have z := Zhi (k - 75) (by omega)
                rw [show 75 + (k - 75) = k by omega, show 1455 + (k - 75) = 1380 + k by omega] at z
                rw [PP_hi (by omega), z, W4 _ (by omega) (by omega)]
            have sg2 : Seg Z 15 (blk Z 0) (sd + 1 - 0) 3 0 sd 0 rd := by
              refine Seg.move (M := Xe) (q := 43) (m := rd) (fun i r i1 i5 hr => ?_) (fun _ _ => rfl) s30 (Nat.le_refl _) sg1
              rw [Cn (15 + i) (by omega) (by omega) (by omega), n5' i r i1 i5 hr, Kn (43 + i) (by omega), e1, pI_ne (by omega)]
            exact Seg.mono (by omega) sg2
      refine h.text (fun a ha => ⟨?_, ?_⟩) hE (fun k k1 k2 => ?_) (fun k k1 k2 => ?_) ?_ ?_ ?_ ?_
      · rw [Cn a (by omega) (by omega) (by omega), Nn a (by omega) (by omega), (gm a (by omega) (by omega) (by omega) (by omega) (by omega) (by omega) (by omega) (by omega)).1]
      · rw [Cl a (by omega), (gm a (by omega) (by omega) (by omega) (by omega) (by omega) (by omega) (by omega) (by omega)).2]
      · rw [Zlo k (by omega), W4 k (by omega) (by omega), Y4 k (by omega)]
      · rw [Cl 187 (by decide), (gm 187 (by decide) (by decide) (by decide) (by decide) (by decide) (by decide) (by decide) (by decide)).2]
      · unfold Hd
        rw [C00, C0 5 (by decide), C0 9 (by decide), C0 10 (by decide), C0 14 (by decide), C0 18 (by decide), K9, K10, K0 5 (by decide) (by decide), K0 14 (by decide) (by decide), K0 18 (by decide) (by decide), X05, X014, X018, Cl0, Cl9 2 (by decide), Cl9 3 (by decide), C910, C911, C9 0 (by decide) (by decide), C9 8 (by decide) (by decide), C9 24 (by decide) (by decide), C9 34 (by decide) (by decide), w4, w5, Y9 24 (by decide) (by decide) (by decide) (by decide) (by decide) (by decide), Y9 34 (by decide) (by decide) (by decide) (by decide) (by decide) (by decide), f12, f13]
        exact ⟨rfl, a2, a3, rfl, rfl, rfl, a7, a8, by decide, a10, a11⟩
      · rw [C0 5 (by decide), K0 5 (by decide) (by decide), X0', pI_s]
      · rw [C0 14 (by decide), K0 14 (by decide) (by decide), X0', pI_nk (by decide)]
      · rw [C0 18 (by decide), K0 18 (by decide) (by decide), X0', pI_nk (by decide)]
    · rw [if_pos b01_f, q_x_refuse, bI_k] at ex2
      have hy2 : ∀ k, k < n → (putI K 0 0 10).1 183 k = f k ∧ -128 ≤ f k ∧ f k ≤ 127 := fun k hk => by
        rw [pI_ne (by decide), Kn 183 (by decide), (gm 183 (by decide) (by decide) (by decide) (by decide) (by decide) (by decide) (by decide) (by decide)).1, hf]
        exact ⟨(tp k (by omega)).1.symm, (tp k (by omega)).2⟩
      have h82 : (n : Int) ≤ (putI K 0 0 10).1 179 8 := by
        rw [pI_ne (by decide), Kn 179 (by decide), (gm 179 (by decide) (by decide) (by decide) (by decide) (by decide) (by decide) (by decide) (by decide)).1]; omega
      have hN2 : NR (putI M 0 5 0) (putI K 0 0 10) na nb := by
        refine hNR.keep (pI_ne (by decide)) (fun _ _ _ => rfl) (fun k hk => ?_) ?_
        · rw [pI_ne (by decide), Kn 184 (by decide), (gm 184 (by decide) (by decide) (by decide) (by decide) (by decide) (by decide) (by decide) (by decide)).1]
        · show K.2.1 187 = _
          rw [Kl, (gm 187 (by decide) (by decide) (by decide) (by decide) (by decide) (by decide) (by decide) (by decide)).2]
      obtain ⟨X2, Y2, b2, T2, y1, y2, y3, y4, y5⟩ := es_run d h3 hN2 hx hy2 n9 hky h82
      rw [x1] at y1
      injection y1 with y1
      injection y1 with y1 y1'
      injection y1 with y1
      injection y1 with y1
      have y1b := b01_inj y1
      subst y1b
      subst y1'
      rcases y5 with ⟨y5, _⟩ | ⟨_, hB⟩
      · exact absurd y5 (by decide)
      obtain ⟨w1, w2, w3, w4, w5, w6, w7⟩ := y4
      obtain ⟨p, q, p0, p1, p2, p3, p4⟩ := hB
      have em := y2
      rw [q_m_empires_16, p3, if_neg (pos_ne p0), q_m_isWell, p3, pI_nk (by decide), p3, if_neg (pos_ne p0), pI_nk (by decide), pI_nk (by decide), p3, if_neg (pos_ne p0), pI_nk (by decide), p4, q_m_no, bI_k, if_pos rfl, bI_k, if_pos rfl] at em
      obtain ⟨Z, hZ⟩ : ∃ Z, Z = putI (putI (putI Y2 179 10 p) 179 11 q) 179 0 10 := ⟨_, rfl⟩
      rw [← hZ] at em
      have Cn : ∀ a, a ≠ 0 → a ≠ 179 → a ≠ 184 → Z.1 a = K.1 a := fun a q0 q1 q2 => by
        rw [hZ, pI_ne q1, pI_ne q1, pI_ne q1, w1 a q1 q2, pI_ne q0]
      have Cl : ∀ a, a ≠ 179 → Z.2.1 a = K.2.1 a := fun a q1 => by
        rw [hZ]
        exact w2 a q1
      have C0 : ∀ j, j ≠ 0 → Z.1 0 j = K.1 0 j := fun j g => by
        rw [hZ, pI_ne (by decide), pI_ne (by decide), pI_ne (by decide), w1 0 (by decide) (by decide), pI_nk g]
      have C00 : Z.1 0 0 = 10 := by
        rw [hZ, pI_ne (by decide), pI_ne (by decide), pI_ne (by decide), w1 0 (by decide) (by decide), pI_s]
      have C9 : ∀ j, j ≠ 10 → j ≠ 11 → j ≠ 0 → Z.1 179 j = Y2.1 179 j := fun j g1 g2 g3 => by
        rw [hZ, pI_nk g3, pI_nk g2, pI_nk g1]
      have C910 : Z.1 179 10 = p := by rw [hZ, pI_nk (by decide), pI_nk (by decide), pI_s]
      have C911 : Z.1 179 11 = q := by rw [hZ, pI_nk (by decide), pI_s]
      have C90 : Z.1 179 0 = 10 := by rw [hZ, pI_s]
      have C4 : ∀ k, Z.1 184 k = Y2.1 184 k := fun k => by rw [hZ, pI_ne (by decide), pI_ne (by decide), pI_ne (by decide)]
      have CL9 : Z.2.1 179 = Y2.2.1 179 := by rw [hZ] <;> rfl
      clear hZ
      have Y9 : ∀ k, ¬ (12 ≤ k ∧ k ≤ 18) → k ≠ 26 → k ≠ 8 → k ≠ 9 → k ≠ 0 → k ≠ 1 → Y2.1 179 k = M.1 179 k := fun k q1 q2 q3 q4 q5 q6 => by
        rw [w3 k q1 q2 q3 q4 q5 q6, pI_ne (by decide), Kn 179 (by decide), (gm 179 (by decide) (by decide) (by decide) (by decide) (by decide) (by decide) (by decide) (by decide)).1]
      have Cl9 : ∀ k, k ≠ 19 → Z.2.1 179 k = M.2.1 179 k := fun k q1 => by
        rw [CL9, w6 k q1]
        show K.2.1 179 k = _
        rw [Kl, (gm 179 (by decide) (by decide) (by decide) (by decide) (by decide) (by decide) (by decide) (by decide)).2]
      have Cl0 : Z.2.1 0 = M.2.1 0 := by
        rw [Cl 0 (by decide), Kl, g0.2] <;> rfl
      have CB : ∀ k, k < 1380 → Z.1 184 k = M.1 184 k := fun k hk => by
        rw [C4, w7 k (by omega), pI_ne (by decide), Kn 184 (by decide), (gm 184 (by decide) (by decide) (by decide) (by decide) (by decide) (by decide) (by decide) (by decide)).1]
      have cf : ∀ a, a ≠ 0 → a ≠ 3 → a ≠ 5 → a ≠ 6 → a ≠ 7 → a ≠ 9 → a ≠ 10 → ¬ (43 ≤ a ∧ a ≤ 48) → a ≠ 179 → a ≠ 184 → Z.1 a = M.1 a ∧ Z.2.1 a = M.2.1 a := fun a e0 e3 e5 e6 e7 e9 e10 e43 e1 e2 => ⟨by rw [Cn a e0 e1 e2, Kn a e0, (gm a e0 e3 e5 e6 e7 e9 e10 e43).1], by rw [Cl a e1, Kl, (gm a e0 e3 e5 e6 e7 e9 e10 e43).2]⟩
      have CW : Z.2.1 187 = M.2.1 187 := (cf 187 (by decide) (by decide) (by decide) (by decide) (by decide) (by decide) (by decide) (by decide) (by decide) (by decide)).2
      refine ⟨_, _, _, ex2, em, ?_⟩
      have hE := h.2.2.2.1
      obtain ⟨q7, q8, q9, _, _⟩ := hE.nums
      refine h.text (fun a ha => cf a (by omega) (by omega) (by omega) (by omega) (by omega) (by omega) (by omega) (by omega) (by omega) (by omega)) ?_ (fun k _ k2 => CB k k2) (fun k _ _ => by rw [CW]) ?_ ?_ ?_ ?_
      · refine hE.move (CpR.same (fun a r1 r2 => cf a (by omega) (by omega) (by omega) (by omega) (by omega) (by omega) (by omega) (by omega) (by omega) (by omega)) q7.2 q8.2 q9.2) (fun k hk => ?_) (fun k hk => ?_)
        · exact CB _ (by omega)
        · rw [CW]
      · unfold Hd
        rw [C00, C90, C0 5 (by decide), C0 9 (by decide), C0 10 (by decide), C0 14 (by decide), C0 18 (by decide), K9, K10, K0 5 (by decide) (by decide), K0 14 (by decide) (by decide), K0 18 (by decide) (by decide), X05, X014, X018, Cl0, Cl9 2 (by decide), Cl9 3 (by decide), C910, C911, C9 8 (by decide) (by decide) (by decide), C9 24 (by decide) (by decide) (by decide), C9 34 (by decide) (by decide) (by decide), w4, Y9 24 (by decide) (by decide) (by decide) (by decide) (by decide) (by decide), Y9 34 (by decide) (by decide) (by decide) (by decide) (by decide) (by decide), p1, p2]
        exact ⟨rfl, a2, a3, rfl, rfl, rfl, a7, a8, by decide, a10, a11⟩
      · rw [C0 5 (by decide), K0 5 (by decide) (by decide), X0', pI_s]
      · rw [C0 14 (by decide), K0 14 (by decide) (by decide), X0', pI_nk (by decide)]
      · rw [C0 18 (by decide), K0 18 (by decide) (by decide), X0', pI_nk (by decide)]
  · refine opR h (-1) 5 ?_ ?_
    · rw [q_x_empires, mn_I, bI_k, x_within, bI_k, if_neg c, if_pos rfl, q_x_refuse, bI_k]
    · have e8 : (putI (putI (putI M 0 0 5) 179 1 0) 179 0 0).1 179 8 = M.1 0 5 := by
        rw [pI_nk (by decide), pI_nk (by decide), pI_ne (by decide), a4]
      rw [q_m_empires, q_m_starts, e8, q_m_no]
      by_cases c1 : p < 0
      · rw [if_pos c1, bI_k, if_pos (Or.inl rfl), bI_k, if_pos rfl]
      · rw [if_neg c1]
        by_cases c2 : M.1 0 5 < p
        · rw [if_pos c2, bI_k, if_pos (Or.inl rfl), bI_k, if_pos rfl]
        · rw [if_neg c2, if_pos (by omega), bI_k, if_pos (Or.inl rfl), bI_k, if_pos rfl]
end Emps2
