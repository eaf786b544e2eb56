section Empire2
variable (d : Nat) {M : Mem}
theorem b01_inj {a b : Bool} (h : b01 a = b01 b) : a = b := by
  cases a <;> cases b <;> first | rfl | (exact absurd h (by decide))
theorem gx_m {M X' : Mem} {v : Int} (h : GX (putI M 0 5 v) X') : ∀ a, a ≠ 0 → a ≠ 3 → a ≠ 5 → a ≠ 6 → a ≠ 7 → a ≠ 8 → ¬ (39 ≤ a ∧ a < 67) → X'.1 a = M.1 a ∧ X'.2.1 a = M.2.1 a := fun a h0 h3 h5 h6 h7 h8 h9 => ⟨by rw [(h a h3 h5 h6 h7 h8 h9).1, pI_ne h0], (h a h3 h5 h6 h7 h8 h9).2⟩
theorem o_empire (h : Inv M) (p : Int) : OpI d j_x_empire j_m_empire [vI p] M := by
  obtain ⟨a1, a2, a3, a4, a5, a6, a7, a8, a9, a10, a11⟩ := h.1
  by_cases c : 0 ≤ p ∧ p ≤ M.1 0 5
  · obtain ⟨n, rfl⟩ : ∃ n : Nat, p = (n : Int) := ⟨p.toNat, by omega⟩
    have n9 : n ≤ 900 := by omega
    obtain ⟨f, hf⟩ : ∃ f : Nat → Int, f = fun k => M.1 2 k := ⟨_, rfl⟩
    have tp := h.2.2.1
    have hx : ∀ k, k < n → (putI M 0 5 0).1 2 k = f k ∧ -128 ≤ f k ∧ f k ≤ 127 := fun k hk => by
      rw [pI_ne (by decide), hf]
      exact ⟨rfl, (tp k (by omega)).2⟩
    have hy : ∀ k, k < n → M.1 183 k = f k ∧ -128 ≤ f k ∧ f k ≤ 127 := fun k hk => by
      rw [hf]
      exact ⟨(tp k (by omega)).1.symm, (tp k (by omega)).2⟩
    have hky : KyR (putI M 0 5 0) := h.2.2.2.2.2.2
    obtain ⟨X', Yd, b, T, x1, _, x3, _, x5⟩ := e_run d hx hy n9 hky (by omega)
    have g0 := x3 0 (by decide) (by decide) (by decide) (by decide) (by decide) (by decide)
    have gm := gx_m x3
    clear hy
    have ex := q_x_empire (n : Int) d M
    rw [x_within, bI_k, if_pos c, if_neg (by decide)] at ex
    have ex2 : C2 d j_x_empire [vR 11 0, vI (n : Int)] M = (bI (some (some (vI (b01 b)), X')) fun x7 M6 => bV (C2 d j_x_keepFault [vR 11 0] M6) fun M8 => if x7 = 0 then (bI (C2 d j_x_refuse [vR 11 0, vI 10] M8) fun x10 M9 => some (some (vI x10), M9)) else (bV (C2 d j_em_copyFrom [vR 1 11, vR 1 39] M8) fun M11 => bI (C2 d j_x_answer [vR 11 0, vI (M11.1 11 8)] M11) fun x13 M12 => some (some (vI x13), M12))) := by
      rw [ex, ← x1]
      cases hb : C2 d j_rd_begin [vR 8 3, vR 21 2, vI (n : Int)] (putI M 0 5 0) with
      | none => rw [hb] at x1; exact absurd x1 (by intro q; cases q)
      | some r =>
        obtain ⟨r1, r2⟩ := r
        cases r1 with
        | none => rfl
        | some v => rw [hb] at x1; exact absurd x1 (by intro q; cases q)
    rw [bI_k, q_x_keepFault, bV_k, pI_ne (by decide)] at ex2
    obtain ⟨K, hK⟩ : ∃ K, K = putI (putI X' 0 9 (X'.1 3 12)) 0 10 (X'.1 3 13) := ⟨_, rfl⟩
    rw [← hK] at ex2
    have K0 : ∀ j, j ≠ 9 → j ≠ 10 → K.1 0 j = X'.1 0 j := fun j g1 g2 => by rw [hK, pI_nk g2, pI_nk g1]
    have K9 : K.1 0 9 = X'.1 3 12 := by rw [hK, pI_nk (by decide), pI_s]
    have K10 : K.1 0 10 = X'.1 3 13 := by rw [hK, pI_s]
    have Kn : ∀ a, a ≠ 0 → K.1 a = X'.1 a := fun a g => by rw [hK, pI_ne g, pI_ne g]
    have Kl : K.2.1 = X'.2.1 := by rw [hK] <;> rfl
    clear hK
    have X0 : ∀ j, X'.1 0 j = (putI M 0 5 0).1 0 j := fun j => by rw [g0.1]
    have X05 : X'.1 0 5 = 0 := by rw [X0, pI_s]
    have X014 : X'.1 0 14 = M.1 0 14 := by rw [X0, pI_nk (by decide)]
    have X018 : X'.1 0 18 = M.1 0 18 := by rw [X0, pI_nk (by decide)]
    rcases x5 with ⟨rfl, i0, s0, t0⟩ | ⟨rfl, hb0⟩
    · rw [if_neg (by decide)] at ex2
      obtain ⟨m7, m8, m9, m5, mb⟩ := mk_nums s0.2.2.1
      rw [← Kn 39 (by decide)] at m7 m8 m9
      rw [← Kn (39 + 4) (by decide)] at m5 mb
      obtain ⟨N, n1, n2, n3⟩ := em_copy (M := K) d (p0 := 11) (p1 := 39) (by unfold Dj; omega) m7 m8 m9 m5 mb
      rw [n1, bV_k, q_x_answer, bI_k] at ex2
      have N0 : N.1 0 = K.1 0 := (n2 0 (by omega)).1
      have Nn : ∀ a, a ≠ 0 → ¬ (11 ≤ a ∧ a < 39) → N.1 a = X'.1 a ∧ N.2.1 a = X'.2.1 a := fun a g1 g2 => ⟨by rw [(n2 a (by omega)).1, Kn a g1], by rw [(n2 a (by omega)).2, Kl]⟩
      have hy2 : ∀ k, k < n → (putI N 0 0 0).1 183 k = f k ∧ -128 ≤ f k ∧ f k ≤ 127 := fun k hk => by
        rw [pI_ne (by decide), (Nn 183 (by decide) (by decide)).1, (gm 183 (by decide) (by decide) (by decide) (by decide) (by decide) (by decide) (by decide)).1, hf]
        exact ⟨(tp k (by omega)).1.symm, (tp k (by omega)).2⟩
      have h82 : (n : Int) ≤ (putI N 0 0 0).1 179 8 := by
        rw [pI_ne (by decide), (Nn 179 (by decide) (by decide)).1, (gm 179 (by decide) (by decide) (by decide) (by decide) (by decide) (by decide) (by decide)).1]; omega
      obtain ⟨X2, Y2, b2, T2, y1, y2, y3, y4, y5⟩ := e_run d hx hy2 n9 hky h82
      rw [x1] at y1
      injection y1 with y1
      injection y1 with y1 y1'
      injection y1 with y1
      injection y1 with y1
      have y1b := b01_inj y1
      subst y1b
      subst y1'
      rcases y5.symm with ⟨y5, _⟩ | ⟨_, i2, s2, t2⟩
      · exact absurd y5 (by decide)
      obtain ⟨w1, w2, w3, w4, w5, w6, w7, w8⟩ := y4
      have em := y2
      rw [q_m_empire_19, if_pos s2.2.1, s2.1.2.2.2.2.1, if_pos t2, q_m_isWell, s2.2.1, pI_nk (by decide), s2.2.1, if_pos rfl, pI_nk (by decide), pI_nk (by decide), s2.2.1, if_pos rfl, bI_k, if_neg (by decide)] at em
      have mc := m_copies (M := putI (putI Y2 179 10 0) 179 11 (-1)) d (a := 4) (b := 0) (by decide) (by decide) (by decide)
      have mc' : C2 d j_m_copy [vR 12 179, vI 4, vI 0] (putI (putI Y2 179 10 0) 179 11 (-1)) = some (none, cpM (putI (putI Y2 179 10 0) 179 11 (-1)) 4 0) := mc
      rw [mc', bV_k] at em
      have eB : ∀ c k, blk (putI (putI Y2 179 10 0) 179 11 (-1)) c k = blk Y2 c k := fun c k => by
        unfold blk
        rw [pI_ne (by decide), pI_ne (by decide)]
      have B0 : ∀ k, k < 345 → blk (cpM (putI (putI Y2 179 10 0) 179 11 (-1)) 4 0) 0 k = blk Y2 4 k := fun k hk => by rw [cp_b k hk, eB]
      have W0 : ∀ k, k < 18 → (cpM (putI (putI Y2 179 10 0) 179 11 (-1)) 4 0).2.1 187 (18 * 0 + k) = Y2.2.1 187 (18 * 4 + k) := fun k hk => cp_w k hk
      have Cn : ∀ a, a ≠ 0 → a ≠ 179 → a ≠ 184 → (cpM (putI (putI Y2 179 10 0) 179 11 (-1)) 4 0).1 a = N.1 a := fun a e0 e1 e2 => by
        rw [cp_i e2, pI_ne e1, pI_ne e1, w1 a e1 e2, pI_ne e0]
      have Cl : ∀ a, a ≠ 179 → a ≠ 187 → (cpM (putI (putI Y2 179 10 0) 179 11 (-1)) 4 0).2.1 a = N.2.1 a := fun a e1 e2 => by
        rw [cp_l e2]
        show Y2.2.1 a = _
        rw [w2 a e1 e2] <;> rfl
      have C0 : ∀ j, j ≠ 0 → (cpM (putI (putI Y2 179 10 0) 179 11 (-1)) 4 0).1 0 j = K.1 0 j := fun j g => by
        rw [cp_i (by decide), pI_ne (by decide), pI_ne (by decide), w1 0 (by decide) (by decide), pI_nk g, N0]
      have C00 : (cpM (putI (putI Y2 179 10 0) 179 11 (-1)) 4 0).1 0 0 = 0 := by
        rw [cp_i (by decide), pI_ne (by decide), pI_ne (by decide), w1 0 (by decide) (by decide), pI_s]
      have C9 : ∀ j, j ≠ 10 → j ≠ 11 → (cpM (putI (putI Y2 179 10 0) 179 11 (-1)) 4 0).1 179 j = Y2.1 179 j := fun j g1 g2 => by
        rw [cp_i (by decide), pI_nk g2, pI_nk g1]
      have C910 : (cpM (putI (putI Y2 179 10 0) 179 11 (-1)) 4 0).1 179 10 = 0 := by
        rw [cp_i (by decide), pI_nk (by decide), pI_s]
      have C911 : (cpM (putI (putI Y2 179 10 0) 179 11 (-1)) 4 0).1 179 11 = -1 := by
        rw [cp_i (by decide), pI_s]
      have Y9 : ∀ k, ¬ (12 ≤ k ∧ k ≤ 18) → k ≠ 25 → k ≠ 8 → k ≠ 9 → k ≠ 0 → k ≠ 1 → Y2.1 179 k = M.1 179 k := fun k e1 e2 e3 e4 e5 e6 => by
        rw [w3 k e1 e2 e3 e4 e5 e6, pI_ne (by decide), (Nn 179 (by decide) (by decide)).1, (gm 179 (by decide) (by decide) (by decide) (by decide) (by decide) (by decide) (by decide)).1]
      have Cl9 : ∀ k, k ≠ 19 → (cpM (putI (putI Y2 179 10 0) 179 11 (-1)) 4 0).2.1 179 k = M.2.1 179 k := fun k e1 => by
        rw [cp_l (by decide)]
        show Y2.2.1 179 k = _
        rw [w6 k e1]
        show N.2.1 179 k = _
        rw [(Nn 179 (by decide) (by decide)).2, (gm 179 (by decide) (by decide) (by decide) (by decide) (by decide) (by decide) (by decide)).2]
      have Cl0 : (cpM (putI (putI Y2 179 10 0) 179 11 (-1)) 4 0).2.1 0 = M.2.1 0 := by
        rw [Cl 0 (by decide) (by decide), (n2 0 (by omega)).2, Kl, g0.2] <;> rfl
      have ans : N.1 11 8 = (cpM (putI (putI Y2 179 10 0) 179 11 (-1)) 4 0).1 184 1 := by
        have e1 := B0 1 (by decide)
        have e2 : (cpM (putI (putI Y2 179 10 0) 179 11 (-1)) 4 0).1 184 1 = blk (cpM (putI (putI Y2 179 10 0) 179 11 (-1)) 4 0) 0 1 := rfl
        rw [e2, e1, n3.1 8 (by decide), Kn 39 (by decide)]
        exact s2.2.2.1.1.2.1.2.2.2.2.2.2.2.2.1
      rw [← ans] at em
      refine ⟨_, _, _, ex2, em, ?_⟩
      · have hE : EmpR (cpM (putI (putI Y2 179 10 0) 179 11 (-1)) 4 0) 11 0 := mk_emp (K := K) s2.2.2.1 (fun a e1 e2 => ⟨Kn a (by omega), by rw [Kl]⟩) (n3.next (fun a e1 e2 => ⟨Cn a (by omega) (by omega) (by omega), Cl a (by omega) (by omega)⟩) m7.2 m8.2 m9.2) B0 W0
        have fa := s2.1.1.2.2.2.2.2.2.2
        refine h.text (fun a ha => ⟨?_, ?_⟩) hE (fun k k1 k2 => ?_) (fun k k1 k2 => ?_) ?_ ?_ ?_ ?_
        · rw [Cn a (by omega) (by omega) (by omega), (Nn a (by omega) (by omega)).1, (gm a (by omega) (by omega) (by omega) (by omega) (by omega) (by omega) (by omega)).1]
        · rw [Cl a (by omega) (by omega), (Nn a (by omega) (by omega)).2, (gm a (by omega) (by omega) (by omega) (by omega) (by omega) (by omega) (by omega)).2]
        · have e := cp_bn (M := putI (putI Y2 179 10 0) 179 11 (-1)) (a := 4) (b := 0) (c := k / 345) (by omega) (k % 345) (by omega)
          rw [eB] at e
          unfold blk at e
          rw [show 345 * (k / 345) + k % 345 = k by omega] at e
          rw [e, w7 k k2, pI_ne (by decide), (Nn 184 (by decide) (by decide)).1, (gm 184 (by decide) (by decide) (by decide) (by decide) (by decide) (by decide) (by decide)).1]
        · have e := cp_wn (M := putI (putI Y2 179 10 0) 179 11 (-1)) (a := 4) (b := 0) (c := k / 18) (by omega) (k % 18) (by omega)
          rw [show 18 * (k / 18) + k % 18 = k by omega] at e
          rw [e]
          show Y2.2.1 187 k = _
          rw [w8 k k2]
          show N.2.1 187 k = _
          rw [(Nn 187 (by decide) (by decide)).2, (gm 187 (by decide) (by decide) (by decide) (by decide) (by decide) (by decide) (by decide)).2]
        · unfold Hd
          rw [C00, C0 5 (by decide), C0 9 (by decide), C0 10 (by decide), C0 14 (by decide), C0 18 (by decide), K9, K10, K0 5 (by decide) (by decide), K0 14 (by decide) (by decide), K0 18 (by decide) (by decide), X05, X014, X018, Cl0, Cl9 2 (by decide), Cl9 3 (by decide), C910, C911, C9 0 (by decide) (by decide), C9 8 (by decide) (by decide), C9 24 (by decide) (by decide), C9 34 (by decide) (by decide), w4, w5, Y9 24 (by decide) (by decide) (by decide) (by decide) (by decide) (by decide), Y9 34 (by decide) (by decide) (by decide) (by decide) (by decide) (by decide), fa.2.1, fa.2.2]
          exact ⟨rfl, a2, a3, rfl, rfl, rfl, a7, a8, by decide, a10, a11⟩
        · rw [C0 5 (by decide), K0 5 (by decide) (by decide), X0, pI_s]
        · rw [C0 14 (by decide), K0 14 (by decide) (by decide), X0, pI_nk (by decide)]
        · rw [C0 18 (by decide), K0 18 (by decide) (by decide), X0, pI_nk (by decide)]
    · rw [if_pos b01_f, q_x_refuse, bI_k] at ex2
      have hy2 : ∀ k, k < n → (putI K 0 0 10).1 183 k = f k ∧ -128 ≤ f k ∧ f k ≤ 127 := fun k hk => by
        rw [pI_ne (by decide), Kn 183 (by decide), (gm 183 (by decide) (by decide) (by decide) (by decide) (by decide) (by decide) (by decide)).1, hf]
        exact ⟨(tp k (by omega)).1.symm, (tp k (by omega)).2⟩
      have h82 : (n : Int) ≤ (putI K 0 0 10).1 179 8 := by
        rw [pI_ne (by decide), Kn 179 (by decide), (gm 179 (by decide) (by decide) (by decide) (by decide) (by decide) (by decide) (by decide)).1]; omega
      obtain ⟨X2, Y2, b2, T2, y1, y2, y3, y4, y5⟩ := e_run d hx hy2 n9 hky h82
      rw [x1] at y1
      injection y1 with y1
      injection y1 with y1 y1'
      injection y1 with y1
      injection y1 with y1
      have y1b := b01_inj y1
      subst y1b
      subst y1'
      rcases y5 with ⟨y5, _⟩ | ⟨_, hB⟩
      · exact absurd y5 (by decide)
      obtain ⟨w1, w2, w3, w4, w5, w6, w7, w8⟩ := y4
      obtain ⟨p, q, p0, p1, p2, p3, p4⟩ := hB
      have em := y2
      rw [q_m_empire_19, p3, if_neg (by omega), q_m_isWell, p3, pI_nk (by decide), p3, if_neg (by omega), pI_nk (by decide), pI_nk (by decide), p3, if_neg (by omega), pI_nk (by decide), p4, q_m_no, bI_k, if_pos rfl, bI_k, if_pos rfl] at em
      have Cn : ∀ a, a ≠ 0 → a ≠ 179 → a ≠ 184 → (putI (putI (putI Y2 179 10 p) 179 11 q) 179 0 10).1 a = K.1 a := fun a e0 e1 e2 => by
        rw [pI_ne e1, pI_ne e1, pI_ne e1, w1 a e1 e2, pI_ne e0]
      have Cl : ∀ a, a ≠ 179 → a ≠ 187 → (putI (putI (putI Y2 179 10 p) 179 11 q) 179 0 10).2.1 a = K.2.1 a := fun a e1 e2 => w2 a e1 e2
      have C0 : ∀ j, j ≠ 0 → (putI (putI (putI Y2 179 10 p) 179 11 q) 179 0 10).1 0 j = K.1 0 j := fun j g => by
        rw [pI_ne (by decide), pI_ne (by decide), pI_ne (by decide), w1 0 (by decide) (by decide), pI_nk g]
      have C00 : (putI (putI (putI Y2 179 10 p) 179 11 q) 179 0 10).1 0 0 = 10 := by
        rw [pI_ne (by decide), pI_ne (by decide), pI_ne (by decide), w1 0 (by decide) (by decide), pI_s]
      have C9 : ∀ j, j ≠ 10 → j ≠ 11 → j ≠ 0 → (putI (putI (putI Y2 179 10 p) 179 11 q) 179 0 10).1 179 j = Y2.1 179 j := fun j g1 g2 g3 => by
        rw [pI_nk g3, pI_nk g2, pI_nk g1]
      have C910 : (putI (putI (putI Y2 179 10 p) 179 11 q) 179 0 10).1 179 10 = p := by
        rw [pI_nk (by decide), pI_nk (by decide), pI_s]
      have C911 : (putI (putI (putI Y2 179 10 p) 179 11 q) 179 0 10).1 179 11 = q := by
        rw [pI_nk (by decide), pI_s]
      have C90 : (putI (putI (putI Y2 179 10 p) 179 11 q) 179 0 10).1 179 0 = 10 := pI_s
      have Y9 : ∀ k, ¬ (12 ≤ k ∧ k ≤ 18) → k ≠ 25 → k ≠ 8 → k ≠ 9 → k ≠ 0 → k ≠ 1 → Y2.1 179 k = M.1 179 k := fun k e1 e2 e3 e4 e5 e6 => by
        rw [w3 k e1 e2 e3 e4 e5 e6, pI_ne (by decide), Kn 179 (by decide), (gm 179 (by decide) (by decide) (by decide) (by decide) (by decide) (by decide) (by decide)).1]
      have Cl9 : ∀ k, k ≠ 19 → (putI (putI (putI Y2 179 10 p) 179 11 q) 179 0 10).2.1 179 k = M.2.1 179 k := fun k e1 => by
        show Y2.2.1 179 k = _
        rw [w6 k e1]
        show K.2.1 179 k = _
        rw [Kl, (gm 179 (by decide) (by decide) (by decide) (by decide) (by decide) (by decide) (by decide)).2]
      have Cl0 : (putI (putI (putI Y2 179 10 p) 179 11 q) 179 0 10).2.1 0 = M.2.1 0 := by
        rw [Cl 0 (by decide) (by decide), Kl, g0.2] <;> rfl
      have CB : ∀ k, k < 1380 → (putI (putI (putI Y2 179 10 p) 179 11 q) 179 0 10).1 184 k = M.1 184 k := fun k hk => by
        rw [pI_ne (by decide), pI_ne (by decide), pI_ne (by decide), w7 k hk, pI_ne (by decide), Kn 184 (by decide), (gm 184 (by decide) (by decide) (by decide) (by decide) (by decide) (by decide) (by decide)).1]
      have CW : ∀ k, k < 72 → (putI (putI (putI Y2 179 10 p) 179 11 q) 179 0 10).2.1 187 k = M.2.1 187 k := fun k hk => by
        show Y2.2.1 187 k = _
        rw [w8 k hk]
        show K.2.1 187 k = _
        rw [Kl, (gm 187 (by decide) (by decide) (by decide) (by decide) (by decide) (by decide) (by decide)).2]
      refine ⟨_, _, _, ex2, em, ?_⟩
      have hE := h.2.2.2.1
      obtain ⟨q7, q8, q9, _, _⟩ := hE.nums
      have cf : ∀ a, a ≠ 0 → a ≠ 3 → a ≠ 5 → a ≠ 6 → a ≠ 7 → a ≠ 8 → ¬ (39 ≤ a ∧ a < 67) → a ≠ 179 → a ≠ 184 → a ≠ 187 → (putI (putI (putI Y2 179 10 p) 179 11 q) 179 0 10).1 a = M.1 a ∧ (putI (putI (putI Y2 179 10 p) 179 11 q) 179 0 10).2.1 a = M.2.1 a := fun a e0 e3 e5 e6 e7 e8 e9 e1 e2 e4 => ⟨by rw [Cn a e0 e1 e2, Kn a e0, (gm a e0 e3 e5 e6 e7 e8 e9).1], by rw [Cl a e1 e4, Kl, (gm a e0 e3 e5 e6 e7 e8 e9).2]⟩
      refine h.text (fun a ha => cf a (by omega) (by omega) (by omega) (by omega) (by omega) (by omega) (by omega) (by omega) (by omega) (by omega)) ?_ (fun k _ k2 => CB k k2) (fun k _ k2 => CW k k2) ?_ ?_ ?_ ?_
      · refine hE.move (CpR.same (fun a r1 r2 => cf a (by omega) (by omega) (by omega) (by omega) (by omega) (by omega) (by omega) (by omega) (by omega) (by omega)) q7.2 q8.2 q9.2) (fun k hk => ?_) (fun k hk => ?_)
        · exact CB _ (by omega)
        · exact CW _ (by omega)
      · unfold Hd
        rw [C00, C90, C0 5 (by decide), C0 9 (by decide), C0 10 (by decide), C0 14 (by decide), C0 18 (by decide), K9, K10, K0 5 (by decide) (by decide), K0 14 (by decide) (by decide), K0 18 (by decide) (by decide), X05, X014, X018, Cl0, Cl9 2 (by decide), Cl9 3 (by decide), C910, C911, C9 8 (by decide) (by decide) (by decide), C9 24 (by decide) (by decide) (by decide), C9 34 (by decide) (by decide) (by decide), w4, Y9 24 (by decide) (by decide) (by decide) (by decide) (by decide) (by decide), Y9 34 (by decide) (by decide) (by decide) (by decide) (by decide) (by decide), p1, p2]
        exact ⟨rfl, a2, a3, rfl, rfl, rfl, a7, a8, by decide, a10, a11⟩
      · rw [C0 5 (by decide), K0 5 (by decide) (by decide), X0, pI_s]
      · rw [C0 14 (by decide), K0 14 (by decide) (by decide), X0, pI_nk (by decide)]
      · rw [C0 18 (by decide), K0 18 (by decide) (by decide), X0, pI_nk (by decide)]
  · refine opR h (-1) 5 ?_ ?_
    · rw [q_x_empire, x_within, bI_k, if_neg c, if_pos rfl, q_x_refuse, bI_k]
    · have e8 : (putI (putI (putI M 0 0 5) 179 1 0) 179 0 0).1 179 8 = M.1 0 5 := by
        rw [pI_nk (by decide), pI_nk (by decide), pI_ne (by decide), a4]
      rw [q_m_empire, q_m_starts, e8, q_m_no]
      by_cases c1 : p < 0
      · rw [if_pos c1, bI_k, if_pos (Or.inl rfl), bI_k, if_pos rfl]
      · rw [if_neg c1, if_pos (by omega), bI_k, if_pos (Or.inl rfl), bI_k, if_pos rfl]
end Empire2
