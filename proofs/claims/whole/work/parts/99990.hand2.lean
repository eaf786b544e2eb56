section Hand2
variable (d : Nat) {f : Nat → Int} {n T i : Nat} {X Y : Mem}
/-- how a thing ends, a hand too -/
def ThL (X Y X' Y' : Mem) (f : Nat → Int) (n T i : Nat) (b : Bool) : Prop := FE X X' ∧ FN Y Y' ∧ ((b = true ∧ ∃ i', i < i' ∧ StE X' Y' f n T i') ∨ (b = false ∧ Bad X' Y') ∨ (b = false ∧ Late d X' Y' f n T))
theorem ThO.l {X' Y' : Mem} {b : Bool} (h : ThO X Y X' Y' f n T i b) : ThL d X Y X' Y' f n T i b := by
  obtain ⟨h1, h2, h3 | h3⟩ := h
  · exact ⟨h1, h2, Or.inl h3⟩
  · exact ⟨h1, h2, Or.inr (Or.inl h3)⟩
theorem FK.e {q : Nat} {A B : Mem} (h : FK q A B) (hq : 39 ≤ q ∧ q < 67) : FE A B := fun a h1 _ h3 => ⟨h.1 a h1 (by omega), h.2.2 a h1⟩
/-- a hand -/
theorem p_hand (h : StE X Y f n T i) (hz : Zr Y) (hw : kwI (wdF f n (tkA f n i)) = 7) : ∃ X' Y' b, C2 d j_er_parseHand [vR 2 8, vR 8 3, vR 1 39] X = some (some (vI (b01 b)), X') ∧ C2 d j_m_readHand [vR 12 179] Y = some (none, Y') ∧ ThL d X Y X' Y' f n T i b := by
  obtain ⟨hR, h0, hM, hT⟩ := h
  have hlt : i < T := kw_lt hR (by rw [hw]; decide)
  have hi1 : ∀ _ : Unit, min (i + 1) T = i + 1 := by intro _; omega
  obtain ⟨c, hc, c4, pc, hpc, pc6⟩ : ∃ c : Nat, blk Y 4 1 = (c : Int) ∧ c ≤ 8 ∧ ∃ pc : Nat, blk Y 4 0 = (pc : Int) ∧ pc ≤ 6 := by
    have wc := hM.1.1
    unfold Wc at wc
    exact ⟨(blk Y 4 1).toNat, by omega, by omega, (blk Y 4 0).toNat, by omega, by omega⟩
  have n9 : X.1 39 8 = (c : Int) := hM.1.2.1.2.2.2.2.2.2.2.2.1.trans hc
  have n7 : X.1 39 7 = (pc : Int) := hM.1.2.1.2.2.2.2.2.2.2.1.trans hpc
  have hc' : Y.1 184 (1380 + 1) = (c : Int) := hc
  have ex := c_hnd d (X := X)
  have em := m_hnd d (Y := Y)
  rw [n9] at ex
  by_cases cc : c < 8
  · obtain ⟨q5, hq5⟩ : ∃ q5, q5 = 39 + 2 + 14 + 1 * c := ⟨_, rfl⟩
    have u1 : ∀ _ : Unit, (c : Int) < 8 := by intro _; omega
    have u2 : ∀ _ : Unit, (0 : Int) ≤ (c : Int) ∧ (c : Int) < 8 := by intro _; omega
    have u3 : ∀ _ : Unit, w32 ((c : Int) + 1) = ((c + 1 : Nat) : Int) := by intro _; rw [w32s (by omega)]; omega
    have u4 : stW 1 + c < 18 := by show 6 + c < 18; omega
    have u5 : ∀ _ : Unit, ∀ a, (3 ≤ a ∧ a ≤ 7) → a ≠ q5 := by intro _; intro a ha; omega
    have u6 : ∀ _ : Unit, 39 ≤ q5 ∧ q5 < 67 := by intro _; omega
    have u7 : ∀ _ : Unit, q5 ≠ 3 := by intro _; omega
    have u8 : ∀ _ : Unit, 39 ≠ q5 := by intro _; omega
    have u8' : 39 < q5 := by omega
    have u9 : ∀ _ : Unit, 72 ≤ 72 + stW 1 + c := by intro _; omega
    have u10 : ∀ _ : Unit, 8 ≠ q5 := by intro _; omega
    have v1 : ∀ _ : Unit, 1380 ≤ 1413 + c ∧ ¬ (1407 ≤ 1413 + c ∧ 1413 + c < 1413) ∧ ¬ (1437 ≤ 1413 + c ∧ 1413 + c < 1445) := by intro _; omega
    have v2 : ∀ _ : Unit, 1380 ≤ 1421 + c ∧ ¬ (1407 ≤ 1421 + c ∧ 1421 + c < 1413) ∧ ¬ (1437 ≤ 1421 + c ∧ 1421 + c < 1445) := by intro _; omega
    have v3 : ∀ _ : Unit, 1380 ≤ 1429 + c ∧ ¬ (1407 ≤ 1429 + c ∧ 1429 + c < 1413) ∧ ¬ (1437 ≤ 1429 + c ∧ 1429 + c < 1445) := by intro _; omega
    have v4 : ∀ _ : Unit, 1413 + c ≠ 1421 + c := by intro _; omega
    have v5 : ∀ _ : Unit, 1413 + c ≠ 1429 + c := by intro _; omega
    have v6 : ∀ _ : Unit, 1421 + c ≠ 1429 + c := by intro _; omega
    have v7 : ∀ _ : Unit, 1413 + c ≠ 1381 := by intro _; omega
    have v8 : ∀ _ : Unit, 1421 + c ≠ 1381 := by intro _; omega
    have v9 : ∀ _ : Unit, 1429 + c ≠ 1381 := by intro _; omega
    rw [if_pos (u1 ())] at ex
    obtain ⟨X1, Y1, g1, ⟨g2, g3, g4, g5⟩, g6⟩ := new_name d hR h0 hM (k := 1) (m := c) (mx := 8) (by decide) hc' cc u4
    rw [(hi1 ())] at g2 g6
    rw [g1, bV_k] at ex
    rcases g6 with ⟨X', Y', e1, e2, e3⟩ | ⟨e1, e2, e3⟩
    · rw [e1, bI_k, if_pos rfl] at ex
      have e2' : C2 d j_m_readNew [vR 12 179, vI 1, vI 8] Y = some (some (vI 0), Y') := e2
      rw [e2', bI_k, hA_f d e3.1.pos] at em
      exact ⟨X', _, false, ex, em, g4.e.tr e3.2.1.e, (fw_n g5.w).tr (fw_n e3.2.2), Or.inr (Or.inl ⟨rfl, e3.1⟩)⟩
    · have n91 : X1.1 39 8 = (c : Int) := by rw [(g4 39 (by decide)).1]; exact n9
      rw [e1, bI_k, if_neg (by decide), q_em_addHand, n91, if_pos (u2 ()), (u3 ()), Int.toNat_natCast, ← hq5] at ex
      have R2 : RT (putI (putI (putL (putI X1 39 8 ((c + 1 : Nat) : Int)) q5 0 (X1.2.1 3 9)) q5 3 0) q5 4 0) (putL Y1 187 (72 + stW 1 + c) (X1.2.1 3 9)) f n T (i + 1) := (g2.y187).x fun a ha => ⟨by rw [pI_ne ((u5 ()) a ha), pI_ne ((u5 ()) a ha)]; exact pI_ne (by omega), pL_ne ((u5 ()) a ha)⟩
      obtain ⟨X3, Y3, r1, r2, ⟨r3, r4, r5, r6⟩, r7⟩ := go d R2 g3
      have rn : C2 d j_m_readNew [vR 12 179, vI 1, vI 8] Y = some (some (vI (c : Int)), Y3) := e3 Y3 r2
      have ex1 : C2 d j_er_parseHand [vR 2 8, vR 8 3, vR 1 39] X = hcA d q5 X3 := by
        rw [ex]
        show (bV (C2 d j_rd_advance [vR 8 3] (putI (putI (putL (putI X1 39 8 ((c + 1 : Nat) : Int)) q5 0 (X1.2.1 3 9)) q5 3 0) q5 4 0)) _) = _
        rw [r1, bV_k]
      rw [rn, bI_k] at em
      have FE3 : FE X X3 := ((((g4.e.tr (FE.p (Or.inr (Or.inr (by decide))))).tr (FE.l (Or.inr (Or.inr (u6 ()))))).tr (FE.p (Or.inr (Or.inr (u6 ()))))).tr (FE.p (Or.inr (Or.inr (u6 ()))))).tr r5.e
      have FN3 : FN Y Y3 := ((fw_n g5.w).tr (fn_l (u9 ()))).tr (fw_n r6.w)
      rcases s_age d r3 r4 q5 (c : Int) with ⟨X4, Y4, a, j4, j1, R4, z4, av, fz4, ft4, k1, k2⟩ | ⟨X4, Y4, k1, k2, k3⟩
      · have R5 : RT (putI X4 q5 1 a) Y4 f n T j4 := R4.x fun q hq => ⟨pI_ne ((u5 ()) q hq), rfl⟩
        have FE5 : FE X (putI X4 q5 1 a) := (FE3.tr fz4.e).tr (FE.p (Or.inr (Or.inr (u6 ()))))
        have FN4 : FN Y Y4 := FN3.tr (fw_n ft4.w)
        rw [k1] at ex1
        rw [k2] at em
        rcases s_price d R5 z4 q5 (c : Int) a with ⟨X6, Y6, b, j6, j2, R6, z6, bv, fz6, ft6, k3, k4⟩ | ⟨X6, Y6, k3, k4, k5⟩
        · have R7 : RT (putI X6 q5 2 b) Y6 f n T j6 := R6.x fun q hq => ⟨pI_ne ((u5 ()) q hq), rfl⟩
          have FE7 : FE X (putI X6 q5 2 b) := (FE5.tr fz6.e).tr (FE.p (Or.inr (Or.inr (u6 ()))))
          have FN6 : FN Y Y6 := FN4.tr (fw_n ft6.w)
          rw [k3] at ex1
          rw [k4] at em
          have x39 : (putI X6 q5 2 b).1 39 = (putI X1 39 8 ((c + 1 : Nat) : Int)).1 39 := by
            rw [pI_ne (u8 ()), (fz6 39 (by decide)).1, pI_ne (u8 ()), (fz4 39 (by decide)).1, (r5 39 (by decide)).1, pI_ne (u8 ()), pI_ne (u8 ())] <;> rfl
          have xr2 : X6.1 q5 = (putI X4 q5 1 a).1 q5 := (fz6 q5 (u7 ())).1
          have xr3 : X4.1 q5 = (putI (putI (putL (putI X1 39 8 ((c + 1 : Nat) : Int)) q5 0 (X1.2.1 3 9)) q5 3 0) q5 4 0).1 q5 := by rw [(fz4 q5 (u7 ())).1, (r5 q5 (u7 ())).1]
          have xl : ∀ q, q ≠ 3 → (putI X6 q5 2 b).2.1 q = (putL (putI X1 39 8 ((c + 1 : Nat) : Int)) q5 0 (X1.2.1 3 9)).2.1 q := fun q hq => by
            show X6.2.1 q = _
            rw [(fz6 q hq).2]
            show X4.2.1 q = _
            rw [(fz4 q hq).2, (r5 q hq).2] <;> rfl
          have xq : ∀ q, q ≠ 3 → q ≠ 39 → q ≠ q5 → (putI X6 q5 2 b).1 q = X1.1 q := fun q q1 q2 q3 => by
            rw [pI_ne q3, (fz6 q q1).1, pI_ne q3, (fz4 q q1).1, (r5 q q1).1, pI_ne q3, pI_ne q3]; exact pI_ne q2
          have y61 : Y6.1 184 = Y1.1 184 := by
            rw [(ft6.1 184 (by decide)).1, (ft4.1 184 (by decide)).1, (r6.1 184 (by decide)).1] <;> rfl
          have y62 : Y6.2.1 187 = (putL Y1 187 (72 + stW 1 + c) (X1.2.1 3 9)).2.1 187 := by
            rw [(ft6.1 187 (by decide)).2, (ft4.1 187 (by decide)).2, (r6.1 187 (by decide)).2]
          have M1 : Mk X1 Y1 39 4 := hM.tok g4 g5.w
          have b4 : blk Y1 4 = blk Y 4 := by unfold blk; rw [(g5.1 184 (by decide)).1]
          have hc1 : blk Y1 4 1 = (c : Int) := by rw [b4]; exact hc
          have hp1 : blk Y1 4 0 = (pc : Int) := by rw [b4]; exact hpc
          have hN : NP (putI X6 q5 2 b) Y6 pc := by
            refine ⟨?_, ?_, pc6, fun p hp => ?_⟩
            · rw [x39, pI_nk (by decide), (g4 39 (by decide)).1]; exact n7
            · rw [y61]; exact hp1
            · rw [xl _ (by omega), pL_ne (by omega), y62, pL_nk (by show 72 + p ≠ 72 + 6 + c; omega)]
              exact M1.2.2.1 p (by rw [hp1]; omega)
          have x3 : (putI X6 q5 2 b).1 q5 3 = 0 := by
            rw [pI_nk (by decide), xr2, pI_nk (by decide), xr3, pI_nk (by decide), pI_s]
          obtain ⟨X8, Y8, g, s, t1, t2, t3, t4, t5⟩ := s_knows d R7 z6 u8' hN x3 (c : Int) a b
          rw [t1] at ex1
          rw [t2] at em
          have FE8 : FE X X8 := FE7.tr (t3.e (u6 ()))
          have FN8 : FN Y Y8 := FN6.tr (fw_n t4)
          have fnx : ∀ A : Mem, ∀ v w z y : Int, FN Y A → FN Y (putI (putI (putI (putI A 184 (1413 + c) v) 184 (1421 + c) w) 184 (1429 + c) z) 184 1381 y) := fun A v w z y hA => (((hA.tr (FN.p (v1 ()))).tr (FN.p (v2 ()))).tr (FN.p (v3 ()))).tr (FN.p (by decide))
          rcases t5 with ⟨rfl, j8, j3, R8, z8, s1, s2⟩ | ⟨rfl, hB⟩ | ⟨rfl, hs, hL⟩
          · rw [hN_g z8 cc] at em
            refine ⟨X8, _, true, ex1, em, FE8, fnx _ _ _ _ _ FN8, Or.inl ⟨rfl, j8, ?_, (((R8.y184).y184).y184).y184, ?_, ?_, ?_⟩⟩
            · omega
            · rw [pI_ne (by decide), pI_ne (by decide), pI_ne (by decide), pI_ne (by decide)]; exact z8
            · have z1 : blk Y1 4 (57 + c) = 0 := by
                have := hz (1437 + c) (Or.inr (by omega))
                show Y1.1 184 (345 * 4 + (57 + c)) = 0
                rw [(g5.1 184 (by decide)).1, show 345 * 4 + (57 + c) = 1437 + c by omega]
                exact this
              have y81 : Y8.1 184 = Y1.1 184 := ((t4.1 184 (by decide)).1).trans y61
              have y82 : Y8.2.1 187 = (putL Y1 187 (72 + stW 1 + c) (X1.2.1 3 9)).2.1 187 := ((t4.1 187 (by decide)).2).trans y62
              refine M1.addH (c := c) hc1 cc (a := a) (b := b) (k0 := s) (w := X1.2.1 3 9) av bv s2 (fun k k1 => ?_) ?_ (fun q q1 q2 q3 => ⟨?_, ?_⟩) ?_ ?_ ?_ ?_ ?_ (fun k k1 k2 k3 k4 => ?_) ?_ ?_ ?_ ?_ z1 (fun k k1 k2 => ?_) ?_
              · rw [t3.1 39 (by decide) (u8 ()), x39, pI_nk k1]
              · rw [t3.1 39 (by decide) (u8 ()), x39, pI_s]
              · rw [← hq5] at q3
                rw [t3.1 q (by omega) q3, xq q (by omega) (by omega) q3]
              · rw [← hq5] at q3
                rw [t3.2.2 q (by omega), xl q (by omega), pL_ne q3] <;> rfl
              · rw [← hq5, t3.2.1 1 (by decide), pI_nk (by decide), xr2, pI_s]
              · rw [← hq5, t3.2.1 2 (by decide), pI_s]
              · rw [← hq5]; exact s1
              · rw [← hq5, t3.2.1 4 (by decide), pI_nk (by decide), xr2, pI_nk (by decide), xr3, pI_s]
              · rw [← hq5, t3.2.2 q5 (u7 ()), xl q5 (u7 ()), pL_s]
              · show (putI (putI (putI (putI Y8 184 (1413 + c) a) 184 (1421 + c) b) 184 (1429 + c) s) 184 1381 (w32 ((Y8.1 184 1381) + 1))).1 184 (345 * 4 + k) = Y1.1 184 (345 * 4 + k)
                rw [pI_nk (by omega), pI_nk (by omega), pI_nk (by omega), pI_nk (by omega), y81]
              · show (putI (putI (putI (putI Y8 184 (1413 + c) a) 184 (1421 + c) b) 184 (1429 + c) s) 184 1381 (w32 ((Y8.1 184 1381) + 1))).1 184 1381 = _
                rw [pI_s, y81, show Y1.1 184 1381 = (c : Int) from hc1, (u3 ())]
              · show (putI (putI (putI (putI Y8 184 (1413 + c) a) 184 (1421 + c) b) 184 (1429 + c) s) 184 1381 (w32 ((Y8.1 184 1381) + 1))).1 184 (345 * 4 + (33 + c)) = a
                rw [show 345 * 4 + (33 + c) = 1413 + c by omega, pI_nk (v7 ()), pI_nk (v5 ()), pI_nk (v4 ()), pI_s]
              · show (putI (putI (putI (putI Y8 184 (1413 + c) a) 184 (1421 + c) b) 184 (1429 + c) s) 184 1381 (w32 ((Y8.1 184 1381) + 1))).1 184 (345 * 4 + (41 + c)) = b
                rw [show 345 * 4 + (41 + c) = 1421 + c by omega, pI_nk (v8 ()), pI_nk (v6 ()), pI_s]
              · show (putI (putI (putI (putI Y8 184 (1413 + c) a) 184 (1421 + c) b) 184 (1429 + c) s) 184 1381 (w32 ((Y8.1 184 1381) + 1))).1 184 (345 * 4 + (49 + c)) = s
                rw [show 345 * 4 + (49 + c) = 1429 + c by omega, pI_nk (v9 ()), pI_s]
              · show Y8.2.1 187 _ = _
                rw [y82, pL_nk (by show 18 * 4 + k ≠ 72 + 6 + c; omega)]
              · show Y8.2.1 187 _ = _
                rw [y82]; exact pL_s
            · have e8 : Y8.1 179 25 = Y.1 179 25 := by
                rw [t4.2.1 25 (by decide), ft6.2.1 25 (by decide), ft4.2.1 25 (by decide), r6.2.1 25 (by decide)]
                exact g5.2.1 25 (by decide)
              rw [pI_ne (by decide), pI_ne (by decide), pI_ne (by decide), pI_ne (by decide), e8, ← hT, t3.1 8 (by decide) (u10 ()), xq 8 (by decide) (by decide) (u10 ()), (g4 8 (by decide)).1]
          · rw [hN_f hB.pos] at em
            exact ⟨X8, Y8, false, ex1, em, FE8, FN8, Or.inr (Or.inl ⟨rfl, hB⟩)⟩
          · have hz8 : Y8.1 179 12 = 0 := by
              obtain ⟨_, _, _, q2, _⟩ := hL
              exact q2
            rw [hN_g hz8 cc] at em
            exact ⟨X8, _, false, ex1, em, FE8, fnx _ _ _ _ _ FN8, Or.inr (Or.inr ⟨rfl, (((hL.y184 d).y184 d).y184 d).y184 d⟩)⟩
        · rw [k3] at ex1
          rw [k4] at em
          exact ⟨X6, Y6, false, ex1, em, FE5.tr k5.2.1.e, FN4.tr (fw_n k5.2.2), Or.inr (Or.inl ⟨rfl, k5.1⟩)⟩
      · rw [k1] at ex1
        rw [k2] at em
        exact ⟨X4, Y4, false, ex1, em, FE3.tr k3.2.1.e, FN3.tr (fw_n k3.2.2), Or.inr (Or.inl ⟨rfl, k3.1⟩)⟩
  · have u1 : ∀ _ : Unit, ¬ (c : Int) < 8 := by intro _; omega
    rw [if_neg (u1 ()), fail_c d hR, bI_k, if_pos (Or.inl rfl)] at ex
    have : c = 8 := by omega
    subst this
    obtain ⟨Y1, e1, e2⟩ := new_max d hR h0 (k := 1) (mx := 8) (by decide) hc'
    have e1' : C2 d j_m_readNew [vR 12 179, vI 1, vI 8] Y = some (some (vI 0), Y1) := e1
    rw [e1', bI_k, hA_f d e2.1.pos] at em
    exact ⟨_, _, false, ex, em, e2.2.1.e, fw_n e2.2.2, Or.inr (Or.inl ⟨rfl, e2.1⟩)⟩
end Hand2
