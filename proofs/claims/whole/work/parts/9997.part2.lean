section Part2
variable (d : Nat) {f : Nat → Int} {n T i : Nat} {X Y : Mem}
/-- what stays nought while an empire is read -/
def Zr (Y : Mem) : Prop := ∀ k, (1407 ≤ k ∧ k < 1413) ∨ (1437 ≤ k ∧ k < 1445) → Y.1 184 k = 0
theorem Zr.fn {A B : Mem} (h : Zr A) (g : FN A B) : Zr B := fun k hk => (g.2.2.2.2.1 k (Or.inr hk)).trans (h k hk)
theorem fn_l {A : Mem} {k : Nat} {v : Int} (h : 72 ≤ k) : FN A (putL A 187 k v) := ⟨fun _ _ _ => rfl, fun a _ h2 => pL_ne h2, fun _ _ _ => rfl, fun _ _ => by rw [pL_ne (by decide)], fun _ _ => rfl, fun j hj => pL_nk (by omega)⟩
/-- a part -/
theorem p_part (h : StE X Y f n T i) (hz : Zr Y) (hw : kwI (wdF f n (tkA f n i)) = 3) : ∃ X' Y' b, C2 d j_er_parsePart [vR 2 8, vR 8 3, vR 1 39] X = some (some (vI (b01 b)), X') ∧ C2 d j_m_readPartOf [vR 12 179] Y = some (none, Y') ∧ ThO X Y X' Y' f n T i b := by
  obtain ⟨hR, h0, hM, hT⟩ := h
  have hlt : i < T := kw_lt hR (by rw [hw]; decide)
  have hi1 : ∀ _ : Unit, min (i + 1) T = i + 1 := by intro _; omega
  obtain ⟨c, hc, c4⟩ : ∃ c : Nat, blk Y 4 0 = (c : Int) ∧ c ≤ 6 := by
    have wc := hM.1.1
    unfold Wc at wc
    exact ⟨(blk Y 4 0).toNat, by omega, by omega⟩
  have n9 : X.1 39 7 = (c : Int) := hM.1.2.1.2.2.2.2.2.2.2.1.trans hc
  have hc' : Y.1 184 (1380 + 0) = (c : Int) := hc
  have ex := c_prt d (X := X)
  have em := m_part d (Y := Y)
  rw [n9] at ex
  by_cases cc : c < 6
  · obtain ⟨q5, hq5⟩ : ∃ q5, q5 = 39 + 1 + 9 + 1 * c := ⟨_, rfl⟩
    have u1 : ∀ _ : Unit, (c : Int) < 6 := by intro _; omega
    have u2 : ∀ _ : Unit, (0 : Int) ≤ (c : Int) ∧ (c : Int) < 6 := by intro _; omega
    have u3 : ∀ _ : Unit, w32 ((c : Int) + 1) = ((c + 1 : Nat) : Int) := by intro _; rw [w32s (by omega)]; omega
    have u4 : stW 0 + c < 18 := by show 0 + c < 18; omega
    have u5 : ∀ _ : Unit, ∀ a, (3 ≤ a ∧ a ≤ 7) → a ≠ q5 := by intro _; intro a ha; omega
    have u6 : ∀ _ : Unit, 39 ≤ q5 ∧ q5 < 67 := by intro _; omega
    have u7 : ∀ _ : Unit, q5 ≠ 3 := by intro _; omega
    have u8 : ∀ _ : Unit, 39 ≠ q5 := by intro _; omega
    have u9 : ∀ _ : Unit, 72 ≤ 72 + stW 0 + c := by intro _; omega
    have u10 : ∀ _ : Unit, 8 ≠ q5 := by intro _; omega
    have u11 : ∀ _ : Unit, w32 (((c + 1 : Nat) : Int) - 1) = (c : Int) := by intro _; rw [w32s (by omega)]; omega
    have v1 : ∀ _ : Unit, 1380 ≤ 1389 + c ∧ ¬ (1407 ≤ 1389 + c ∧ 1389 + c < 1413) ∧ ¬ (1437 ≤ 1389 + c ∧ 1389 + c < 1445) := by intro _; omega
    have v2 : ∀ _ : Unit, 1380 ≤ 1395 + c ∧ ¬ (1407 ≤ 1395 + c ∧ 1395 + c < 1413) ∧ ¬ (1437 ≤ 1395 + c ∧ 1395 + c < 1445) := by intro _; omega
    have v3 : ∀ _ : Unit, 1380 ≤ 1401 + c ∧ ¬ (1407 ≤ 1401 + c ∧ 1401 + c < 1413) ∧ ¬ (1437 ≤ 1401 + c ∧ 1401 + c < 1445) := by intro _; omega
    have v4 : ∀ _ : Unit, 1389 + c ≠ 1395 + c := by intro _; omega
    have v5 : ∀ _ : Unit, 1389 + c ≠ 1401 + c := by intro _; omega
    have v6 : ∀ _ : Unit, 1395 + c ≠ 1401 + c := by intro _; omega
    have v7 : ∀ _ : Unit, 1389 + c ≠ 1380 := by intro _; omega
    have v8 : ∀ _ : Unit, 1395 + c ≠ 1380 := by intro _; omega
    have v9 : ∀ _ : Unit, 1401 + c ≠ 1380 := by intro _; omega
    rw [if_pos (u1 ())] at ex
    obtain ⟨X1, Y1, g1, ⟨g2, g3, g4, g5⟩, g6⟩ := new_name d hR h0 hM (k := 0) (m := c) (mx := 6) (by decide) hc' cc u4
    rw [(hi1 ())] at g2 g6
    rw [g1, bV_k] at ex
    rcases g6 with ⟨X', Y', e1, e2, e3⟩ | ⟨e1, e2, e3⟩
    · rw [e1, bI_k, if_pos rfl] at ex
      have e2' : C2 d j_m_readNew [vR 12 179, vI 0, vI 6] Y = some (some (vI 0), Y') := e2
      rw [e2', bI_k, pF_f d e3.1.pos] at em
      exact ⟨X', _, false, ex, em, g4.e.tr e3.2.1.e, (fw_n g5.w).tr (fw_n e3.2.2), Or.inr ⟨rfl, e3.1⟩⟩
    · have n91 : X1.1 39 7 = (c : Int) := by rw [(g4 39 (by decide)).1]; exact n9
      rw [e1, bI_k, if_neg (by decide), q_em_addPart, n91, if_pos (u2 ()), (u3 ()), Int.toNat_natCast, ← hq5] at ex
      have R2 : RT (putI (putL (putI X1 39 7 ((c + 1 : Nat) : Int)) q5 0 (X1.2.1 3 9)) q5 3 0) (putL Y1 187 (72 + stW 0 + c) (X1.2.1 3 9)) f n T (i + 1) := (g2.y187).x fun a ha => ⟨by rw [pI_ne ((u5 ()) a ha)]; exact pI_ne (by omega), pL_ne ((u5 ()) a ha)⟩
      obtain ⟨X3, Y3, r1, r2, ⟨r3, r4, r5, r6⟩, r7⟩ := go d R2 g3
      have rn : C2 d j_m_readNew [vR 12 179, vI 0, vI 6] Y = some (some (vI (c : Int)), Y3) := e3 Y3 r2
      have ex1 : C2 d j_er_parsePart [vR 2 8, vR 8 3, vR 1 39] X = cF d q5 X3 := by
        rw [ex]
        show (bV (C2 d j_rd_advance [vR 8 3] (putI (putL (putI X1 39 7 ((c + 1 : Nat) : Int)) q5 0 (X1.2.1 3 9)) q5 3 0)) _) = _
        rw [r1, bV_k]
      rw [rn, bI_k] at em
      have FE3 : FE X X3 := ((((g4.e.tr (FE.p (Or.inr (Or.inr (by decide))))).tr (FE.l (Or.inr (Or.inr (u6 ()))))).tr (FE.p (Or.inr (Or.inr (u6 ())))))).tr r5.e
      have FN3 : FN Y Y3 := ((fw_n g5.w).tr (fn_l (u9 ()))).tr (fw_n r6.w)
      rcases s_fades d r3 r4 q5 (c : Int) with ⟨X4, Y4, a, j4, j1, R4, z4, av, fz4, ft4, k1, k2⟩ | ⟨X4, Y4, k1, k2, k3⟩
      · have R5 : RT (putI X4 q5 1 a) Y4 f n T j4 := R4.x fun q hq => ⟨pI_ne ((u5 ()) q hq), rfl⟩
        have FE5 : FE X (putI X4 q5 1 a) := (FE3.tr fz4.e).tr (FE.p (Or.inr (Or.inr (u6 ()))))
        have FN4 : FN Y Y4 := FN3.tr (fw_n ft4.w)
        rw [k1] at ex1
        rw [k2] at em
        rcases s_ways d R5 z4 q5 (c : Int) a with ⟨X6, Y6, b, j6, j2, R6, z6, bv, fz6, ft6, k3, k4⟩ | ⟨X6, Y6, k3, k4, k5⟩
        · have R7 : RT (putI X6 q5 2 b) Y6 f n T j6 := R6.x fun q hq => ⟨pI_ne ((u5 ()) q hq), rfl⟩
          have FE7 : FE X (putI X6 q5 2 b) := (FE5.tr fz6.e).tr (FE.p (Or.inr (Or.inr (u6 ()))))
          have FN6 : FN Y Y6 := FN4.tr (fw_n ft6.w)
          rw [k3] at ex1
          rw [k4] at em
          obtain ⟨X8, Y8, Y7, wr, j8, t1, t2, t3, t4, t5, t6, t7, t8, t9, t10, t11⟩ := s_written d R7 z6 cc a b
          rw [t1] at ex1
          rw [t2] at em
          have FE8 : FE X X8 := fun q q1 q2 q3 => ⟨(t8 q q1 (by omega)).trans (FE7 q q1 q2 q3).1, (t9 q q1).trans (FE7 q q1 q2 q3).2⟩
          have FN8 : FN Y Y8 := by
            rw [t11]
            exact ((((FN6.tr (fw_n t10.w)).tr (FN.p (v1 ()))).tr (FN.p (v2 ()))).tr (FN.p (v3 ()))).tr (FN.p (by decide))
          refine ⟨X8, Y8, true, ex1, em, FE8, FN8, Or.inl ⟨rfl, j8, ?_, t4, t5, ?_, ?_⟩⟩
          · have := r3.2.1
            omega
          · have M1 : Mk X1 Y1 39 4 := hM.tok g4 g5.w
            have hc1 : blk Y1 4 0 = (c : Int) := by
              rw [← hc]; unfold blk; rw [(g5.1 184 (by decide)).1]
            have z1 : blk Y1 4 (27 + c) = 0 := by
              have := hz (1407 + c) (Or.inl (by omega))
              show Y1.1 184 (345 * 4 + (27 + c)) = 0
              rw [(g5.1 184 (by decide)).1, show 345 * 4 + (27 + c) = 1407 + c by omega]
              exact this
            have y71 : Y7.1 184 = Y1.1 184 := by
              rw [(t10.1 184 (by decide)).1, (ft6.1 184 (by decide)).1, (ft4.1 184 (by decide)).1, (r6.1 184 (by decide)).1] <;> rfl
            have y72 : Y8.2.1 187 = (putL Y1 187 (72 + stW 0 + c) (X1.2.1 3 9)).2.1 187 := by
              rw [t11]
              show Y7.2.1 187 = _
              rw [(t10.1 187 (by decide)).2, (ft6.1 187 (by decide)).2, (ft4.1 187 (by decide)).2, (r6.1 187 (by decide)).2]
            have x39 : (putI X6 q5 2 b).1 39 = (putI X1 39 7 ((c + 1 : Nat) : Int)).1 39 := by
              rw [pI_ne (u8 ()), (fz6 39 (by decide)).1, pI_ne (u8 ()), (fz4 39 (by decide)).1, (r5 39 (by decide)).1, pI_ne (u8 ())] <;> rfl
            have xq : ∀ q, q ≠ 3 → q ≠ 39 → q ≠ q5 → X8.1 q = X1.1 q ∧ X8.2.1 q = X1.2.1 q := fun q q1 q2 q3 => by
              refine ⟨?_, ?_⟩
              · rw [t8 q q1 q2, pI_ne q3, (fz6 q q1).1, pI_ne q3, (fz4 q q1).1, (r5 q q1).1, pI_ne q3]; exact pI_ne q2
              · rw [t9 q q1]
                show X6.2.1 q = _
                rw [(fz6 q q1).2]
                show X4.2.1 q = _
                rw [(fz4 q q1).2, (r5 q q1).2]; exact pL_ne q3
            have xr : ∀ k, X8.1 q5 k = (putI X6 q5 2 b).1 q5 k := fun k => by rw [t8 q5 (u7 ()) (u8 ()).symm]
            have xr2 : X6.1 q5 = (putI X4 q5 1 a).1 q5 := (fz6 q5 (u7 ())).1
            have xr3 : X4.1 q5 = (putI (putL (putI X1 39 7 ((c + 1 : Nat) : Int)) q5 0 (X1.2.1 3 9)) q5 3 0).1 q5 := by rw [(fz4 q5 (u7 ())).1, (r5 q5 (u7 ())).1]
            refine M1.addP (c := c) hc1 cc (a := a) (b := b) (w := X1.2.1 3 9) (wr := wr) av bv (fun k k1 k2 => ?_) ?_ ?_ (fun q q1 q2 q3 => ?_) ?_ ?_ ?_ ?_ (fun k k1 k2 k3 k4 => ?_) ?_ ?_ ?_ ?_ z1 (fun k k1 k2 => ?_) ?_
            · rw [t7 k k1, x39, pI_nk k2]
            · rw [t7 7 (by decide), x39, pI_s]
            · rw [t6, x39, pI_nk (by decide), pI_s, (u11 ())]
            · exact xq q (by omega) (by omega) (by rw [hq5]; exact q3)
            · rw [← hq5, xr, pI_nk (by decide), xr2, pI_s]
            · rw [← hq5, xr, pI_s]
            · rw [← hq5, xr, pI_nk (by decide), xr2, pI_nk (by decide), xr3, pI_s]
            · rw [← hq5, t9 q5 (u7 ())]
              show X6.2.1 q5 0 = _
              rw [(fz6 q5 (u7 ())).2]
              show X4.2.1 q5 0 = _
              rw [(fz4 q5 (u7 ())).2, (r5 q5 (u7 ())).2]; exact pL_s
            · show Y8.1 184 (345 * 4 + k) = Y1.1 184 (345 * 4 + k)
              rw [t11, pI_nk (by omega), pI_nk (by omega), pI_nk (by omega), pI_nk (by omega), y71]
            · show Y8.1 184 1380 = _
              rw [t11, pI_s, y71, show Y1.1 184 1380 = (c : Int) from hc1, (u3 ())]
            · show Y8.1 184 (345 * 4 + (9 + c)) = a
              rw [t11, show 345 * 4 + (9 + c) = 1389 + c by omega, pI_nk (v7 ()), pI_nk (v5 ()), pI_nk (v4 ()), pI_s]
            · show Y8.1 184 (345 * 4 + (15 + c)) = b
              rw [t11, show 345 * 4 + (15 + c) = 1395 + c by omega, pI_nk (v8 ()), pI_nk (v6 ()), pI_s]
            · show Y8.1 184 (345 * 4 + (21 + c)) = b01 wr
              rw [t11, show 345 * 4 + (21 + c) = 1401 + c by omega, pI_nk (v9 ()), pI_s]
            · rw [y72, pL_nk (by show 18 * 4 + k ≠ 72 + 0 + c; omega)]
            · rw [y72]; exact pL_s
          · have e8 : Y8.1 179 25 = Y.1 179 25 := by
              rw [t11, pI_ne (by decide), pI_ne (by decide), pI_ne (by decide), pI_ne (by decide), t10.2.1 25 (by decide), ft6.2.1 25 (by decide), ft4.2.1 25 (by decide), r6.2.1 25 (by decide)]
              exact g5.2.1 25 (by decide)
            rw [e8, ← hT, t8 8 (by decide) (by decide), pI_ne (u10 ()), (fz6 8 (by decide)).1, pI_ne (u10 ()), (fz4 8 (by decide)).1, (r5 8 (by decide)).1, pI_ne (u10 ())]
            show (putI X1 39 7 ((c + 1 : Nat) : Int)).1 8 0 = _
            rw [pI_ne (by decide), (g4 8 (by decide)).1]
        · rw [k3] at ex1
          rw [k4] at em
          exact ⟨X6, Y6, false, ex1, em, FE5.tr k5.2.1.e, FN4.tr (fw_n k5.2.2), Or.inr ⟨rfl, k5.1⟩⟩
      · rw [k1] at ex1
        rw [k2] at em
        exact ⟨X4, Y4, false, ex1, em, FE3.tr k3.2.1.e, FN3.tr (fw_n k3.2.2), Or.inr ⟨rfl, k3.1⟩⟩
  · have u1 : ∀ _ : Unit, ¬ (c : Int) < 6 := by intro _; omega
    rw [if_neg (u1 ()), fail_c d hR, bI_k, if_pos (Or.inl rfl)] at ex
    have : c = 6 := by omega
    subst this
    obtain ⟨Y1, e1, e2⟩ := new_max d hR h0 (k := 0) (mx := 6) (by decide) hc'
    have e1' : C2 d j_m_readNew [vR 12 179, vI 0, vI 6] Y = some (some (vI 0), Y1) := e1
    rw [e1', bI_k, pF_f d e2.1.pos] at em
    exact ⟨_, _, false, ex, em, e2.2.1.e, fw_n e2.2.2, Or.inr ⟨rfl, e2.1⟩⟩
end Part2
