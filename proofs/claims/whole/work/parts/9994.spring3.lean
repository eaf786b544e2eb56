section Spring3
variable (d : Nat) {f : Nat → Int} {n T i : Nat} {X Y : Mem}
/-- a spring -/
theorem p_spring (h : StE X Y f n T i) (hw : kwI (wdF f n (tkA f n i)) = 11) : ∃ X' Y' b, C2 d j_er_parseSpring [vR 2 8, vR 8 3, vR 1 39] X = some (some (vI (b01 b)), X') ∧ C2 d j_m_readSpring [vR 12 179] Y = some (none, Y') ∧ ThO X Y X' Y' f n T i b := by
  obtain ⟨hR, h0, hM, hT⟩ := h
  have hlt : i < T := kw_lt hR (by rw [hw]; decide)
  have hi1 : ∀ _ : Unit, min (i + 1) T = i + 1 := by intro _; omega
  obtain ⟨c, hc, c4⟩ : ∃ c : Nat, blk Y 4 2 = (c : Int) ∧ c ≤ 4 := by
    have wc := hM.1.1
    unfold Wc at wc
    exact ⟨(blk Y 4 2).toNat, by omega, by omega⟩
  have n9 : X.1 39 9 = (c : Int) := hM.1.2.1.2.2.2.2.2.2.2.2.2.trans hc
  have hc' : Y.1 184 (1380 + 2) = (c : Int) := hc
  have ex := q_er_parseSpring 39 d X
  have em := q_m_readSpring d Y
  rw [n9] at ex
  by_cases cc : c < 4
  · have u1 : ∀ _ : Unit, (c : Int) < 4 := by intro _; omega
    have u2 : ∀ _ : Unit, (0 : Int) ≤ (c : Int) ∧ (c : Int) < 4 := by intro _; omega
    have u3 : ∀ _ : Unit, w32 ((c : Int) + 1) = ((c + 1 : Nat) : Int) := by intro _; rw [w32s (by omega)]; omega
    have u4 : stW 2 + c < 18 := by show 14 + c < 18; omega
    have u5 : ∀ _ : Unit, ∀ a, (3 ≤ a ∧ a ≤ 7) → a ≠ 39 + 3 + 21 + 1 * c := by intro _; intro a ha; omega
    have u6 : ∀ _ : Unit, 39 ≤ 39 + 3 + 21 + 1 * c ∧ 39 + 3 + 21 + 1 * c < 67 := by intro _; omega
    have u7 : ∀ _ : Unit, 39 + 3 + 21 + 1 * c ≠ 3 := by intro _; omega
    have u8 : ∀ _ : Unit, 39 + 3 + 21 + 1 * c ≠ 39 := by intro _; omega
    have u9 : ∀ _ : Unit, 72 ≤ 72 + stW 2 + c := by intro _; omega
    have u10 : ∀ _ : Unit, 8 ≠ 39 + 3 + 21 + 1 * c := by intro _; omega
    rw [if_pos (u1 ())] at ex
    obtain ⟨X1, Y1, g1, ⟨g2, g3, g4, g5⟩, g6⟩ := new_name d hR h0 hM (k := 2) (m := c) (mx := 4) (by decide) hc' cc u4
    rw [(hi1 ())] at g2 g6
    rw [g1, bV_k] at ex
    rcases g6 with ⟨X', Y', e1, e2, e3⟩ | ⟨e1, e2, e3⟩
    · rw [e1, bI_k, if_pos rfl] at ex
      have f1 := f_spr1 d e3.1.pos (m := 0) (by decide) e2
      exact ⟨X', _, false, ex, em.trans f1, g4.e.tr e3.2.1.e, (((fw_n g5.w).tr (fw_n e3.2.2)).tr (FN.p (by decide))).tr (FN.p (by decide)), Or.inr ⟨rfl, e3.1.y184.y184⟩⟩
    · have n91 : X1.1 39 9 = (c : Int) := by rw [(g4 39 (by decide)).1]; exact n9
      rw [e1, bI_k, if_neg (by decide), q_em_addSpring, n91, if_pos (u2 ()), (u3 ()), Int.toNat_natCast] at ex
      have R2 : RT (putL (putI X1 39 9 ((c + 1 : Nat) : Int)) (39 + 3 + 21 + 1 * c) 0 (X1.2.1 3 9)) (putL Y1 187 (72 + stW 2 + c) (X1.2.1 3 9)) f n T (i + 1) := (g2.y187).x fun a ha => ⟨pI_ne (by omega), pL_ne ((u5 ()) a ha)⟩
      obtain ⟨X3, Y3, r1, r2, ⟨r3, r4, r5, r6⟩, r7⟩ := go d R2 g3
      have rn : C2 d j_m_readNew [vR 12 179, vI 2, vI 4] Y = some (some (vI (c : Int)), Y3) := e3 Y3 r2
      obtain ⟨X4, Y4, b, t1, t2, t3, t4, t5⟩ := spr_tail d r3 r4 cc rfl
      have ex1 : C2 d j_er_parseSpring [vR 2 8, vR 8 3, vR 1 39] X = some (some (vI (b01 b)), X4) := by
        rw [ex]
        show (bV (C2 d j_rd_advance [vR 8 3] (putL (putI X1 39 9 ((c + 1 : Nat) : Int)) (39 + 3 + 21 + 1 * c) 0 (X1.2.1 3 9))) _) = _
        rw [r1, bV_k]
        exact t1
      rw [rn, bI_k] at em
      have FE1 : FE X X4 := (((g4.e.tr (FE.p (Or.inr (Or.inr (by decide))))).tr (FE.l (Or.inr (Or.inr (u6 ()))))).tr r5.e).tr t3
      have FNl : FN Y1 (putL Y1 187 (72 + stW 2 + c) (X1.2.1 3 9)) := ⟨fun _ _ _ => rfl, fun a _ h2 => pL_ne h2, fun _ _ _ => rfl, fun _ _ => by rw [pL_ne (by decide)], fun _ _ => rfl, fun k hk => pL_nk (by omega)⟩
      have FN1 : FN Y Y4 := (((fw_n g5.w).tr FNl).tr (fw_n r6.w)).tr t4
      refine ⟨X4, Y4, b, ex1, em.trans t2, FE1, FN1, ?_⟩
      rcases t5 with ⟨rfl, j, v1, v2, p1, p2, p3, p4, p5, p6, p7, p8, p9, p10, p11, p12, p13, p14, p15⟩ | t5
      · refine Or.inl ⟨rfl, j, ?_, p2, p3, ?_, ?_⟩
        · omega
        · have M1 : Mk X1 Y1 39 4 := hM.tok g4 g5.w
          have hc1 : blk Y1 4 2 = (c : Int) := by
            rw [← hc]; unfold blk; rw [(g5.1 184 (by decide)).1]
          have y34 : Y3.1 184 = Y1.1 184 := (r6.1 184 (by decide)).1
          have y37 : Y3.2.1 187 = (putL Y1 187 (72 + stW 2 + c) (X1.2.1 3 9)).2.1 187 := (r6.1 187 (by decide)).2
          have x39 : X4.1 39 = (putI X1 39 9 ((c + 1 : Nat) : Int)).1 39 := by
            rw [p8 39 (by decide) (u8 ()).symm, (r5 39 (by decide)).1] <;> rfl
          refine M1.addS (c := c) hc1 cc (a := v1) (b := v2) (w := X1.2.1 3 9) p4 p5 (fun k hk => ?_) ?_ (fun q q1 q2 q3 => ⟨?_, ?_⟩) p6 p7 ?_ (fun k k1 k2 k3 => ?_) ?_ ?_ ?_ (fun k k1 k2 => ?_) ?_
          · rw [x39, pI_nk hk]
          · rw [x39, pI_s]
          · rw [p8 q (by omega) q3, (r5 q (by omega)).1, show (putL (putI X1 39 9 ((c + 1 : Nat) : Int)) (39 + 3 + 21 + 1 * c) 0 (X1.2.1 3 9)).1 q = (putI X1 39 9 ((c + 1 : Nat) : Int)).1 q from rfl, pI_ne (by omega)]
          · rw [p9 q (by omega), (r5 q (by omega)).2, pL_ne q3] <;> rfl
          · rw [p9 _ (u7 ()), (r5 _ (u7 ())).2, pL_s]
          · show Y4.1 184 (345 * 4 + k) = Y1.1 184 (345 * 4 + k)
            rw [p10 _ (by omega) (by omega) (by omega), y34]
          · show Y4.1 184 1382 = _
            rw [p11, y34, show Y1.1 184 1382 = (c : Int) from hc1, (u3 ())]
          · show Y4.1 184 (345 * 4 + (65 + c)) = v1
            rw [show 345 * 4 + (65 + c) = 1445 + c by omega]; exact p12
          · show Y4.1 184 (345 * 4 + (69 + c)) = v2
            rw [show 345 * 4 + (69 + c) = 1449 + c by omega]; exact p13
          · rw [p15, y37, pL_nk (by show 18 * 4 + k ≠ 72 + 14 + c; omega)]
          · rw [p15, y37]; exact pL_s
        · rw [p14, r6.2.1 25 (by decide), show (putL Y1 187 (72 + stW 2 + c) (X1.2.1 3 9)).1 179 25 = Y1.1 179 25 from rfl, g5.2.1 25 (by decide), ← hT, p8 8 (by decide) (u10 ()), (r5 8 (by decide)).1, show (putL (putI X1 39 9 ((c + 1 : Nat) : Int)) (39 + 3 + 21 + 1 * c) 0 (X1.2.1 3 9)).1 8 = (putI X1 39 9 ((c + 1 : Nat) : Int)).1 8 from rfl, pI_ne (by decide), (g4 8 (by decide)).1]
      · exact Or.inr t5
  · have u1 : ∀ _ : Unit, ¬ (c : Int) < 4 := by intro _; omega
    rw [if_neg (u1 ()), fail_c d hR, bI_k, if_pos (Or.inl rfl)] at ex
    have : c = 4 := by omega
    subst this
    obtain ⟨Y1, e1, e2⟩ := new_max d hR h0 (k := 2) (mx := 4) (by decide) hc'
    have f1 := f_spr1 d e2.1.pos (m := 0) (by decide) e1
    exact ⟨_, _, false, ex, em.trans f1, e2.2.1.e, ((fw_n e2.2.2).tr (FN.p (by decide))).tr (FN.p (by decide)), Or.inr ⟨rfl, e2.1.y184.y184⟩⟩
end Spring3
