section Test
variable (d e : Nat) {f : Nat → Int} {n T i : Nat} {X Y : Mem}
/-- the reference's tails of a test -/
noncomputable def rC (p1 c : Int) (M : Mem) : Option Res := bV (C2 e j_m_must [vR 12 179, vI c] M) fun M12 => bI (C2 e j_m_count [vR 12 179, vI 0, vI 9999] M12) fun x14 M13 => if 0 ≤ (w32 (p1 + 1)) ∧ (w32 (p1 + 1)) < 1725 then (some (none, (putI M13 184 (w32 (p1 + 1)).toNat x14))) else none
noncomputable def rS (p1 : Int) (M : Mem) : Option Res := bI (C2 e j_m_isSign [vR 12 179, vI 60] M) fun x7 M6 => if x7 = 0 then (bI (C2 e j_m_isSign [vR 12 179, vI 62] M6) fun x9 M8 => if x9 = 0 then (bI (C2 e j_m_isSign [vR 12 179, vI 61] M8) fun x11 M10 => if x11 = 0 then rC e p1 0 M10 else rC e p1 1 M10) else rC e p1 1 M8) else rC e p1 1 M6
noncomputable def rT (p1 x2 : Int) (M : Mem) : Option Res := if 0 < (M.1 179 12) then (some (none, M)) else (if x2 = 1 then (some (none, M)) else (if x2 = 0 then (bI (C2 e j_m_readTold [vR 12 179, vI 0, vI 0] M) fun x5 M4 => if 0 ≤ (w32 (p1 + 1)) ∧ (w32 (p1 + 1)) < 1725 then (some (none, (putI M4 184 (w32 (p1 + 1)).toNat x5))) else none) else (if (M.1 179 14) = 3 then (if 0 ≤ (w32 (p1 + 7)) ∧ (w32 (p1 + 7)) < 1725 then rS e p1 (putI M 184 (w32 (p1 + 7)).toNat (M.1 179 17)) else none) else (if 0 ≤ (w32 (p1 + 7)) ∧ (w32 (p1 + 7)) < 1725 then rS e p1 (putI M 184 (w32 (p1 + 7)).toNat 0) else none))))
theorem m_tst (p1 : Int) : C2 e j_m_readTest [vR 12 179, vI p1] Y = (bI (C2 e j_m_testWord [vR 12 179] Y) fun x2 M1 => if x2 < 0 then (bV (C2 e j_m_must [vR 12 179, vI 0] M1) fun M3 => if 0 ≤ (w32 (p1 + 6)) ∧ (w32 (p1 + 6)) < 1725 then rT e p1 x2 (putI M3 184 (w32 (p1 + 6)).toNat x2) else none) else (bV (C2 e j_m_must [vR 12 179, vI 1] M1) fun M42 => if 0 ≤ (w32 (p1 + 6)) ∧ (w32 (p1 + 6)) < 1725 then rT e p1 x2 (putI M42 184 (w32 (p1 + 6)).toNat x2) else none)) := q_m_readTest p1 e Y
theorem sg_of {a : Nat} (h : tK f n a = 3) : f a = 59 ∨ f a = 60 ∨ f a = 62 ∨ f a = 61 := by
  unfold tK at h
  by_cases c : a < n
  · rw [if_pos c] at h
    cases c1 : isLe (f a) <;> rw [c1] at h
    · cases c2 : isDi (f a) <;> rw [c2] at h
      · cases c3 : isSg (f a) <;> rw [c3] at h
        · simp at h
        · unfold isSg at c3
          simp at c3
          exact c3
      · by_cases c4 : en isDi f n a - a ≤ 4
        · rw [if_pos c4] at h; simp at h
        · rw [if_neg c4] at h; simp at h
    · simp at h
  · rw [if_neg c] at h; simp at h
/-- a comparing, and its number -/
theorem rs_cmp (h : RT X Y f n T i) (h0 : Y.1 179 12 = 0) {r s : Nat} (hr : r < 60) (hs : s < 30) : ∃ X' Y' g, C2 d j_pr_parseComparing [vR 7 9, vR 8 3, vR 6 43, vI (r : Int)] X = some (some (vI (b01 g)), X') ∧ (if (Y.1 179 14) = 3 then rS e ((1455 + 9 * s : Nat) : Int) (putI Y 184 (1455 + 7 + 9 * s) (Y.1 179 17)) else rS e ((1455 + 9 * s : Nat) : Int) (putI Y 184 (1455 + 7 + 9 * s) 0)) = some (none, Y') ∧ RsX r X X' ∧ RsY s Y Y' ∧ ((g = true ∧ ∃ j, i ≤ j ∧ RT X' Y' f n T j ∧ Y'.1 179 12 = 0 ∧ X'.1 (43 + 3) r = Y'.1 184 (1455 + 7 + 9 * s) ∧ X'.1 (43 + 4) r = Y'.1 184 (1455 + 1 + 9 * s) ∧ X'.1 (43 + 2) r = X.1 (43 + 2) r ∧ Y'.1 184 (1455 + 6 + 9 * s) = Y.1 184 (1455 + 6 + 9 * s)) ∨ (g = false ∧ Bad X' Y')) := by
  have hi := h.2.1
  have a1 := adr (k := 1) hs (by decide)
  have k1 : 1456 + 9 * s ≤ 1455 + 1 + 9 * s ∧ 1455 + 1 + 9 * s < 1463 + 9 * s := by omega
  have k7 : 1456 + 9 * s ≤ 1455 + 7 + 9 * s ∧ 1455 + 7 + 9 * s < 1463 + 9 * s := by omega
  have c1 : C2 d j_rd_takeComparing [vR 8 3] X = _ := q_rd_takeComparing d X
  have t7 : X.1 3 7 = tK f n (tkA f n i) := h.2.2.1.2.1
  have t14 : Y.1 179 14 = tK f n (tkA f n i) := h.2.2.2.2.1
  have ex := q_pr_parseComparing 43 (r : Int) d X
  simp only [if_pos (lo60 hr), Int.toNat_natCast] at ex
  have rc : ∀ (c : Int) (M : Mem), rC e ((1455 + 9 * s : Nat) : Int) c M = bV (C2 e j_m_must [vR 12 179, vI c] M) fun M12 => bI (C2 e j_m_count [vR 12 179, vI 0, vI 9999] M12) fun x14 M13 => some (none, putI M13 184 (1455 + 1 + 9 * s) x14) := fun c M => by
    unfold rC
    rw [show (((1455 + 9 * s : Nat) : Int) + 1) = (((1455 + 9 * s : Nat) : Int) + ((1 : Nat) : Int)) from rfl, a1.1, Int.toNat_natCast]
    simp only [if_pos a1.2]
  clear a1
  rw [t7] at c1
  rw [t14]
  -- nothing that compares
  have bad : ∀ v : Int, (∀ c : Int, (c = 60 ∨ c = 62 ∨ c = 61) → sgB f n (tkA f n i) c = false) → C2 d j_rd_takeComparing [vR 8 3] X = (bI (C2 d j_rd_misplaced [vR 8 3] X) fun x2 M1 => if x2 = 0 ∨ x2 = 1 then some (some (vI x2), M1) else none) → ∃ X' Y' g, C2 d j_pr_parseComparing [vR 7 9, vR 8 3, vR 6 43, vI (r : Int)] X = some (some (vI (b01 g)), X') ∧ rS e ((1455 + 9 * s : Nat) : Int) (putI Y 184 (1455 + 7 + 9 * s) v) = some (none, Y') ∧ RsX r X X' ∧ RsY s Y Y' ∧ g = false ∧ Bad X' Y' := by
    intro v hv hc
    have R1 : RT X (putI Y 184 (1455 + 7 + 9 * s) v) f n T i := h.y184
    have z1 : (putI Y 184 (1455 + 7 + 9 * s) v).1 179 12 = 0 := by rw [pI_ne (by decide)]; exact h0
    obtain ⟨X1, Y1, m1, m2, m3⟩ := must_f2 d e R1 z1
    refine ⟨X1, putI Y1 184 (1455 + 1 + 9 * s) 0, false, ?_, ?_, m3.2.1.rx, (RsY.p k7).tr (m3.2.2.ry.tr (RsY.p k1)), rfl, m3.1.y184⟩
    · rw [ex, hc, m1, bI_k, if_pos (Or.inl rfl), bI_k, if_pos rfl] <;> rfl
    · unfold rS
      rw [m_sign e R1, hv 60 (Or.inl rfl), bI_k, if_pos b01_f, m_sign e R1, hv 62 (Or.inr (Or.inl rfl)), bI_k, if_pos b01_f, m_sign e R1, hv 61 (Or.inr (Or.inr rfl)), bI_k, if_pos b01_f, rc, m2, bV_k, f_count e m3.1.pos, bI_k]
  by_cases c : tK f n (tkA f n i) = 3
  · have t8 : X.1 3 8 = f (tkA f n i) := h.2.2.1.2.2.2.2.2 c
    have t17 : Y.1 179 17 = f (tkA f n i) := h.2.2.2.2.2.2.2.2.2 c
    rw [if_pos c, t8] at c1
    rw [if_pos c, t17]
    by_cases c59 : f (tkA f n i) = 59
    · rw [if_pos c59] at c1
      obtain ⟨X', Y', g, b1, b2, b3, b4, b5, b6⟩ := bad (f (tkA f n i)) (fun q hq => by
        unfold sgB
        rw [c59, decide_eq_false (show ¬ (59 : Int) = q by omega), Bool.and_false]) c1
      exact ⟨X', Y', g, b1, b2, b3, b4, Or.inr ⟨b5, b6⟩⟩
    · rw [if_neg c59] at c1
      have R1 : RT (putI X 3 11 (f (tkA f n i))) (putI Y 184 (1455 + 7 + 9 * s) (f (tkA f n i))) f n T i := (h.n11).y184
      have z1 : (putI Y 184 (1455 + 7 + 9 * s) (f (tkA f n i))).1 179 12 = 0 := by rw [pI_ne (by decide)]; exact h0
      obtain ⟨X1, Y1, m1, m2, ⟨m3, m4, m5, m6⟩, m7⟩ := must_t2 d e R1 z1
      have e11 : X1.1 3 11 = f (tkA f n i) := by rw [m7.2.1 11 (by decide) (by decide) (by decide) (by decide)]; exact pI_s
      rw [m1, bV_k] at c1
      rw [c1, bI_k, if_neg (by decide), e11] at ex
      have er : rS e ((1455 + 9 * s : Nat) : Int) (putI Y 184 (1455 + 7 + 9 * s) (f (tkA f n i))) = bI (C2 e j_m_count [vR 12 179, vI 0, vI 9999] Y1) fun x14 M13 => some (none, putI M13 184 (1455 + 1 + 9 * s) x14) := by
        have sg : ∀ q : Int, sgB f n (tkA f n i) q = decide (f (tkA f n i) = q) := fun q => by
          unfold sgB
          rw [decide_eq_true c, Bool.true_and]
        unfold rS
        rw [m_sign e R1, sg, bI_k]
        by_cases q1 : f (tkA f n i) = 60
        · rw [decide_eq_true q1, if_neg (by decide), rc, m2, bV_k]
        · rw [decide_eq_false q1, if_pos b01_f, m_sign e R1, sg, bI_k]
          by_cases q2 : f (tkA f n i) = 62
          · rw [decide_eq_true q2, if_neg (by decide), rc, m2, bV_k]
          · rw [decide_eq_false q2, if_pos b01_f, m_sign e R1, sg, bI_k]
            have q3 : f (tkA f n i) = 61 := by
              rcases sg_of c with g | g | g | g
              · exact absurd g c59
              · exact absurd g q1
              · exact absurd g q2
              · exact g
            rw [decide_eq_true q3, if_neg (by decide), rc, m2, bV_k]
      rw [er]
      clear er bad
      have FX1 : RsX r X (putI X1 (43 + 3) r (f (tkA f n i))) := (FZ.p.tr m5).rx.tr (RsX.p (by decide))
      have FY1 : RsY s Y Y1 := (RsY.p k7).tr m6.w.ry
      have R2 : RT (putI X1 (43 + 3) r (f (tkA f n i))) Y1 f n T _ := m3.x fun q hq => ⟨pI_ne (ne_lo hq (by decide)), rfl⟩
      have x2 : (putI X1 (43 + 3) r (f (tkA f n i))).1 (43 + 2) r = X.1 (43 + 2) r := by rw [pI_ne (by decide), (m5 (43 + 2) (by decide)).1, pI_ne (by decide)]
      have x3 : (putI X1 (43 + 3) r (f (tkA f n i))).1 (43 + 3) r = f (tkA f n i) := pI_s
      have y7 : Y1.1 184 (1455 + 7 + 9 * s) = f (tkA f n i) := by rw [(m6.1 184 (by decide)).1]; exact pI_s
      have y6 : Y1.1 184 (1455 + 6 + 9 * s) = Y.1 184 (1455 + 6 + 9 * s) := by rw [(m6.1 184 (by decide)).1, pI_nk (by omega)]
      generalize (putI X1 (43 + 3) r (f (tkA f n i))) = X2 at *
      obtain ⟨X3, Y3, g, v, n1, n2, n3⟩ := t_num2 d e R2 m4 0 9999
      rw [n1, bI_k, if_pos (b01_or _)] at ex
      rw [n2, bI_k]
      rcases n3 with ⟨rfl, ⟨s1, s2, s3, s4⟩, s5, s6⟩ | ⟨rfl, rfl, rb⟩
      · rw [s5] at ex
        refine ⟨_, _, true, ex, rfl, FX1.tr (s3.rx.tr (RsX.p (by decide))), FY1.tr (s4.w.ry.tr (RsY.p k1)), Or.inl ⟨rfl, _, le_mn2 hi, (s1.y184).x fun q hq => ⟨pI_ne (ne_lo hq (by decide)), rfl⟩, ?_, ?_, ?_, ?_, ?_⟩⟩
        · rw [pI_ne (by decide)]; exact s2
        · rw [pI_ne (by decide), (s3 (43 + 3) (by decide)).1, x3, pI_nk (by omega), (s4.1 184 (by decide)).1, y7]
        · rw [pI_s, pI_s]
        · rw [pI_ne (by decide), (s3 (43 + 2) (by decide)).1, x2]
        · rw [pI_nk (by omega), (s4.1 184 (by decide)).1, y6]
      · exact ⟨_, _, false, ex, rfl, FX1.tr (rb.2.1.rx.tr (RsX.p (by decide))), FY1.tr (rb.2.2.ry.tr (RsY.p k1)), Or.inr ⟨rfl, (rb.1.x (by decide)).y184⟩⟩
  · rw [if_neg c] at c1
    rw [if_neg c]
    obtain ⟨X', Y', g, b1, b2, b3, b4, b5, b6⟩ := bad 0 (fun q hq => by
      unfold sgB
      rw [decide_eq_false c, Bool.false_and]) c1
    exact ⟨X', Y', g, b1, b2, b3, b4, Or.inr ⟨b5, b6⟩⟩
/-- when -/
theorem rs_test (h : RT X Y f n T i) (h0 : Y.1 179 12 = 0) {a b : Nat} (hN : NR X Y a b) {r s : Nat} (hr : r < 60) (hs : s < 30) (hK : Y.1 184 (1455 + 9 * s) = 8) (hw : X.1 (43 + 1) r = 22) : ∃ X' Y' g, C2 d j_pr_parseTest [vR 7 9, vR 8 3, vR 1 11, vR 6 43, vI (r : Int)] X = some (some (vI (b01 g)), X') ∧ C2 e j_m_readTest [vR 12 179, vI ((1455 + 9 * s : Nat) : Int)] Y = some (none, Y') ∧ RsO X Y X' Y' f n T i r s g := by
  have hi := h.2.1
  have a1 := adr (k := 1) hs (by decide)
  have a6 := adr (k := 6) hs (by decide)
  have a7 := adr (k := 7) hs (by decide)
  have k1 : 1456 + 9 * s ≤ 1455 + 1 + 9 * s ∧ 1455 + 1 + 9 * s < 1463 + 9 * s := by omega
  have k6 : 1456 + 9 * s ≤ 1455 + 6 + 9 * s ∧ 1455 + 6 + 9 * s < 1463 + 9 * s := by omega
  have ex := q_pr_parseTest 11 43 (r : Int) d X
  have em := m_tst e (Y := Y) ((1455 + 9 * s : Nat) : Int)
  have t10 : X.1 3 10 = kwI (wdF f n (tkA f n i)) := h.2.2.1.2.2.2.1
  simp only [if_pos (lo60 hr), Int.toNat_natCast] at ex
  rw [is_test e h.2.2.2.2, bI_k, show (((1455 + 9 * s : Nat) : Int) + 6) = (((1455 + 9 * s : Nat) : Int) + ((6 : Nat) : Int)) from rfl, a6.1, Int.toNat_natCast] at em
  simp only [if_pos a6.2] at em
  rw [t10] at ex
  have rt : ∀ (x2 : Int) (M : Mem), rT e ((1455 + 9 * s : Nat) : Int) x2 M = if 0 < (M.1 179 12) then (some (none, M)) else (if x2 = 1 then (some (none, M)) else (if x2 = 0 then (bI (C2 e j_m_readTold [vR 12 179, vI 0, vI 0] M) fun x5 M4 => some (none, putI M4 184 (1455 + 1 + 9 * s) x5)) else (if (M.1 179 14) = 3 then rS e ((1455 + 9 * s : Nat) : Int) (putI M 184 (1455 + 7 + 9 * s) (M.1 179 17)) else rS e ((1455 + 9 * s : Nat) : Int) (putI M 184 (1455 + 7 + 9 * s) 0)))) := fun x2 M => by
    unfold rT
    rw [show (((1455 + 9 * s : Nat) : Int) + 1) = (((1455 + 9 * s : Nat) : Int) + ((1 : Nat) : Int)) from rfl, a1.1, Int.toNat_natCast, show (((1455 + 9 * s : Nat) : Int) + 7) = (((1455 + 9 * s : Nat) : Int) + ((7 : Nat) : Int)) from rfl, a7.1, Int.toNat_natCast]
    simp only [if_pos a1.2, if_pos a7.2]
  clear a1 a6 a7
  have kr := kw_rng (w := wdF f n (tkA f n i))
  generalize kwI (wdF f n (tkA f n i)) = k at *
  -- the step's own numbers, whatever is read
  have qK : ∀ Y', RsY s Y Y' → PP Y' (75 + 9 * s) = 8 := fun Y' hy => by
    rw [PP_hi (by omega), show 1380 + (75 + 9 * s) = 1455 + 9 * s by omega, hy.2.2.2.2 _ (Or.inl (by omega))]; exact hK
  have qW : ∀ X', RsX r X X' → X'.1 (43 + 1) r = 22 := fun X' hx => by
    rw [hx.1 (43 + 1) (by decide) (by decide)]; exact hw
  have q1 : ∀ Y' : Mem, PP Y' (76 + 9 * s) = Y'.1 184 (1455 + 1 + 9 * s) := fun Y' => by rw [PP_hi (by omega), show 1380 + (76 + 9 * s) = 1455 + 1 + 9 * s by omega]
  have q6 : ∀ Y' : Mem, PP Y' (81 + 9 * s) = Y'.1 184 (1455 + 6 + 9 * s) := fun Y' => by rw [PP_hi (by omega), show 1380 + (81 + 9 * s) = 1455 + 6 + 9 * s by omega]
  have q7 : ∀ Y' : Mem, PP Y' (82 + 9 * s) = Y'.1 184 (1455 + 7 + 9 * s) := fun Y' => by rw [PP_hi (by omega), show 1380 + (82 + 9 * s) = 1455 + 7 + 9 * s by omega]
  have st : ∀ X' Y', RsX r X X' → RsY s Y Y' → ((PP Y' (81 + 9 * s) = 0 ∧ X'.1 (43 + 2) r = 23 ∧ X'.1 (43 + 3) r = PP Y' (76 + 9 * s) ∧ 0 ≤ PP Y' (76 + 9 * s) ∧ PP Y' (76 + 9 * s) < PP Y' 0) ∨ (PP Y' (81 + 9 * s) = 1 ∧ X'.1 (43 + 2) r = 24) ∨ (PP Y' (81 + 9 * s) = 2 ∧ X'.1 (43 + 2) r = 2 ∧ X'.1 (43 + 3) r = PP Y' (82 + 9 * s) ∧ X'.1 (43 + 4) r = PP Y' (76 + 9 * s))) → StR X' 43 (PP Y') s r := fun X' Y' hx hy hh => by
    unfold StR
    rw [qK Y' hy, qW X' hx]
    exact ⟨by decide, by decide, fun g => absurd g (by decide), fun g => absurd g (by decide), fun g => absurd g (by decide), fun g => absurd g (by decide), fun g => absurd g (by decide), fun _ => hh, fun g => absurd g (by decide)⟩
  by_cases c23 : k = 23
  · rw [if_pos c23] at ex
    rw [show teK k = 0 by rw [c23]; decide, if_neg (by decide)] at em
    obtain ⟨X1, Y1, m1, m2, ⟨m3, m4, m5, m6⟩, m7⟩ := must_t2 d e h h0
    rw [m1, bV_k, if_pos c23] at ex
    rw [m2, bV_k, rt, if_neg (by rw [pI_ne (by decide), m4]; decide), if_neg (by decide), if_pos rfl] at em
    have R2 : RT (putI X1 (43 + 2) r k) (putI Y1 184 (1455 + 6 + 9 * s) 0) f n T _ := (m3.y184).x fun q hq => ⟨pI_ne (ne_lo hq (by decide)), rfl⟩
    have z2 : (putI Y1 184 (1455 + 6 + 9 * s) 0).1 179 12 = 0 := by rw [pI_ne (by decide)]; exact m4
    have FX2 : RsX r X (putI X1 (43 + 2) r k) := m5.rx.tr (RsX.p (by decide))
    have FY2 : RsY s Y (putI Y1 184 (1455 + 6 + 9 * s) 0) := m6.w.ry.tr (RsY.p k6)
    have N2 := hN.mv FX2 FY2
    have x2 : (putI X1 (43 + 2) r k).1 (43 + 2) r = 23 := by rw [pI_s, c23]
    have y2 : (putI Y1 184 (1455 + 6 + 9 * s) 0).1 184 (1455 + 6 + 9 * s) = 0 := pI_s
    have l2 : (putI X1 (43 + 2) r k).2.1 = X1.2.1 := rfl
    generalize (putI X1 (43 + 2) r k) = X2 at *
    generalize (putI Y1 184 (1455 + 6 + 9 * s) 0) = Y2 at *
    rw [← l2] at ex
    obtain ⟨X3, Y3, g3, v3, x3, e1, e2, e3, e4⟩ := t_prt d e R2 z2 N2
    rw [e1, bI_k, e2, bI_k, if_pos (b01_or _)] at ex
    rw [e3, bI_k] at em
    rcases e4 with ⟨rfl, ⟨s1, s2, s3, s4⟩, s5, s6, s7⟩ | ⟨rfl, rfl, rb⟩
    · rw [s5] at ex
      have FX4 : RsX r X (putI X3 (43 + 3) r v3) := FX2.tr (s3.rx.tr (RsX.p (by decide)))
      have FY4 : RsY s Y (putI Y3 184 (1455 + 1 + 9 * s) v3) := FY2.tr (s4.w.ry.tr (RsY.p k1))
      have N4 := hN.mv FX4 FY4
      refine ⟨_, _, true, ex, em, FX4, FY4, Or.inl ⟨rfl, _, le_mn2 hi, (s1.y184).x fun q hq => ⟨pI_ne (ne_lo hq (by decide)), rfl⟩, ?_, st _ _ FX4 FY4 (Or.inl ⟨?_, ?_, ?_, ?_, ?_⟩)⟩⟩
      · rw [pI_ne (by decide)]; exact s2
      · rw [q6, pI_nk (by omega), (s4.1 184 (by decide)).1]; exact y2
      · rw [pI_ne (by decide), (s3 (43 + 2) (by decide)).1]; exact x2
      · rw [q1, pI_s, pI_s]
      · rw [q1, pI_s]; exact s6
      · rw [q1, pI_s, PP_lo (by decide), N4.1.2.1]; exact s7
    · exact ⟨_, _, false, ex, em, FX2.tr (rb.2.1.rx.tr (RsX.p (by decide))), FY2.tr (rb.2.2.ry.tr (RsY.p k1)), Or.inr ⟨rfl, (rb.1.x (by decide)).y184⟩⟩
  rw [if_neg c23] at ex
  by_cases c24 : k = 24
  · rw [if_pos c24] at ex
    rw [show teK k = 1 by rw [c24]; decide, if_neg (by decide)] at em
    obtain ⟨X1, Y1, m1, m2, ⟨m3, m4, m5, m6⟩, m7⟩ := must_t2 d e h h0
    rw [m1, bV_k, if_neg c23, if_pos c24] at ex
    rw [m2, bV_k, rt, if_neg (by rw [pI_ne (by decide), m4]; decide), if_pos rfl] at em
    have FX2 : RsX r X (putI X1 (43 + 2) r k) := m5.rx.tr (RsX.p (by decide))
    have FY2 : RsY s Y (putI Y1 184 (1455 + 6 + 9 * s) 1) := m6.w.ry.tr (RsY.p k6)
    refine ⟨_, _, true, ex, em, FX2, FY2, Or.inl ⟨rfl, _, le_mn hi, (m3.y184).x fun q hq => ⟨pI_ne (ne_lo hq (by decide)), rfl⟩, ?_, st _ _ FX2 FY2 (Or.inr (Or.inl ⟨?_, ?_⟩))⟩⟩
    · rw [pI_ne (by decide)]; exact m4
    · rw [q6, pI_s]
    · rw [pI_s, c24]
  rw [if_neg c24] at ex
  by_cases c2 : k = 2
  · rw [if_pos c2] at ex
    rw [show teK k = 2 by rw [c2]; decide, if_neg (by decide)] at em
    obtain ⟨X1, Y1, m1, m2, ⟨m3, m4, m5, m6⟩, m7⟩ := must_t2 d e h h0
    rw [m1, bV_k, if_neg c23, if_neg c24] at ex
    rw [m2, bV_k, rt, if_neg (by rw [pI_ne (by decide), m4]; decide), if_neg (by decide), if_neg (by decide)] at em
    have R2 : RT (putI X1 (43 + 2) r k) (putI Y1 184 (1455 + 6 + 9 * s) 2) f n T _ := (m3.y184).x fun q hq => ⟨pI_ne (ne_lo hq (by decide)), rfl⟩
    have z2 : (putI Y1 184 (1455 + 6 + 9 * s) 2).1 179 12 = 0 := by rw [pI_ne (by decide)]; exact m4
    have FX2 : RsX r X (putI X1 (43 + 2) r k) := m5.rx.tr (RsX.p (by decide))
    have FY2 : RsY s Y (putI Y1 184 (1455 + 6 + 9 * s) 2) := m6.w.ry.tr (RsY.p k6)
    have x2 : (putI X1 (43 + 2) r k).1 (43 + 2) r = 2 := by rw [pI_s, c2]
    have y2 : (putI Y1 184 (1455 + 6 + 9 * s) 2).1 184 (1455 + 6 + 9 * s) = 2 := pI_s
    generalize (putI X1 (43 + 2) r k) = X2 at *
    generalize (putI Y1 184 (1455 + 6 + 9 * s) 2) = Y2 at *
    obtain ⟨X3, Y3, g, e1, e2, e3, e4, e5⟩ := rs_cmp d e R2 z2 hr hs
    rw [e1, bI_k] at ex
    rw [e2] at em
    refine ⟨X3, Y3, g, ?_, em, FX2.tr e3, FY2.tr e4, ?_⟩
    · rw [ex]
      cases g
      · rw [if_pos b01_f] <;> rfl
      · rw [if_neg (by decide)] <;> rfl
    · rcases e5 with ⟨rfl, j, j1, j2, j3, j4, j5, j6, j7⟩ | e5
      · refine Or.inl ⟨rfl, j, Nat.le_trans (le_mn hi) j1, j2, j3, st _ _ (FX2.tr e3) (FY2.tr e4) (Or.inr (Or.inr ⟨?_, ?_, ?_, ?_⟩))⟩
        · rw [q6, j7]; exact y2
        · rw [j6]; exact x2
        · rw [q7]; exact j4
        · rw [q1]; exact j5
      · exact Or.inr e5
  rw [if_neg c2] at ex
  obtain ⟨X1, Y1, m1, m2, m3⟩ := must_f2 d e h h0
  rw [m1, bI_k, if_pos (Or.inl rfl)] at ex
  have tk : teK k = -1 := by
    unfold teK
    rw [if_neg c23, if_neg c24, if_neg c2]
  rw [tk, if_pos (by decide), m2, bV_k, rt, if_pos (by rw [pI_ne (by decide)]; exact m3.1.pos)] at em
  exact ⟨_, _, false, ex, em, m3.2.1.rx, m3.2.2.ry.tr (RsY.p k6), Or.inr ⟨rfl, m3.1.y184⟩⟩
end Test
