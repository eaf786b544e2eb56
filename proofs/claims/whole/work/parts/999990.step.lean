section Stp1
variable (d e : Nat) {f : Nat → Int} {n T i : Nat} {X Y : Mem}
theorem beg_s {k : Int} {M : Mem} : C2 d j_pr_beginsStep [vI k] M = some (some (vI (if stK k = -1 then 0 else 1)), M) := by
  rw [q_pr_beginsStep, x_within, bI_k]
  unfold stK
  by_cases c : 14 ≤ k ∧ k ≤ 22
  · rw [if_pos c, if_neg (by decide), if_pos c, if_neg (by omega)]
  · rw [if_neg c, if_pos rfl, if_neg c]
    by_cases c1 : k = 25
    · rw [if_pos c1, if_pos c1] <;> rfl
    · rw [if_neg c1, if_neg c1]
      by_cases c2 : k = 27
      · rw [if_pos c2, if_pos c2] <;> rfl
      · rw [if_neg c2, if_neg c2] <;> rfl
theorem stK_of {k : Int} (h : ¬ stK k = -1) : (0 ≤ stK k ∧ stK k ≤ 10) ∧ kwOf (stK k) = k ∧ (stK k = 8 ↔ k = 22) ∧ (stK k = 9 ↔ k = 25) ∧ ¬ k = -1 := by
  unfold stK at h ⊢
  by_cases c : 14 ≤ k ∧ k ≤ 22
  · rw [if_pos c]
    refine ⟨by omega, ?_, by omega, by omega, by omega⟩
    unfold kwOf
    rw [if_pos (by omega)]; omega
  · rw [if_neg c] at h ⊢
    by_cases c1 : k = 25
    · subst c1
      rw [if_pos rfl]
      exact ⟨by decide, by decide, by decide, by decide, by decide⟩
    · rw [if_neg c1] at h ⊢
      by_cases c2 : k = 27
      · subst c2
        rw [if_pos rfl]
        exact ⟨by decide, by decide, by decide, by decide, by decide⟩
      · rw [if_neg c2] at h
        exact absurd rfl h
theorem any_end : ∃ b, C2 e j_m_isEnd [vR 12 179] Y = some (some (vI (b01 b)), Y) := by
  rw [q_m_isEnd]
  exact any_x e (c := keyC.getD 26 0) (by rw [q_m_spelled]; rfl)
theorem ad8 {s : Nat} (hs : s < 30) : w32 (((1455 + 9 * s : Nat) : Int) + 8) = ((1455 + 8 + 9 * s : Nat) : Int) ∧ ((0 : Int) ≤ ((1455 + 8 + 9 * s : Nat) : Int) ∧ ((1455 + 8 + 9 * s : Nat) : Int) < 1725) := adr (k := 8) hs (by decide)
theorem r88_0 {s : Nat} (hs : s < 30) : E2 e r_m_readStep 88 [(0, vR 12 179), (3, vI 0), (4, vI ((1455 + 9 * s : Nat) : Int))] [] Y = some (none, putI Y 184 (1455 + 8 + 9 * s) (Y.1 179 26)) := by
  rw [q_m_readStep_88, if_pos rfl, (ad8 hs).1, if_pos (ad8 hs).2, Int.toNat_natCast]
theorem r74_0 {s : Nat} (hs : s < 30) (lv : Int) : E2 e r_m_readStep 74 [(0, vR 12 179), (1, vI lv), (3, vI 0), (4, vI ((1455 + 9 * s : Nat) : Int))] [] Y = some (none, putI Y 184 (1455 + 8 + 9 * s) (Y.1 179 26)) := by
  rw [q_m_readStep_74, if_pos rfl, r88_0 e hs]
theorem r88_f {s : Nat} (hs : s < 30) (h : 0 < Y.1 179 12) : E2 e r_m_readStep 88 [(0, vR 12 179), (3, vI 1), (4, vI ((1455 + 9 * s : Nat) : Int))] [] Y = some (none, putI Y 184 (1455 + 8 + 9 * s) (Y.1 179 26)) := by
  obtain ⟨b, hb⟩ := any_end (Y := Y) e
  obtain ⟨b', hb'⟩ := any_sign (Y := Y) e 59
  rw [q_m_readStep_88, if_neg (by decide), hb, bI_k, f_must e h, bV_k, hb', bI_k, f_must e h, bV_k, (ad8 hs).1, if_pos (ad8 hs).2, Int.toNat_natCast]
theorem r74_f {s : Nat} (hs : s < 30) (lv : Int) (h : 0 < Y.1 179 12) : E2 e r_m_readStep 74 [(0, vR 12 179), (1, vI lv), (3, vI 1), (4, vI ((1455 + 9 * s : Nat) : Int))] [] Y = some (none, putI Y 184 (1455 + 8 + 9 * s) (Y.1 179 26)) := by
  rw [q_m_readStep_74, if_neg (by decide), if_neg (pos_ne h), r88_f e hs h]
/-- the reference's step where a fault stands -/
theorem r42_f {p1 p2 p3 : Int} (h : 0 < Y.1 179 12) : E2 e r_m_readStep 42 [(0, vR 12 179), (1, vI p1), (2, vI p2), (3, vI p3)] [] Y = some (none, Y) := by
  rw [q_m_readStep_42, if_pos h]
theorem r29_f {p1 p2 p3 : Int} (h : 0 < Y.1 179 12) : E2 e r_m_readStep 29 [(0, vR 12 179), (1, vI p1), (2, vI p2), (3, vI p3)] [] Y = some (none, Y) := by
  rw [q_m_readStep_29, if_neg (pos_ne h), r42_f e h]
theorem r17_f {p1 p2 p3 : Int} (h : 0 < Y.1 179 12) : E2 e r_m_readStep 17 [(0, vR 12 179), (1, vI p1), (2, vI p2), (3, vI p3)] [] Y = some (none, Y) := by
  rw [q_m_readStep_17, if_neg (pos_ne h), r29_f e h]
/-- no step at all -/
theorem rst_bad {Y' : Mem} {a : Nat} (h : TS Y f n a) (hk : stK (kwI (wdF f n a)) = -1) (lv : Int) (ha : C2 e j_m_amiss [vR 12 179] Y = some (none, Y')) (hp : 0 < Y'.1 179 12) : C2 e j_m_readStep [vR 12 179, vI lv] Y = some (none, Y') := by
  rw [q_m_readStep, is_step e h, bI_k, hk, if_neg (by decide), if_neg (by decide), if_pos (by decide), ha, bV_k, r17_f e hp]
/-- what a step reads behind its word, and its sign -/
theorem st_mid (h : RT X Y f n T i) (h0 : Y.1 179 12 = 0) {a b : Nat} (hN : NR X Y a b) {r s : Nat} (hr : r < 60) (hs : s < 30) {K : Int} (hk : 0 ≤ K ∧ K ≤ 10) (hK : Y.1 184 (1455 + 9 * s) = K) (hw : X.1 (43 + 1) r = kwOf K) (Kc Ke : Mem → Option Res) : ∃ X' Y' g, (bI (RC d (kwOf K) (r : Int) X) fun x10 M9 => if x10 = 0 then (some (some (vI 0), M9)) else (bI (C2 d j_rd_takeSign [vR 8 3, vI 59] M9) fun x12 M11 => if x12 = 0 then (some (some (vI 0), M11)) else Kc M11)) = (if g = true then Kc X' else some (some (vI 0), X')) ∧ (bV (C2 e j_m_readRest [vR 12 179, vI ((1455 + 9 * s : Nat) : Int)] Y) fun M2 => bI (C2 e j_m_isSign [vR 12 179, vI 59] M2) fun x4 M3 => bV (C2 e j_m_must [vR 12 179, vI x4] M3) fun M5 => Ke M5) = Ke Y' ∧ RsX r X X' ∧ RsY s Y Y' ∧ ((g = true ∧ ∃ j, i ≤ j ∧ RT X' Y' f n T j ∧ Y'.1 179 12 = 0 ∧ StR X' 43 (PP Y') s r) ∨ (g = false ∧ Bad X' Y')) := by
  obtain ⟨X1, Y1, g, e1, e2, e3, e4, e5⟩ := rs_all d e h h0 hN hr hs hk hK hw
  rw [e1, bI_k, e2, bV_k]
  rcases e5 with ⟨rfl, j, j1, R1, z1, st⟩ | ⟨rfl, hB⟩
  · obtain ⟨X2, Y2, g, t1, t2, t3⟩ := t_sign2 d e R1 z1 59
    rw [m_sign e R1, bI_k] at t2
    rw [if_neg (by decide), t1, bI_k, m_sign e R1, bI_k, t2, bV_k]
    rcases t3 with ⟨rfl, ⟨g1, g2, g3, g4⟩, g5⟩ | ⟨rfl, g1⟩
    · refine ⟨X2, Y2, true, ?_, rfl, e3.tr g3.rx, e4.tr g4.w.ry, Or.inl ⟨rfl, _, Nat.le_trans j1 (le_mn R1.2.1), g1, g2, st.ex (fun i i1 i2 => by rw [(g3 (43 + i) (by omega)).1]) (fun k _ => ?_)⟩⟩
      · rw [if_neg (by decide), if_pos rfl]
      · unfold PP
        rw [(g4.1 184 (by decide)).1]
    · refine ⟨X2, Y2, false, ?_, rfl, e3.tr g1.2.1.rx, e4.tr g1.2.2.ry, Or.inr ⟨rfl, g1.1⟩⟩
      rw [if_pos b01_f] <;> rfl
  · obtain ⟨b', hb'⟩ := any_sign (Y := Y1) e 59
    rw [if_pos b01_f, hb', bI_k, f_must e hB.pos, bV_k]
    exact ⟨X1, Y1, false, rfl, rfl, e3, e4, Or.inr ⟨rfl, hB⟩⟩
/-- how the head of a step ends -/
def HdO (Kc : Mem → Option Res) (ce re : Option Res) (X Y : Mem) (f : Nat → Int) (n T i lv r s a b : Nat) : Prop :=
  (∃ X' Y', ce = some (some (vI 0), X') ∧ re = some (none, Y') ∧ Bad X' Y' ∧ FPc lv r X X' ∧ FPr s Y Y') ∨
  (∃ X' Y' j, ce = Kc X' ∧ re = some (none, Y') ∧ i < j ∧ PSt X' Y' f n T j lv (r + 1) (s + 1) a b ∧ FPc lv r X X' ∧ FPr s Y Y' ∧ ∀ D, Seg1 X' 43 (PP Y') D s (s + 1) r (r + 1)) ∨
  (∃ X' Y' j, ce = Kc X' ∧ re = E2 e r_m_readStep 74 [(0, vR 12 179), (1, vI (lv : Int)), (3, vI 1), (4, vI ((1455 + 9 * s : Nat) : Int))] [] Y' ∧ i < j ∧ lv < 3 ∧ s < 30 ∧ PSt X' Y' f n T j (lv + 1) (r + 1) (s + 1) a b ∧ X'.1 10 lv = (r : Int) ∧ FPc lv r X X' ∧ FPr s Y Y' ∧ StR X' 43 (PP Y') s r ∧ (PP Y' (75 + 9 * s) = 8 ∨ PP Y' (75 + 9 * s) = 9))
theorem num_s {s : Nat} (hs : s < 30) : ((s : Nat) : Int) < 30 ∧ ¬ ((s : Nat) : Int) = 30 ∧ w32 (((s : Nat) : Int) + 1) = ((s + 1 : Nat) : Int) ∧ w32 (1455 + w32 (9 * ((s : Nat) : Int))) = ((1455 + 9 * s : Nat) : Int) ∧ ((0 : Int) ≤ ((1455 + 9 * s : Nat) : Int) ∧ ((1455 + 9 * s : Nat) : Int) < 1725) := by
  rw [w32s (x := 9 * ((s : Nat) : Int)) (by omega), w32s (x := ((s : Nat) : Int) + 1) (by omega), w32s (x := 1455 + 9 * ((s : Nat) : Int)) (by omega)]
  omega
theorem num_l {lv : Nat} (h : lv < 3) : ((lv : Nat) : Int) < 3 ∧ ((0 : Int) ≤ ((lv : Nat) : Int) ∧ ((lv : Nat) : Int) < 3) ∧ w32 (((lv : Nat) : Int) + 1) = ((lv + 1 : Nat) : Int) ∧ ¬ ((lv : Nat) : Int) = 3 := by
  rw [w32s (x := ((lv : Nat) : Int) + 1) (by omega)]
  omega
theorem num_r {r lv s : Nat} (h : r + lv ≤ 2 * s) (hs : s < 30) : r < 60 := by omega
theorem mn_s {i T : Nat} (h : i < T) : min (i + 1) T = i + 1 := by omega
theorem ks_0 {K : Int} (h : 0 ≤ K ∧ K ≤ 10) : ¬ K < 0 := by omega
theorem cl_3 {lv : Nat} (h : lv ≤ 3) (c : ¬ lv < 3) : lv = 3 := by omega
theorem lo_n {q : Nat} (h : 3 ≤ q ∧ q ≤ 7) : ¬ (43 ≤ q ∧ q ≤ 48) := by omega
theorem nm_1 {r lv s : Nat} (h : r + lv ≤ 2 * s) : (r + 1) + (lv + 1) ≤ 2 * (s + 1) := by omega
theorem nm_2 {r lv s : Nat} (h : r + lv ≤ 2 * s) : (r + 1) + lv ≤ 2 * (s + 1) := by omega
theorem a_75 {s : Nat} : 1380 + (75 + 9 * s) = 1455 + 9 * s := by omega
theorem a_83 {s : Nat} : 1380 + (83 + 9 * s) = 1455 + 8 + 9 * s := by omega
theorem lt_56 {s : Nat} : 1455 + 9 * s < 1456 + 9 * s := by omega
theorem le_58 {s : Nat} : 1455 + 9 * s ≤ 1455 + 8 + 9 * s := by omega
theorem ne_58 {s : Nat} : 1455 + 9 * s ≠ 1455 + 8 + 9 * s := by omega
theorem le_75 {s : Nat} : 75 ≤ 75 + 9 * s := by omega
theorem le_83 {s : Nat} : 75 ≤ 83 + 9 * s := by omega
theorem ne_k1 {k s : Nat} (c : k < 75) : k ≠ 1455 + 8 + 9 * s := by omega
theorem ne_k2 {k s : Nat} (c : ¬ k < 75) (h : k < 2 ∨ (75 + 9 * s ≤ k ∧ k < 83 + 9 * s)) : 1380 + k ≠ 1455 + 8 + 9 * s := by omega
theorem s_30 {s : Nat} (h : s ≤ 30) (c : ¬ s < 30) : s = 30 := by omega
theorem st_head {lv r s a b : Nat} (h : PSt X Y f n T i lv r s a b) (Kc : Mem → Option Res) : HdO e Kc (bI (C2 d j_pr_parseStep [vR 7 9, vR 8 3, vR 1 11, vR 6 43] X) fun x10 M9 => if x10 = 0 then (some (some (vI 0), M9)) else (bI (C2 d j_rd_takeSign [vR 8 3, vI 59] M9) fun x12 M11 => if x12 = 0 then (some (some (vI 0), M11)) else Kc M11)) (C2 e j_m_readStep [vR 12 179, vI (lv : Int)] Y) X Y f n T i lv r s a b := by
  obtain ⟨hR, h0, h5, h6, h26, h9, hrl, hs30, hl3, hN⟩ := h
  have k10 : X.1 3 10 = kwI (wdF f n (tkA f n i)) := hR.2.2.1.2.2.2.1
  have ex := q_pr_parseStep 11 43 d X
  have em := q_m_readStep (lv : Int) e Y
  rw [k10, beg_s, bI_k] at ex
  rw [is_step e hR.2.2.2.2, bI_k] at em
  by_cases ck : stK (kwI (wdF f n (tkA f n i))) = -1
  · obtain ⟨X', Y', m1, m2, m3⟩ := mis2 d e hR h0
    rw [if_pos ck, if_pos rfl, m1, bI_k, if_pos (Or.inl rfl)] at ex
    refine Or.inl ⟨X', Y', ?_, rst_bad e hR.2.2.2.2 ck _ m2 m3.1.pos, m3.1, m3.2.1.pc, m3.2.2.pr⟩
    rw [ex, bI_k, if_pos rfl]
  · obtain ⟨hk, hkw, h8, h25, hn1⟩ := stK_of ck
    have hlt : i < T := kw_lt hR hn1
    have h8' : ∀ _ : Unit, (stK (kwI (wdF f n (tkA f n i))) = 8 ↔ kwI (wdF f n (tkA f n i)) = 22) := fun _ => h8
    have h25' : ∀ _ : Unit, (stK (kwI (wdF f n (tkA f n i))) = 9 ↔ kwI (wdF f n (tkA f n i)) = 25) := fun _ => h25
    clear h8 h25 hn1
    rw [if_neg ck, if_neg (by decide), h6] at ex
    rw [if_neg (ks_0 hk), if_neg (ks_0 hk)] at em
    clear ck
    generalize kwI (wdF f n (tkA f n i)) = k at *
    generalize stK k = K at *
    subst hkw
    by_cases cs : s < 30
    · obtain ⟨us, ns, w1, w9, b9⟩ := num_s cs
      have r60 : r < 60 := num_r hrl cs
      rw [if_pos us] at ex
      -- the reference, from row 42 on
      have r42 : ∀ p3 : Int, E2 e r_m_readStep 42 [(0, vR 12 179), (1, vI (lv : Int)), (2, vI K), (3, vI p3)] [] Y = (bV (C2 e j_m_advance [vR 12 179] (putI Y 179 26 ((s + 1 : Nat) : Int))) fun M1 => bV (C2 e j_m_readRest [vR 12 179, vI ((1455 + 9 * s : Nat) : Int)] (putI M1 184 (1455 + 9 * s) K)) fun M2 => bI (C2 e j_m_isSign [vR 12 179, vI 59] M2) fun x4 M3 => bV (C2 e j_m_must [vR 12 179, vI x4] M3) fun M5 => E2 e r_m_readStep 74 [(0, vR 12 179), (1, vI (lv : Int)), (3, vI p3), (4, vI ((1455 + 9 * s : Nat) : Int))] [] M5) := fun p3 => by
        rw [q_m_readStep_42, h0, if_neg (by decide), h26, w1, w9]
        simp only [if_pos b9, Int.toNat_natCast]
      -- both advance
      have R1 : RT X (putI Y 179 26 ((s + 1 : Nat) : Int)) f n T i := hR.y26
      have z1 : (putI Y 179 26 ((s + 1 : Nat) : Int)).1 179 12 = 0 := by rw [pI_nk (by decide)]; exact h0
      obtain ⟨X1, Y1, g1, g2, ⟨g3, g4, g5, g6⟩, g7⟩ := go2 d e R1 z1
      rw [mn_s hlt] at g3
      have x5 : X1.1 43 5 = (r : Int) := by rw [(g5 43 (by decide)).1]; exact h5
      have x6 : X1.1 43 6 = (s : Int) := by rw [(g5 43 (by decide)).1]; exact h6
      have x9 : X1.1 9 1 = (lv : Int) := by rw [(g5 9 (by decide)).1]; exact h9
      have c1 := c_row d x5 r60 (kwOf K)
      have e26 : (putI Y1 184 (1455 + 9 * s) K).1 179 26 = ((s + 1 : Nat) : Int) := by
        rw [pI_ne (by decide), g6.2.1 26 (by decide)]; exact pI_s
      have FY1 : FPr s Y (putI Y1 184 (1455 + 9 * s) K) := ((FPr.t).tr g6.w.pr (Nat.le_refl _)).tr (FPr.p (Nat.le_refl _)) (Nat.le_refl _)
      have yK : (putI Y1 184 (1455 + 9 * s) K).1 184 (1455 + 9 * s) = K := pI_s
      have yz : (putI Y1 184 (1455 + 9 * s) K).1 179 12 = 0 := by rw [pI_ne (by decide)]; exact g4
      -- the class behind the row
      have R2 : RT (putI (aR X1 r (kwOf K)) 43 6 ((s + 1 : Nat) : Int)) (putI Y1 184 (1455 + 9 * s) K) f n T (i + 1) := (g3.y184).x fun q hq => ⟨by rw [pI_ne (ne_lo hq (by decide)), aR_n (lo_n hq)], rfl⟩
      have FX2 : FPc lv r X (putI (aR X1 r (kwOf K)) 43 6 ((s + 1 : Nat) : Int)) := (g5.pc.tr aR_f (Nat.le_refl _) (Nat.le_refl _)).tr FPc.p3 (Nat.le_refl _) (Nat.le_refl _)
      have a6 : (aR X1 r (kwOf K)).1 43 6 = (s : Int) := by rw [aR_3 (by decide)]; exact x6
      have b5 : (putI (aR X1 r (kwOf K)) 43 6 ((s + 1 : Nat) : Int)).1 43 5 = ((r + 1 : Nat) : Int) := by rw [pI_nk (by decide)]; exact aR_5
      have b6 : (putI (aR X1 r (kwOf K)) 43 6 ((s + 1 : Nat) : Int)).1 43 6 = ((s + 1 : Nat) : Int) := pI_s
      have b91 : (putI (aR X1 r (kwOf K)) 43 6 ((s + 1 : Nat) : Int)).1 9 1 = (lv : Int) := by rw [pI_ne (by decide), aR_n (by decide)]; exact x9
      have bw : (putI (aR X1 r (kwOf K)) 43 6 ((s + 1 : Nat) : Int)).1 (43 + 1) r = kwOf K := by rw [pI_ne (by decide)]; exact aR_w
      generalize hY2 : (putI Y1 184 (1455 + 9 * s) K) = Y2 at *
      generalize hX2 : (putI (aR X1 r (kwOf K)) 43 6 ((s + 1 : Nat) : Int)) = X2 at *
      by_cases co : K = 8 ∨ K = 9
      · -- it opens
        have cw : kwOf K = 22 ∨ kwOf K = 25 := by
          rcases co with g | g
          · exact Or.inl ((h8' ()).mp g)
          · exact Or.inr ((h25' ()).mp g)
        have em1 : C2 e j_m_readStep [vR 12 179, vI (lv : Int)] Y = E2 e r_m_readStep 17 [(0, vR 12 179), (1, vI (lv : Int)), (2, vI K), (3, vI 1)] [] Y := by
          rw [em]
          by_cases c8 : K = 8
          · rw [if_pos c8]
          · rw [if_neg c8, if_pos (co.resolve_left c8)]
        rw [q_m_readStep_17, if_pos h0, h26, if_neg ns, q_m_readStep_29, if_pos h0, if_neg (by decide)] at em1
        by_cases cl : lv < 3
        · obtain ⟨ul, ul2, wl, nl⟩ := num_l cl
          rw [if_neg nl, r42, g2, bV_k, hY2] at em1
          have R4 : RT (putI (putI X2 10 lv (r : Int)) 9 1 ((lv + 1 : Nat) : Int)) Y2 f n T (i + 1) := R2.x fun q hq => ⟨by rw [pI_ne (ne_lo hq (by decide)), pI_ne (ne_lo hq (by decide))], rfl⟩
          have FX4 : FPc lv r X (putI (putI X2 10 lv (r : Int)) 9 1 ((lv + 1 : Nat) : Int)) := (FX2.tr (FPc.p10 (Nat.le_refl _)) (Nat.le_refl _) (Nat.le_refl _)).tr FPc.p9 (Nat.le_refl _) (Nat.le_refl _)
          have d5 : (putI (putI X2 10 lv (r : Int)) 9 1 ((lv + 1 : Nat) : Int)).1 43 5 = ((r + 1 : Nat) : Int) := by rw [pI_ne (by decide), pI_ne (by decide)]; exact b5
          have d6 : (putI (putI X2 10 lv (r : Int)) 9 1 ((lv + 1 : Nat) : Int)).1 43 6 = ((s + 1 : Nat) : Int) := by rw [pI_ne (by decide), pI_ne (by decide)]; exact b6
          have d9 : (putI (putI X2 10 lv (r : Int)) 9 1 ((lv + 1 : Nat) : Int)).1 9 1 = ((lv + 1 : Nat) : Int) := pI_s
          have d10 : (putI (putI X2 10 lv (r : Int)) 9 1 ((lv + 1 : Nat) : Int)).1 10 lv = (r : Int) := by rw [pI_ne (by decide), pI_s]
          have dw : (putI (putI X2 10 lv (r : Int)) 9 1 ((lv + 1 : Nat) : Int)).1 (43 + 1) r = kwOf K := by rw [pI_ne (by decide), pI_ne (by decide)]; exact bw
          have op : (bV (C2 d j_rd_advance [vR 8 3] X) fun M5 => bI (C2 d j_pl_addRow [vR 6 43, vI (kwOf K)] M5) fun x7 M6 => if 0 ≤ ((putI M6 43 6 (w32 ((M6.1 43 6) + 1))).1 9 1) ∧ ((putI M6 43 6 (w32 ((M6.1 43 6) + 1))).1 9 1) < 3 then RC d (kwOf K) x7 (putI (putI (putI M6 43 6 (w32 ((M6.1 43 6) + 1))) 10 ((putI M6 43 6 (w32 ((M6.1 43 6) + 1))).1 9 1).toNat x7) 9 1 (w32 (((putI (putI M6 43 6 (w32 ((M6.1 43 6) + 1))) 10 ((putI M6 43 6 (w32 ((M6.1 43 6) + 1))).1 9 1).toNat x7).1 9 1) + 1))) else none) = RC d (kwOf K) (r : Int) (putI (putI X2 10 lv (r : Int)) 9 1 ((lv + 1 : Nat) : Int)) := by
            rw [g1, bV_k, c1, bI_k, a6, w1, hX2, b91, if_pos ul2, Int.toNat_natCast, pI_ne (by decide), b91, wl]
          have ex1 : C2 d j_pr_parseStep [vR 7 9, vR 8 3, vR 1 11, vR 6 43] X = RC d (kwOf K) (r : Int) (putI (putI X2 10 lv (r : Int)) 9 1 ((lv + 1 : Nat) : Int)) := by
            rw [ex, h9]
            by_cases cw2 : kwOf K = 22
            · rw [if_pos cw2, if_pos ul]; exact op
            · rw [if_neg cw2, if_pos (cw.resolve_left cw2), if_pos ul]; exact op
          rw [ex1]
          clear ex ex1 op r42 hX2
          generalize (putI (putI X2 10 lv (r : Int)) 9 1 ((lv + 1 : Nat) : Int)) = X4 at *
          obtain ⟨X', Y', g, t1, t2, t3, t4, t5⟩ := st_mid d e R4 yz (hN.pp FX4 FY1) r60 cs hk yK dw Kc (fun M5 => E2 e r_m_readStep 74 [(0, vR 12 179), (1, vI (lv : Int)), (3, vI 1), (4, vI ((1455 + 9 * s : Nat) : Int))] [] M5)
          rw [t2] at em1
          rw [t1]
          have FXe : FPc lv r X X' := FX4.tr t3.pc (Nat.le_refl _) (Nat.le_refl _)
          have FYe : FPr s Y Y' := FY1.tr t4.pr (Nat.le_refl _)
          rcases t5 with ⟨rfl, j, j1, j2, j3, j4⟩ | ⟨rfl, hB⟩
          · refine Or.inr (Or.inr ⟨X', Y', j, if_pos rfl, em1, j1, cl, cs, ⟨j2, j3, ?_, ?_, ?_, ?_, nm_1 hrl, cs, cl, hN.pp FXe FYe⟩, ?_, FXe, FYe, j4, ?_⟩)
            · rw [t3.1 43 (by decide) (by decide)]; exact d5
            · rw [t3.1 43 (by decide) (by decide)]; exact d6
            · rw [t4.2.2.1 26 (by decide)]; exact e26
            · rw [t3.1 9 (by decide) (by decide)]; exact d9
            · rw [t3.1 10 (by decide) (by decide)]; exact d10
            · rw [PP_hi le_75, a_75, t4.2.2.2.2 _ (Or.inl lt_56), yK]; exact co
          · rw [r74_f e cs _ hB.pos] at em1
            exact Or.inl ⟨X', _, if_neg (by decide), em1, hB.y184, FXe, FYe.tr (FPr.p (s := s) le_58) (Nat.le_refl _)⟩
        · -- too deep
          have l3 : lv = 3 := cl_3 hl3 cl
          subst l3
          rw [if_pos (show ((3 : Nat) : Int) = 3 from rfl), fail_m e hR h0, bV_k, r42_f e (by rw [pI_nk (by decide), pI_s]; decide)] at em1
          have ex1 : C2 d j_pr_parseStep [vR 7 9, vR 8 3, vR 1 11, vR 6 43] X = some (some (vI 0), putI (putI X 3 12 7) 3 13 ((tkA f n i : Nat) : Int)) := by
            rw [ex, h9]
            by_cases cw2 : kwOf K = 22
            · rw [if_pos cw2, if_neg (by decide), fail_c d hR, bI_k, if_pos (Or.inl rfl)]
            · rw [if_neg cw2, if_pos (cw.resolve_left cw2), if_neg (by decide), fail_c d hR, bI_k, if_pos (Or.inl rfl)]
          have bo := bad_put (X := X) (Y := Y) 7 ((tkA f n i : Nat) : Int) (by decide)
          rw [ex1, bI_k, if_pos rfl]
          exact Or.inl ⟨_, _, rfl, em1, bo.1, bo.2.1.pc, bo.2.2.pr⟩
      · -- a plain step
        have cw1 : ¬ kwOf K = 22 := fun g => co (Or.inl ((h8' ()).mpr g))
        have cw2 : ¬ kwOf K = 25 := fun g => co (Or.inr ((h25' ()).mpr g))
        have em1 : C2 e j_m_readStep [vR 12 179, vI (lv : Int)] Y = E2 e r_m_readStep 17 [(0, vR 12 179), (1, vI (lv : Int)), (2, vI K), (3, vI 0)] [] Y := by
          rw [em, if_neg (fun g => co (Or.inl g)), if_neg (fun g => co (Or.inr g))]
        rw [q_m_readStep_17, if_pos h0, h26, if_neg ns, q_m_readStep_29, if_pos h0, if_pos rfl, r42, g2, bV_k, hY2] at em1
        have ex1 : C2 d j_pr_parseStep [vR 7 9, vR 8 3, vR 1 11, vR 6 43] X = RC d (kwOf K) (r : Int) X2 := by
          rw [ex, if_neg cw1, if_neg cw2, g1, bV_k, c1, bI_k, a6, w1, hX2]
          rfl
        rw [ex1]
        clear ex ex1 r42 hX2
        obtain ⟨X', Y', g, t1, t2, t3, t4, t5⟩ := st_mid d e R2 yz (hN.pp FX2 FY1) r60 cs hk yK bw Kc (fun M5 => E2 e r_m_readStep 74 [(0, vR 12 179), (1, vI (lv : Int)), (3, vI 0), (4, vI ((1455 + 9 * s : Nat) : Int))] [] M5)
        rw [t2, r74_0 e cs] at em1
        rw [t1]
        have FXe : FPc lv r X X' := FX2.tr t3.pc (Nat.le_refl _) (Nat.le_refl _)
        have FYe : FPr s Y (putI Y' 184 (1455 + 8 + 9 * s) (Y'.1 179 26)) := (FY1.tr t4.pr (Nat.le_refl _)).tr (FPr.p (s := s) le_58) (Nat.le_refl _)
        have y26 : Y'.1 179 26 = ((s + 1 : Nat) : Int) := by rw [t4.2.2.1 26 (by decide)]; exact e26
        rcases t5 with ⟨rfl, j, j1, j2, j3, j4⟩ | ⟨rfl, hB⟩
        · refine Or.inr (Or.inl ⟨X', _, j, if_pos rfl, em1, j1, ⟨j2.y184, ?_, ?_, ?_, ?_, ?_, nm_2 hrl, cs, hl3, hN.pp FXe FYe⟩, FXe, FYe, fun D => ⟨Nat.lt_succ_self _, ?_, Or.inr ⟨?_, ?_, rfl, rfl⟩⟩⟩)
          · rw [pI_ne (by decide)]; exact j3
          · rw [t3.1 43 (by decide) (by decide)]; exact b5
          · rw [t3.1 43 (by decide) (by decide)]; exact b6
          · rw [pI_ne (by decide)]; exact y26
          · rw [t3.1 9 (by decide) (by decide)]; exact b91
          · refine j4.ex (fun _ _ _ => rfl) (fun k hk => ?_)
            unfold PP
            by_cases c75 : k < 75
            · rw [if_pos c75, if_pos c75, pI_nk (ne_k1 c75)]
            · rw [if_neg c75, if_neg c75, pI_nk (ne_k2 c75 hk)]
          · rw [PP_hi le_75, a_75, pI_nk ne_58, t4.2.2.2.2 _ (Or.inl lt_56), yK]; exact co
          · rw [PP_hi le_83, a_83, pI_s]; exact y26
        · exact Or.inl ⟨X', _, if_neg (by decide), em1, hB.y184, FXe, FYe⟩
    · -- one more than thirty
      have s30 : s = 30 := s_30 hs30 cs
      subst s30
      rw [if_neg (by decide), fail_c d hR, bI_k, if_pos (Or.inl rfl)] at ex
      have bo := bad_put (X := X) (Y := Y) 6 ((tkA f n i : Nat) : Int) (by decide)
      have r17 : ∀ p3 : Int, E2 e r_m_readStep 17 [(0, vR 12 179), (1, vI (lv : Int)), (2, vI K), (3, vI p3)] [] Y = some (none, putI (putI Y 179 12 6) 179 13 ((tkA f n i : Nat) : Int)) := fun p3 => by
        rw [q_m_readStep_17, if_pos h0, h26, if_pos (by decide), fail_m e hR h0, bV_k, r29_f e bo.1.pos]
      have em1 : C2 e j_m_readStep [vR 12 179, vI (lv : Int)] Y = some (none, putI (putI Y 179 12 6) 179 13 ((tkA f n i : Nat) : Int)) := by
        rw [em, r17, r17, ite_self, ite_self]
      rw [ex, bI_k, if_pos rfl]
      exact Or.inl ⟨_, _, rfl, em1, bo.1, bo.2.1.pc, bo.2.2.pr⟩
end Stp1
