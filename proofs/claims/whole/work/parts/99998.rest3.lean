section Rest3
variable (d e : Nat) {f : Nat → Int} {n T i : Nat} {X Y : Mem}
/-- the class's rest of a step -/
noncomputable def RC (w r : Int) (M : Mem) : Option Res := if w = 17 then (bI (C2 d j_pr_parseTeach [vR 7 9, vR 8 3, vR 1 11, vR 6 43, vI r] M) fun x31 M30 => if x31 = 0 ∨ x31 = 1 then some (some (vI x31), M30) else none) else (if w = 22 then (bI (C2 d j_pr_parseTest [vR 7 9, vR 8 3, vR 1 11, vR 6 43, vI r] M) fun x33 M32 => if x33 = 0 ∨ x33 = 1 then some (some (vI x33), M32) else none) else (bI (C2 d j_pr_parseOne [vR 7 9, vR 8 3, vR 1 11, vR 6 43, vI r] M) fun x35 M34 => if x35 = 0 ∨ x35 = 1 then some (some (vI x35), M34) else none))
theorem rs_num (h : RT X Y f n T i) (h0 : Y.1 179 12 = 0) {r s : Nat} (hr : r < 60) (hs : s < 30) {K w lo hi : Int} (hK : Y.1 184 (1455 + 9 * s) = K) (hw : X.1 (43 + 1) r = w) (hkw : kwOf K = w) (hc : (K = 0 ∧ lo = 1 ∧ hi = 20) ∨ (K = 1 ∧ lo = 1 ∧ hi = 999) ∨ (K = 9 ∧ lo = 1 ∧ hi = 99)) (c1 : ∀ M, C2 d j_pr_takeOne [vR 7 9, vR 8 3, vR 1 11, vI w] M = bI (C2 d j_rd_takeNumber [vR 8 3, vI lo, vI hi] M) fun x2 M1 => if x2 = 0 ∨ x2 = 1 then some (some (vI x2), M1) else none) : ∃ X' Y' g, C2 d j_pr_parseOne [vR 7 9, vR 8 3, vR 1 11, vR 6 43, vI (r : Int)] X = some (some (vI (b01 g)), X') ∧ (bI (C2 e j_m_count [vR 12 179, vI lo, vI hi] Y) fun x M => some (none, putI M 184 (1455 + 1 + 9 * s) x)) = some (none, Y') ∧ RsO X Y X' Y' f n T i r s g := by
  obtain ⟨X1, Y1, g, v, n1, n2, n3⟩ := t_num2 d e (h.n11 (v := 0)) h0 lo hi
  have tk : C2 d j_pr_takeOne [vR 7 9, vR 8 3, vR 1 11, vI ((putI X 3 11 0).1 (43 + 1) r)] (putI X 3 11 0) = some (some (vI (b01 g)), X1) := by
    rw [pI_ne (by decide), hw, c1, n1, bI_k, if_pos (b01_or _)]
  obtain ⟨X', e1, e2, e3, e4⟩ := rs_one d h.2.1 (s := s) hr hs (P := lo ≤ v ∧ v ≤ hi) tk n3
  refine ⟨X', _, g, e1, ?_, e2, e3, ?_⟩
  · rw [n2, bI_k]
  · rcases e4 with ⟨rfl, hp, j, j1, j2, j3, j4⟩ | e4
    · refine Or.inl ⟨rfl, j, j1, j2, j3, st_1 (K := K) (w := w) (v := v) ?_ ?_ hkw j4 ?_ hp hc⟩
      · rw [PP_hi (by omega), show 1380 + (75 + 9 * s) = 1455 + 9 * s by omega, e3.2.2.2.2 _ (Or.inl (by omega))]; exact hK
      · rw [e2.1 (43 + 1) (by decide) (by decide)]; exact hw
      · rw [PP_hi (by omega), show 1380 + (76 + 9 * s) = 1455 + 1 + 9 * s by omega, pI_s]
    · exact Or.inr e4
theorem rs_nam (h : RT X Y f n T i) (h0 : Y.1 179 12 = 0) {a b : Nat} (hN : NR X Y a b) {r s : Nat} (hr : r < 60) (hs : s < 30) {K w : Int} (hK : Y.1 184 (1455 + 9 * s) = K) (hw : X.1 (43 + 1) r = w) (hkw : kwOf K = w) (hc : K = 4 ∨ K = 5) (c1 : ∀ M, C2 d j_pr_takeOne [vR 7 9, vR 8 3, vR 1 11, vI w] M = bI (C2 d j_em_findPart [vR 1 11, vL (M.2.1 3 9)] M) fun x6 M5 => bI (C2 d j_rd_takeNameOf [vR 8 3, vI x6] M5) fun x8 M7 => if x8 = 0 ∨ x8 = 1 then some (some (vI x8), M7) else none) : ∃ X' Y' g, C2 d j_pr_parseOne [vR 7 9, vR 8 3, vR 1 11, vR 6 43, vI (r : Int)] X = some (some (vI (b01 g)), X') ∧ (bI (C2 e j_m_readTold [vR 12 179, vI 0, vI 0] Y) fun x M => some (none, putI M 184 (1455 + 1 + 9 * s) x)) = some (none, Y') ∧ RsO X Y X' Y' f n T i r s g := by
  have hN1 : NR (putI X 3 11 0) Y a b := hN.keep (pI_ne (by decide)) (fun _ _ _ => rfl) (fun _ _ => rfl) rfl
  obtain ⟨X1, Y1, g, v, x2, n0, n1, n2, n3⟩ := t_prt d e (h.n11 (v := 0)) h0 hN1
  have tk : C2 d j_pr_takeOne [vR 7 9, vR 8 3, vR 1 11, vI ((putI X 3 11 0).1 (43 + 1) r)] (putI X 3 11 0) = some (some (vI (b01 g)), X1) := by
    rw [pI_ne (by decide), hw, c1, n0, bI_k, n1, bI_k, if_pos (b01_or _)]
  obtain ⟨X', e1, e2, e3, e4⟩ := rs_one d h.2.1 (s := s) hr hs (P := 0 ≤ v ∧ v < (a : Int)) tk n3
  refine ⟨X', _, g, e1, ?_, e2, e3, ?_⟩
  · rw [n2, bI_k]
  · rcases e4 with ⟨rfl, hp, j, j1, j2, j3, j4⟩ | e4
    · have N2 := hN.mv e2 e3
      refine Or.inl ⟨rfl, j, j1, j2, j3, st_2 (K := K) (w := w) (v := v) ?_ ?_ hkw j4 ?_ hp.1 (Or.inl ⟨hc, ?_⟩)⟩
      · rw [PP_hi (by omega), show 1380 + (75 + 9 * s) = 1455 + 9 * s by omega, e3.2.2.2.2 _ (Or.inl (by omega))]; exact hK
      · rw [e2.1 (43 + 1) (by decide) (by decide)]; exact hw
      · rw [PP_hi (by omega), show 1380 + (76 + 9 * s) = 1455 + 1 + 9 * s by omega, pI_s]
      · rw [PP_lo (by decide), N2.1.2.1]; exact hp.2
    · exact Or.inr e4
theorem rs_cap (h : RT X Y f n T i) (h0 : Y.1 179 12 = 0) {a b : Nat} (hN : NR X Y a b) {r s : Nat} (hr : r < 60) (hs : s < 30) (hK : Y.1 184 (1455 + 9 * s) = 6) (hw : X.1 (43 + 1) r = 20) : ∃ X' Y' g, C2 d j_pr_parseOne [vR 7 9, vR 8 3, vR 1 11, vR 6 43, vI (r : Int)] X = some (some (vI (b01 g)), X') ∧ (bI (C2 e j_m_readTold [vR 12 179, vI 0, vI 1] Y) fun x M => some (none, putI M 184 (1455 + 1 + 9 * s) x)) = some (none, Y') ∧ RsO X Y X' Y' f n T i r s g := by
  have hN1 : NR (putI X 3 11 0) Y a b := hN.keep (pI_ne (by decide)) (fun _ _ _ => rfl) (fun _ _ => rfl) rfl
  obtain ⟨X1, Y1, g, v, x2, n0, n1, n2, n3⟩ := t_hnd d e (h.n11 (v := 0)) h0 hN1
  have tk : C2 d j_pr_takeOne [vR 7 9, vR 8 3, vR 1 11, vI ((putI X 3 11 0).1 (43 + 1) r)] (putI X 3 11 0) = some (some (vI (b01 g)), X1) := by
    rw [pI_ne (by decide), hw, q_pr_takeOne, if_neg (by decide), if_neg (by decide), if_neg (by decide), if_neg (by decide), if_neg (by decide), if_neg (by decide), if_pos rfl, n0, bI_k, n1, bI_k, if_pos (b01_or _)]
  obtain ⟨X', e1, e2, e3, e4⟩ := rs_one d h.2.1 (s := s) hr hs (P := 0 ≤ v ∧ v < (b : Int)) tk n3
  refine ⟨X', _, g, e1, ?_, e2, e3, ?_⟩
  · rw [n2, bI_k]
  · rcases e4 with ⟨rfl, hp, j, j1, j2, j3, j4⟩ | e4
    · have N2 := hN.mv e2 e3
      refine Or.inl ⟨rfl, j, j1, j2, j3, st_2 (K := 6) (w := 20) (v := v) ?_ ?_ (by decide) j4 ?_ hp.1 (Or.inr ⟨rfl, ?_⟩)⟩
      · rw [PP_hi (by omega), show 1380 + (75 + 9 * s) = 1455 + 9 * s by omega, e3.2.2.2.2 _ (Or.inl (by omega))]; exact hK
      · rw [e2.1 (43 + 1) (by decide) (by decide)]; exact hw
      · rw [PP_hi (by omega), show 1380 + (76 + 9 * s) = 1455 + 1 + 9 * s by omega, pI_s]
      · rw [PP_lo (by decide), N2.2.2.1]; exact hp.2
    · exact Or.inr e4
theorem rs_nil (h : RT X Y f n T i) (h0 : Y.1 179 12 = 0) {r s : Nat} (hr : r < 60) {K w : Int} (hK : Y.1 184 (1455 + 9 * s) = K) (hw : X.1 (43 + 1) r = w) (hkw : kwOf K = w) (hc : K = 2 ∨ K = 7 ∨ K = 10) (c1 : ∀ M, C2 d j_pr_takeOne [vR 7 9, vR 8 3, vR 1 11, vI w] M = some (some (vI 1), M)) : ∃ X', C2 d j_pr_parseOne [vR 7 9, vR 8 3, vR 1 11, vR 6 43, vI (r : Int)] X = some (some (vI (b01 true)), X') ∧ RsO X Y X' Y f n T i r s true := by
  have tk : C2 d j_pr_takeOne [vR 7 9, vR 8 3, vR 1 11, vI ((putI X 3 11 0).1 (43 + 1) r)] (putI X 3 11 0) = some (some (vI 1), putI X 3 11 0) := by
    rw [pI_ne (by decide), hw, c1]
  obtain ⟨X', e1, e2, e3⟩ := rs_none d (s := s) h hr tk
  refine ⟨X', e1, e2, FW.rfl.ry, Or.inl ⟨rfl, i, Nat.le_refl _, e3, h0, st_0 (K := K) (w := w) ?_ ?_ hkw hc⟩⟩
  · rw [PP_hi (by omega), show 1380 + (75 + 9 * s) = 1455 + 9 * s by omega]; exact hK
  · rw [e2.1 (43 + 1) (by decide) (by decide)]; exact hw
/-- the rest of any step -/
theorem rs_all (h : RT X Y f n T i) (h0 : Y.1 179 12 = 0) {a b : Nat} (hN : NR X Y a b) {r s : Nat} (hr : r < 60) (hs : s < 30) {K : Int} (hk : 0 ≤ K ∧ K ≤ 10) (hK : Y.1 184 (1455 + 9 * s) = K) (hw : X.1 (43 + 1) r = kwOf K) : ∃ X' Y' g, RC d (kwOf K) (r : Int) X = some (some (vI (b01 g)), X') ∧ C2 e j_m_readRest [vR 12 179, vI ((1455 + 9 * s : Nat) : Int)] Y = some (none, Y') ∧ RsO X Y X' Y' f n T i r s g := by
  have a1 := adr (k := 1) hs (by decide)
  have a0 : (0 : Int) ≤ ((1455 + 9 * s : Nat) : Int) ∧ ((1455 + 9 * s : Nat) : Int) < 1725 := by omega
  have em := q_m_readRest ((1455 + 9 * s : Nat) : Int) e Y
  rw [if_pos a0, Int.toNat_natCast, hK, show (((1455 + 9 * s : Nat) : Int) + 1) = (((1455 + 9 * s : Nat) : Int) + ((1 : Nat) : Int)) from rfl, a1.1, Int.toNat_natCast] at em
  simp only [if_pos a1.2] at em
  clear a1 a0
  have hc : K = 0 ∨ K = 1 ∨ K = 2 ∨ K = 3 ∨ K = 4 ∨ K = 5 ∨ K = 6 ∨ K = 7 ∨ K = 8 ∨ K = 9 ∨ K = 10 := by omega
  have one : ∀ w : Int, ¬ w = 17 → ¬ w = 22 → ∀ X' g, C2 d j_pr_parseOne [vR 7 9, vR 8 3, vR 1 11, vR 6 43, vI (r : Int)] X = some (some (vI (b01 g)), X') → RC d w (r : Int) X = some (some (vI (b01 g)), X') := fun w h1 h2 X' g hh => by
    unfold RC
    rw [if_neg h1, if_neg h2, hh, bI_k, if_pos (b01_or _)]
  rcases hc with rfl | rfl | rfl | rfl | rfl | rfl | rfl | rfl | rfl | rfl | rfl
  · obtain ⟨X', Y', g, e1, e2, e3⟩ := rs_num d e h h0 hr hs (K := 0) (w := 14) (lo := 1) (hi := 20) hK hw (by decide) (by decide) (fun M => by rw [q_pr_takeOne, if_pos rfl])
    rw [if_pos rfl] at em
    exact ⟨X', Y', g, one _ (by decide) (by decide) X' g e1, em.trans e2, e3⟩
  · obtain ⟨X', Y', g, e1, e2, e3⟩ := rs_num d e h h0 hr hs (K := 1) (w := 15) (lo := 1) (hi := 999) hK hw (by decide) (by decide) (fun M => by rw [q_pr_takeOne, if_neg (by decide), if_pos rfl])
    rw [if_neg (by decide), if_pos rfl] at em
    exact ⟨X', Y', g, one _ (by decide) (by decide) X' g e1, em.trans e2, e3⟩
  · obtain ⟨X', e1, e3⟩ := rs_nil d h h0 (s := s) hr (K := 2) (w := 16) hK hw (by decide) (by decide) (fun M => by rw [q_pr_takeOne, if_neg (by decide), if_neg (by decide), if_pos rfl])
    rw [if_neg (by decide), if_neg (by decide), if_neg (by decide), if_neg (by decide), if_neg (by decide), if_neg (by decide), if_neg (by decide), if_neg (by decide)] at em
    exact ⟨X', Y, true, one _ (by decide) (by decide) X' true e1, em, e3⟩
  · obtain ⟨X', Y', g, e1, e2, e3⟩ := rs_teach d e h h0 hN hr hs hK hw
    rw [if_neg (by decide), if_neg (by decide), if_neg (by decide), if_pos rfl, e2, bV_k] at em
    refine ⟨X', Y', g, ?_, em, e3⟩
    unfold RC
    rw [if_pos (by decide), e1, bI_k, if_pos (b01_or _)]
  · obtain ⟨X', Y', g, e1, e2, e3⟩ := rs_nam d e h h0 hN hr hs (K := 4) (w := 18) hK hw (by decide) (by decide) (fun M => by rw [q_pr_takeOne, if_neg (by decide), if_neg (by decide), if_neg (by decide), if_neg (by decide), if_pos rfl])
    rw [if_neg (by decide), if_neg (by decide), if_neg (by decide), if_neg (by decide), if_neg (by decide), if_pos rfl] at em
    exact ⟨X', Y', g, one _ (by decide) (by decide) X' g e1, em.trans e2, e3⟩
  · obtain ⟨X', Y', g, e1, e2, e3⟩ := rs_nam d e h h0 hN hr hs (K := 5) (w := 19) hK hw (by decide) (by decide) (fun M => by rw [q_pr_takeOne, if_neg (by decide), if_neg (by decide), if_neg (by decide), if_neg (by decide), if_neg (by decide), if_pos rfl])
    rw [if_neg (by decide), if_neg (by decide), if_neg (by decide), if_neg (by decide), if_neg (by decide), if_neg (by decide), if_pos rfl] at em
    exact ⟨X', Y', g, one _ (by decide) (by decide) X' g e1, em.trans e2, e3⟩
  · obtain ⟨X', Y', g, e1, e2, e3⟩ := rs_cap d e h h0 hN hr hs hK hw
    rw [if_neg (by decide), if_neg (by decide), if_neg (by decide), if_neg (by decide), if_neg (by decide), if_neg (by decide), if_neg (by decide), if_pos rfl] at em
    exact ⟨X', Y', g, one _ (by decide) (by decide) X' g e1, em.trans e2, e3⟩
  · obtain ⟨X', e1, e3⟩ := rs_nil d h h0 (s := s) hr (K := 7) (w := 21) hK hw (by decide) (by decide) (fun M => by rw [q_pr_takeOne, if_neg (by decide), if_neg (by decide), if_neg (by decide), if_neg (by decide), if_neg (by decide), if_neg (by decide), if_neg (by decide), if_pos rfl])
    rw [if_neg (by decide), if_neg (by decide), if_neg (by decide), if_neg (by decide), if_neg (by decide), if_neg (by decide), if_neg (by decide), if_neg (by decide)] at em
    exact ⟨X', Y, true, one _ (by decide) (by decide) X' true e1, em, e3⟩
  · obtain ⟨X', Y', g, e1, e2, e3⟩ := rs_test d e h h0 hN hr hs hK hw
    rw [if_neg (by decide), if_neg (by decide), if_neg (by decide), if_neg (by decide), if_pos rfl, e2, bV_k] at em
    refine ⟨X', Y', g, ?_, em, e3⟩
    unfold RC
    rw [if_neg (by decide), if_pos (by decide), e1, bI_k, if_pos (b01_or _)]
  · obtain ⟨X', Y', g, e1, e2, e3⟩ := rs_num d e h h0 hr hs (K := 9) (w := 25) (lo := 1) (hi := 99) hK hw (by decide) (by decide) (fun M => by rw [q_pr_takeOne, if_neg (by decide), if_neg (by decide), if_neg (by decide), if_neg (by decide), if_neg (by decide), if_neg (by decide), if_neg (by decide), if_neg (by decide), if_neg (by decide), if_neg (by decide), if_neg (by decide), if_pos rfl])
    rw [if_neg (by decide), if_neg (by decide), if_pos rfl] at em
    exact ⟨X', Y', g, one _ (by decide) (by decide) X' g e1, em.trans e2, e3⟩
  · obtain ⟨X', e1, e3⟩ := rs_nil d h h0 (s := s) hr (K := 10) (w := 27) hK hw (by decide) (by decide) (fun M => by rw [q_pr_takeOne, if_neg (by decide), if_neg (by decide), if_neg (by decide), if_neg (by decide), if_neg (by decide), if_neg (by decide), if_neg (by decide), if_neg (by decide), if_neg (by decide), if_neg (by decide), if_neg (by decide), if_neg (by decide)])
    rw [if_neg (by decide), if_neg (by decide), if_neg (by decide), if_neg (by decide), if_neg (by decide), if_neg (by decide), if_neg (by decide), if_neg (by decide)] at em
    exact ⟨X', Y, true, one _ (by decide) (by decide) X' true e1, em, e3⟩
end Rest3
