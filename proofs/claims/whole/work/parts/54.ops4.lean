/-! what is known copied, a hand hired, pace, tries, the worst loss, feed -/
section Ops4
variable {M : Mem} (d : Nat)
theorem x8_63 {x : Int} (h : 0 ≤ x ∧ x ≤ 63) : x8 (w32 x) = x := by
  rw [w32s (by omega)]
  unfold x8; omega
theorem x16_63 {x : Int} (h : 0 ≤ x ∧ x ≤ 63) : x16 (w32 x) = x := by
  rw [w32s (by omega)]
  unfold x16; omega
theorem cut_63 {s x : Int} (h : 0 ≤ x ∧ x ≤ 63) : cutS s x = x := by
  unfold cutS
  rw [x8_63 h, x16_63 h, w32s (x := x) (by omega)]
  by_cases c0 : s = 0
  · rw [if_pos c0]
  · rw [if_neg c0]
    by_cases c1 : s = 1
    · rw [if_pos c1]
    · rw [if_neg c1]
      by_cases c2 : s = 2
      · rw [if_pos c2]
      · rw [if_neg c2]
theorem x_ck (h : Inv M) (t : Nat) (ht : t < 4) : E2 d r_x_copyKnown 16 [(0, vR 11 0), (1, vI (t : Int)), (3, vI 0)] [] M = some (some (vI (mV M 1)), putI (fL M (88 + 2 * t) 0 (mV M 1).toNat (fun k => mV M (49 + k))) 0 0 0) := by
  have hc := h.wc
  unfold Wc at hc
  have h8 : M.1 11 8 = mV M 1 := h.rl.2.1.2.2.2.2.2.2.2.2.1
  refine ex_loop (P := fun i M' => E2 d r_x_copyKnown 16 [(0, vR 11 0), (1, vI (t : Int)), (3, vI (i : Int))] [] M') (R := fun r => r = some (some (vI (mV M 1)), putI (fL M (88 + 2 * t) 0 (mV M 1).toNat (fun k => mV M (49 + k))) 0 0 0)) (fun i M' => M' = fL M (88 + 2 * t) 0 i (fun k => mV M (49 + k))) (mV M 1).toNat (fun i M' hi hq => ?_) (fun M' hq => ?_) M fL_0.symm
  · subst hq
    refine ⟨_, ?_, rfl⟩
    have hk := (h.rl.2.2.2.1 i (by omega)).2.2.1
    have hk2 : M.1 (13 + 14 + 1 * i) 3 = mV M (49 + i) := hk
    have hb := (h.wf.2.2.2.2.2.2.2.2.1 i (by omega)).2.2.1
    rw [q_x_copyKnown_16, fL_I, h8, if_pos (by omega), if_pos (by omega), if_pos (by omega), Int.toNat_natCast, Int.toNat_natCast, q_ty_put, x_cut, bL_k, hk2, cut_63 hb, if_pos (by omega), bV_k, Int.toNat_natCast, w32n (by omega), ← fL_s, Nat.zero_add, show 1 + 86 + 2 * t + 1 = 88 + 2 * t by omega]
  · subst hq
    rw [q_x_copyKnown_16, fL_I, h8, if_neg (by omega), x_ansR]
theorem m_ck (hc : Wc (mV M)) (t : Nat) (ht : t < 4) : E2 d r_m_copyKnown 38 [(0, vR 12 179), (1, vI (t : Int)), (2, vI 0)] [] M = some (some (vI (mV M 1)), fL M 182 (60 * t) (mV M 1).toNat (fun k => mV M (49 + k))) := by
  unfold Wc at hc
  have h8 : M.1 184 1 = mV M 1 := rfl
  refine ex_loop (P := fun i M' => E2 d r_m_copyKnown 38 [(0, vR 12 179), (1, vI (t : Int)), (2, vI (i : Int))] [] M') (R := fun r => r = some (some (vI (mV M 1)), fL M 182 (60 * t) (mV M 1).toNat (fun k => mV M (49 + k)))) (fun i M' => M' = fL M 182 (60 * t) i (fun k => mV M (49 + k))) (mV M 1).toNat (fun i M' hi hq => ?_) (fun M' hq => ?_) M fL_0.symm
  · subst hq
    refine ⟨_, ?_, rfl⟩
    rw [q_m_copyKnown_38, fL_I, h8, if_pos (by omega), w32s (x := 49 + (i : Int)) (by omega), if_pos (by omega), w32s (x := 60 * (t : Int)) (by omega), w32s (x := 60 * (t : Int) + (i : Int)) (by omega), if_pos (by omega), show (49 + (i : Int)).toNat = 49 + i by omega, show (60 * (t : Int) + (i : Int)).toNat = 60 * t + i by omega, w32n (by omega), ← fL_s]
    rfl
  · subst hq
    rw [q_m_copyKnown_38, fL_I, h8, if_neg (by omega)]
theorem o_copyKnown (h : Inv M) (p : Int) : OpI d j_x_copyKnown j_m_copyKnown [vI p] M := by
  have hc := h.wc
  unfold Wc at hc
  have h8 : M.1 11 8 = mV M 1 := h.rl.2.1.2.2.2.2.2.2.2.2.1
  have hI : ∀ (s : Int) (k : Nat), (putI (putI (putI M 0 0 s) 179 1 0) 179 0 0).1 181 k = M.1 181 k := fun s k => by simp [up2]
  have hJ : ∀ (s : Int), (putI (putI (putI M 0 0 s) 179 1 0) 179 0 0).1 184 1 = mV M 1 := fun s => congrFun mV_bg 1
  by_cases c : 0 ≤ p ∧ p ≤ 3
  · obtain ⟨t, rfl⟩ : ∃ t : Nat, p = (t : Int) := ⟨p.toNat, by omega⟩
    have ht := h.2.1 t (by omega)
    rcases ht with ht | ⟨t1, t2, t3, t4, t5⟩
    · refine opR h (-1) 3 ?_ ?_
      · rw [q_x_copyKnown, x_tTr, bI_k]
        unfold tTr
        rw [if_pos c, Int.toNat_natCast, if_pos ht.1, if_neg (by decide), x_refR]
      · rw [q_m_copyKnown, m_isTray, bI_k, if_pos c, if_neg (by decide), if_pos (by omega), Int.toNat_natCast, hI, if_pos (by omega), m_refR]
    · have e1 : tTr M t (mV M 1) = if M.1 (87 + 2 * t) 2 < mV M 1 then 4 else 0 := by
        unfold tTr
        rw [if_pos c, Int.toNat_natCast, if_neg (by omega)]
      by_cases c2 : M.1 (87 + 2 * t) 2 < mV M 1
      · refine opR h (-1) 4 ?_ ?_
        · rw [q_x_copyKnown, x_tTr, bI_k, h8, e1, if_pos c2, if_neg (by decide), x_refR]
        · rw [q_m_copyKnown, m_isTray, bI_k, if_pos c, if_neg (by decide), if_pos (by omega), Int.toNat_natCast, hI, if_neg (by omega), if_pos (by omega), hJ, if_pos (by omega), m_refR]
      · have hx : C2 d j_x_copyKnown [vR 11 0, vI (t : Int)] M = some (some (vI (mV M 1)), putI (fL M (88 + 2 * t) 0 (mV M 1).toNat (fun k => mV M (49 + k))) 0 0 0) := by
          rw [q_x_copyKnown, x_tTr, bI_k, h8, e1, if_neg c2, if_pos rfl, x_ck d h t (by omega)]
        have ev : mV (putI (putI (putI (fL M (88 + 2 * t) 0 (mV M 1).toNat (fun k => mV M (49 + k))) 0 0 0) 179 1 0) 179 0 0) = mV M := mV_bg
        have e9 : ∀ k, (putI (putI (putI (fL M (88 + 2 * t) 0 (mV M 1).toNat (fun k => mV M (49 + k))) 0 0 0) 179 1 0) 179 0 0).1 181 k = M.1 181 k := fun k => by simp [up2, fL]
        have e8 : (putI (putI (putI (fL M (88 + 2 * t) 0 (mV M 1).toNat (fun k => mV M (49 + k))) 0 0 0) 179 1 0) 179 0 0).1 184 1 = mV M 1 := congrFun ev 1
        have hm : C2 d j_m_copyKnown [vR 12 179, vI (t : Int)] (putI (fL M (88 + 2 * t) 0 (mV M 1).toNat (fun k => mV M (49 + k))) 0 0 0) = some (some (vI (mV M 1)), fL (putI (putI (putI (fL M (88 + 2 * t) 0 (mV M 1).toNat (fun k => mV M (49 + k))) 0 0 0) 179 1 0) 179 0 0) 182 (60 * t) (mV M 1).toNat (fun k => mV M (49 + k))) := by
          rw [q_m_copyKnown, m_isTray, bI_k, if_pos c, if_neg (by decide), if_pos (by omega), Int.toNat_natCast, e9, if_neg (by omega), if_pos (by omega), e8, if_neg (by omega), m_ck d (by rw [ev]; exact h.wc) t (by omega), ev]
        refine ⟨_, _, _, hx, hm, ?_⟩
        have hL : ∀ a, a ≠ 182 → a ≠ 88 + 2 * t → (fL (putI (putI (putI (fL M (88 + 2 * t) 0 (mV M 1).toNat (fun k => mV M (49 + k))) 0 0 0) 179 1 0) 179 0 0) 182 (60 * t) (mV M 1).toNat (fun k => mV M (49 + k))).2.1 a = M.2.1 a := by
          intro a g1 g2
          rw [fL_na g1, pI_L, pI_L, pI_L, fL_na g2]
        have hA2 : ∀ a, a ≠ 0 → a ≠ 179 → (fL (putI (putI (putI (fL M (88 + 2 * t) 0 (mV M 1).toNat (fun k => mV M (49 + k))) 0 0 0) 179 1 0) 179 0 0) 182 (60 * t) (mV M 1).toNat (fun k => mV M (49 + k))).1 a = M.1 a := by
          intro a g1 g2
          rw [fL_I, pI_ne g2, pI_ne g2, pI_ne g1, fL_I]
        refine h.trs ?_ (tr_put (t := t) (by omega) h.2.1 hA2 hL ?_ ?_) ?_ ?_
        · intro a g1 g2 g3 g4 g5
          unfold Rc at g1
          exact ⟨hA2 a (by omega) (by omega), hL a g5 (by omega)⟩
        · intro k hk
          rw [fL_nj (by omega), pI_L, pI_L, pI_L, fL_na (by omega)]
        · intro _ k hk _
          by_cases c7 : 0 ≤ k ∧ k < 0 + (mV M 1).toNat
          · rw [fL_na (b := 88 + 2 * t) (by omega), fL_at (a := 182) (by omega), pI_L, pI_L, pI_L, fL_at c7, Nat.sub_zero, show 60 * t + k - 60 * t = k by omega]
          · rw [fL_na (b := 88 + 2 * t) (by omega), fL_nj (a := 182) (by omega), pI_L, pI_L, pI_L, fL_nj c7, fL_na (b := 182) (by omega)]
            exact t5 k hk
        · simp [fL, up2]
        · refine KpH.of (fun k hk => ?_) (fun k hk => ?_) (hL 0 (by omega) (by omega)) (hL 179 (by omega) (by omega))
          · rw [fL_I, pI_ne (by decide), pI_ne (by decide), pI_nk (by omega), fL_I]
          · rw [fL_I, pI_nk (by omega), pI_nk (by omega), pI_ne (by decide), fL_I]
  · refine opR h (-1) 1 ?_ ?_
    · rw [q_x_copyKnown, x_tTr, bI_k]
      unfold tTr
      rw [if_neg c, if_neg (by decide), x_refR]
    · rw [q_m_copyKnown, m_isTray, bI_k, if_neg c, if_pos rfl, m_refR]
/-- one more hand -/
theorem Rl.addH {M M' : Mem} {e : Nat} {V W : Nat → Int} {n : Nat} (h : Rl M e V) (hn : V 1 = (n : Int)) (hn8 : n < 8) (hA : ∀ a, a ≠ e → a ≠ (e + 2) + 14 + 1 * n → M'.1 a = M.1 a) (h8 : M'.1 e 8 = (n : Int) + 1) (hE : ∀ k, k ≠ 8 → M'.1 e k = M.1 e k) (hW1 : W 1 = (n : Int) + 1) (hW : ∀ k, k < 73 → k ≠ 1 → k ≠ 33 + n → k ≠ 41 + n → k ≠ 49 + n → k ≠ 57 + n → W k = V k)
    (g1 : M'.1 ((e + 2) + 14 + 1 * n) 1 = W (33 + n)) (g2 : M'.1 ((e + 2) + 14 + 1 * n) 2 = W (41 + n)) (g3 : M'.1 ((e + 2) + 14 + 1 * n) 3 = W (49 + n)) (g4 : M'.1 ((e + 2) + 14 + 1 * n) 4 = W (57 + n)) : Rl M' e W := by
  obtain ⟨hc, hs, hp, hh, hq⟩ := h
  have hc' := hc
  unfold Wc at hc'
  have w0 := hW 0 (by omega) (by omega) (by omega) (by omega) (by omega) (by omega)
  have w2 := hW 2 (by omega) (by omega) (by omega) (by omega) (by omega) (by omega)
  refine ⟨?_, ?_, ?_, ?_, ?_⟩
  · unfold Wc
    rw [w0, w2, hW1]; omega
  · rw [w0, w2, hW1, hW 3 (by omega) (by omega) (by omega) (by omega) (by omega) (by omega), hW 4 (by omega) (by omega) (by omega) (by omega) (by omega) (by omega), hW 5 (by omega) (by omega) (by omega) (by omega) (by omega) (by omega), hW 6 (by omega) (by omega) (by omega) (by omega) (by omega) (by omega), hW 7 (by omega) (by omega) (by omega) (by omega) (by omega) (by omega), hW 8 (by omega) (by omega) (by omega) (by omega) (by omega) (by omega), sWr_c (V := V) w0 (fun p _ => hW _ (by omega) (by omega) (by omega) (by omega) (by omega) (by omega)), h8, hE 0 (by omega), hE 1 (by omega), hE 2 (by omega), hE 3 (by omega), hE 4 (by omega), hE 5 (by omega), hE 6 (by omega), hE 7 (by omega), hE 9 (by omega)]
    obtain ⟨s0, s1, s2, s3, s4, s5, s6, s7, s8, s9⟩ := hs
    exact ⟨s0, s1, s2, s3, s4, s5, s6, s7, rfl, s9⟩
  · intro p h1
    rw [w0] at h1
    rw [hA _ (by omega) (by omega), hW _ (by omega) (by omega) (by omega) (by omega) (by omega) (by omega), hW _ (by omega) (by omega) (by omega) (by omega) (by omega) (by omega), hW _ (by omega) (by omega) (by omega) (by omega) (by omega) (by omega)]
    exact hp p h1
  · intro p h1
    rw [hW1] at h1
    by_cases c : p = n
    · subst c
      exact ⟨g1, g2, g3, g4⟩
    · rw [hA _ (by omega) (by omega), hW _ (by omega) (by omega) (by omega) (by omega) (by omega) (by omega), hW _ (by omega) (by omega) (by omega) (by omega) (by omega) (by omega), hW _ (by omega) (by omega) (by omega) (by omega) (by omega) (by omega), hW _ (by omega) (by omega) (by omega) (by omega) (by omega) (by omega)]
      exact hh p (by omega)
  · intro p h1
    rw [w2] at h1
    rw [hA _ (by omega) (by omega), hW _ (by omega) (by omega) (by omega) (by omega) (by omega) (by omega), hW _ (by omega) (by omega) (by omega) (by omega) (by omega) (by omega)]
    exact hq p h1
end Ops4
