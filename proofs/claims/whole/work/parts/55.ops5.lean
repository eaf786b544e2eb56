/-! a hand hired; pace; tries; the worst loss -/
section Ops5
variable {M : Mem} (d : Nat)
def vHire (V : Nat → Int) (n : Nat) (a b : Int) : Nat → Int := up1 (up1 (up1 (up1 (up1 V (33 + n) a) (41 + n) b) (49 + n) 0) (57 + n) 0) 1 ((n : Int) + 1)
theorem vHire_n {V : Nat → Int} {n : Nat} {a b : Int} {k : Nat} (h1 : k ≠ 1) (h2 : k ≠ 33 + n) (h3 : k ≠ 41 + n) (h4 : k ≠ 49 + n) (h5 : k ≠ 57 + n) : vHire V n a b k = V k := by
  unfold vHire
  rw [up1_n h1, up1_n h5, up1_n h4, up1_n h3, up1_n h2]
theorem vHire_1 {V : Nat → Int} {n : Nat} {a b : Int} : vHire V n a b 1 = (n : Int) + 1 := up1_s
theorem vHire_a {V : Nat → Int} {n : Nat} {a b : Int} : vHire V n a b (33 + n) = a ∧ vHire V n a b (41 + n) = b ∧ vHire V n a b (49 + n) = 0 ∧ vHire V n a b (57 + n) = 0 := by
  unfold vHire
  refine ⟨?_, ?_, ?_, ?_⟩
  · rw [up1_n (by omega), up1_n (by omega), up1_n (by omega), up1_n (by omega), up1_s]
  · rw [up1_n (by omega), up1_n (by omega), up1_n (by omega), up1_s]
  · rw [up1_n (by omega), up1_n (by omega), up1_s]
  · rw [up1_n (by omega), up1_s]
theorem wf_hire {V : Nat → Int} {n : Nat} {a b : Int} (h : Wf V) (hn : V 1 = (n : Int)) (hn8 : n < 8) (ha : 0 ≤ a ∧ a ≤ 99) (hb : 0 ≤ b ∧ b ≤ 99) : Wf (vHire V n a b) := by
  have hc := h.1
  unfold Wc at hc
  have hU : ∀ k, k < 33 → k ≠ 1 → vHire V n a b k = V k := fun k g1 g2 => vHire_n g2 (by omega) (by omega) (by omega) (by omega)
  have hU2 : ∀ k, 65 ≤ k → vHire V n a b k = V k := fun k g1 => vHire_n (by omega) (by omega) (by omega) (by omega) (by omega)
  obtain ⟨w1, w2, w3, w4⟩ := vHire_a (V := V) (n := n) (a := a) (b := b)
  obtain ⟨q0, q3, q4, q5, q6, q7, q8, hp, hh, hq⟩ := h
  refine ⟨?_, ?_, ?_, ?_, ?_, ?_, ?_, ?_, ?_, ?_⟩
  · unfold Wc
    rw [hU 0 (by omega) (by omega), hU 2 (by omega) (by omega), vHire_1]; omega
  · rw [hU 3 (by omega) (by omega)]; exact q3
  · rw [hU 4 (by omega) (by omega)]; exact q4
  · rw [hU 5 (by omega) (by omega)]; exact q5
  · rw [hU 6 (by omega) (by omega)]; exact q6
  · rw [hU 7 (by omega) (by omega)]; exact q7
  · rw [hU 8 (by omega) (by omega)]; exact q8
  · intro p h1
    rw [hU 0 (by omega) (by omega)] at h1
    rw [hU (9 + p) (by omega) (by omega), hU (15 + p) (by omega) (by omega), hU (21 + p) (by omega) (by omega), hU (27 + p) (by omega) (by omega)]
    exact hp p h1
  · intro p h1
    rw [vHire_1] at h1
    by_cases c : p = n
    · subst c
      rw [w1, w2, w3, w4]; omega
    · rw [vHire_n (k := 33 + p) (by omega) (by omega) (by omega) (by omega) (by omega), vHire_n (k := 41 + p) (by omega) (by omega) (by omega) (by omega) (by omega), vHire_n (k := 49 + p) (by omega) (by omega) (by omega) (by omega) (by omega), vHire_n (k := 57 + p) (by omega) (by omega) (by omega) (by omega) (by omega)]
      exact hh p (by omega)
  · intro p h1
    rw [hU 2 (by omega) (by omega)] at h1
    rw [hU2 _ (by omega), hU2 _ (by omega)]
    exact hq p h1
theorem o_hire (h : Inv M) (a b : Int) : OpI d j_x_hire j_m_hire [vI a, vI b] M := by
  have hc := h.wc
  unfold Wc at hc
  have h8 : M.1 11 8 = mV M 1 := h.rl.2.1.2.2.2.2.2.2.2.2.1
  by_cases c1 : 0 ≤ a ∧ a ≤ 99
  · by_cases c2 : 0 ≤ b ∧ b ≤ 99
    · have hJ : ∀ (s : Int), (putI (putI (putI M 0 0 s) 179 1 0) 179 0 0).1 184 1 = mV M 1 := fun s => congrFun mV_bg 1
      by_cases c3 : mV M 1 < 8
      · obtain ⟨n, hn⟩ : ∃ n : Nat, mV M 1 = (n : Int) := ⟨(mV M 1).toNat, by omega⟩
        have hx : ∃ M1, C2 d j_x_hire [vR 11 0, vI a, vI b] M = some (some (vI (n : Int)), putI M1 0 0 0) ∧ (∀ q, q ≠ 11 → q ≠ (11 + 2) + 14 + 1 * n → M1.1 q = M.1 q) ∧ M1.1 11 8 = (n : Int) + 1 ∧ (∀ k, k ≠ 8 → M1.1 11 k = M.1 11 k) ∧ M1.1 ((11 + 2) + 14 + 1 * n) 1 = a ∧ M1.1 ((11 + 2) + 14 + 1 * n) 2 = b ∧ M1.1 ((11 + 2) + 14 + 1 * n) 3 = 0 ∧ M1.1 ((11 + 2) + 14 + 1 * n) 4 = 0 ∧ (∀ q, q ≠ (11 + 2) + 14 + 1 * n → M1.2.1 q = M.2.1 q) ∧ M1.2.1 ((11 + 2) + 14 + 1 * n) 0 = 0 := by
          refine ⟨putI (putI (putI (putI (putL (putI M 11 8 (w32 (mV M 1 + 1))) ((11 + 2) + 14 + 1 * (mV M 1).toNat) 0 0) ((11 + 2) + 14 + 1 * (mV M 1).toNat) 3 0) ((11 + 2) + 14 + 1 * (mV M 1).toNat) 4 0) ((11 + 2) + 14 + 1 * (mV M 1).toNat) 1 a) ((11 + 2) + 14 + 1 * (mV M 1).toNat) 2 b, ?_, ?_, ?_, ?_, ?_, ?_, ?_, ?_, ?_, ?_⟩
          · rw [q_x_hire, x_within, bI_k, if_pos c1, if_neg (by decide), x_within, bI_k, if_pos c2, if_neg (by decide), h8, if_pos c3, q_em_addHand, h8, if_pos (by omega), bR_k, x_ansR, pI_ne (by omega), pI_ne (by omega), pI_ne (by omega), pI_ne (by omega), pL_I, pI_s, w32s (x := mV M 1 + 1) (by omega), w32s (by omega), hn, Int.add_sub_cancel]
          · intro q g1 g2
            rw [show (mV M 1).toNat = n by omega, pI_ne g2, pI_ne g2, pI_ne g2, pI_ne g2, pL_I, pI_ne g1]
          · rw [pI_ne (by omega), pI_ne (by omega), pI_ne (by omega), pI_ne (by omega), pL_I, pI_s, w32s (by omega), hn]
          · intro k hk
            rw [pI_ne (by omega), pI_ne (by omega), pI_ne (by omega), pI_ne (by omega), pL_I, pI_nk hk]
          · rw [show (mV M 1).toNat = n by omega, pI_nk (by decide), pI_s]
          · rw [show (mV M 1).toNat = n by omega, pI_s]
          · rw [show (mV M 1).toNat = n by omega, pI_nk (by decide), pI_nk (by decide), pI_nk (by decide), pI_s]
          · rw [show (mV M 1).toNat = n by omega, pI_nk (by decide), pI_nk (by decide), pI_s]
          · intro q g1
            rw [show (mV M 1).toNat = n by omega, pI_L, pI_L, pI_L, pI_L, pL_ne g1, pI_L]
          · rw [show (mV M 1).toNat = n by omega, pI_L, pI_L, pI_L, pI_L, pL_s]
        obtain ⟨M1, e1, f1, f2, f3, f4, f5, f6, f7, f8, f9⟩ := hx
        have ev : mV (putI (putI (putI M1 0 0 0) 179 1 0) 179 0 0) = mV M := by
          rw [mV_bg]
          funext k
          show M1.1 184 k = M.1 184 k
          rw [f1 184 (by omega) (by omega)]
        have e5 : (putI (putI (putI M1 0 0 0) 179 1 0) 179 0 0).1 184 1 = (n : Int) := (congrFun ev 1).trans hn
        have hm : C2 d j_m_hire [vR 12 179, vI a, vI b] (putI M1 0 0 0) = some (some (vI (n : Int)), setC (putL (putI (putI (putI M1 0 0 0) 179 1 0) 179 0 0) 187 (6 + n) 0) (vHire (mV M) n a b)) := by
          rw [q_m_hire, m_isIn, bI_k, if_pos c1, if_neg (by decide), m_isIn, bI_k, if_pos c2, if_neg (by decide), e5, if_neg (by omega), w32s (x := 6 + (n : Int)) (by omega), if_pos (by omega), w32s (x := 33 + (n : Int)) (by omega), if_pos (by omega), w32s (x := 41 + (n : Int)) (by omega), if_pos (by omega), w32s (x := 49 + (n : Int)) (by omega), if_pos (by omega), w32s (x := 57 + (n : Int)) (by omega), if_pos (by omega), show (6 + (n : Int)).toNat = 6 + n by omega, show (33 + (n : Int)).toNat = 33 + n by omega, show (41 + (n : Int)).toNat = 41 + n by omega, show (49 + (n : Int)).toNat = 49 + n by omega, show (57 + (n : Int)).toNat = 57 + n by omega, put_set0 (k := 33 + n), put_set, put_set, put_set, set_at, put_set, up1_n (j := 1) (by omega), up1_n (j := 1) (by omega), up1_n (j := 1) (by omega), up1_n (j := 1) (by omega), mV_l, ev, hn, w32s (by omega)]
          rfl
        refine ⟨_, _, _, e1, hm, ?_⟩
        have hA : ∀ q, q ≠ 0 → q ≠ 179 → q ≠ 184 → (setC (putL (putI (putI (putI M1 0 0 0) 179 1 0) 179 0 0) 187 (6 + n) 0) (vHire (mV M) n a b)).1 q = M1.1 q := by
          intro q g1 g2 g3
          rw [set_ne g3, pL_I, pI_ne g2, pI_ne g2, pI_ne g1]
        have hL : ∀ q, q ≠ 187 → (setC (putL (putI (putI (putI M1 0 0 0) 179 1 0) 179 0 0) 187 (6 + n) 0) (vHire (mV M) n a b)).2.1 q = M1.2.1 q := by
          intro q g1
          show (putL (putI (putI (putI M1 0 0 0) 179 1 0) 179 0 0) 187 (6 + n) 0).2.1 q = _
          rw [pL_ne g1, pI_L, pI_L, pI_L]
        have hL7 : ∀ k, (setC (putL (putI (putI (putI M1 0 0 0) 179 1 0) 179 0 0) 187 (6 + n) 0) (vHire (mV M) n a b)).2.1 187 k = if k = 6 + n then 0 else M.2.1 187 k := by
          intro k
          show (putL (putI (putI (putI M1 0 0 0) 179 1 0) 179 0 0) 187 (6 + n) 0).2.1 187 k = _
          by_cases g : k = 6 + n
          · rw [if_pos g, g, pL_s]
          · rw [if_neg g, pL_nk g, pI_L, pI_L, pI_L, f8 187 (by omega)]
        refine h.emp (vHire (mV M) n a b) (fun k hk => vHire_n (by omega) (by omega) (by omega) (by omega) (by omega)) (vHire_n (by omega) (by omega) (by omega) (by omega) (by omega)) (by rw [vHire_1]; omega) mV_set ?_ (wf_hire h.wf hn (by omega) c1 c2) ?_ ?_ ?_ ?_ ?_ ?_
        · refine Rl.cong (fun q g1 g2 => hA q (by omega) (by omega) (by omega)) ?_
          exact Rl.addH h.rl hn (by omega) f1 f2 f3 vHire_1 (fun k _ g1 g2 g3 g4 g5 => vHire_n g1 g2 g3 g4 g5) (f4.trans vHire_a.1.symm) (f5.trans vHire_a.2.1.symm) (f6.trans vHire_a.2.2.1.symm) (f7.trans vHire_a.2.2.2.symm)
        · intro q g1 g2 g3 g4
          unfold Rc at g1
          rw [hA q (by omega) (by omega) g2, hL q g3, f1 q (by omega) (by omega), f8 q (by omega)]
          exact ⟨rfl, rfl⟩
        · intro q g1 g2
          rw [hA q (by omega) (by omega) (by omega), f1 q (by omega) (by omega)]
        · have hnm := h.2.2.2.1.2.2.1
          unfold NmR at hnm ⊢
          rw [blk_0] at hnm ⊢
          rw [mV_set]
          refine ⟨fun p hp => ?_, fun p hp => ?_⟩
          · rw [vHire_n (by omega) (by omega) (by omega) (by omega) (by omega)] at hp
            rw [hL _ (by omega), f8 _ (by omega), hL7, if_neg (by omega)]
            exact hnm.1 p hp
          · rw [vHire_1] at hp
            by_cases z : p = n
            · subst z
              rw [hL _ (by omega), f9, hL7, if_pos (by omega)]
            · rw [hL _ (by omega), f8 _ (by omega), hL7, if_neg (by omega)]
              exact hnm.2 p (by omega)
        · intro k hk
          rw [hL7, if_neg (by omega)]
        · rw [set_ne (by decide), set_ne (by decide), pL_I, pI_ne (by decide), pI_ne (by decide), pI_s, pI_s]
        · refine KpH.of (fun k hk => ?_) (fun k hk => ?_) ?_ ?_
          · rw [set_ne (by decide), pL_I, pI_ne (by decide), pI_ne (by decide), pI_nk (by omega), f1 0 (by omega) (by omega)]
          · rw [set_ne (by decide), pL_I, pI_nk (by omega), pI_nk (by omega), pI_ne (by decide), f1 179 (by omega) (by omega)]
          · rw [hL 0 (by omega), f8 0 (by omega)]
          · rw [hL 179 (by omega), f8 179 (by omega)]
      · refine opR h (-1) 7 ?_ ?_
        · rw [q_x_hire, x_within, bI_k, if_pos c1, if_neg (by decide), x_within, bI_k, if_pos c2, if_neg (by decide), h8, if_neg c3, x_refR]
        · rw [q_m_hire, m_isIn, bI_k, if_pos c1, if_neg (by decide), m_isIn, bI_k, if_pos c2, if_neg (by decide), hJ, if_pos (by omega), m_refR]
    · refine opR h (-1) 5 ?_ ?_
      · rw [q_x_hire, x_within, bI_k, if_pos c1, if_neg (by decide), x_within, bI_k, if_neg c2, if_pos rfl, x_refR]
      · rw [q_m_hire, m_isIn, bI_k, if_pos c1, if_neg (by decide), m_isIn, bI_k, if_neg c2, if_pos rfl, m_refR]
  · refine opR h (-1) 5 ?_ ?_
    · rw [q_x_hire, x_within, bI_k, if_neg c1, if_pos rfl, x_refR]
    · rw [q_m_hire, m_isIn, bI_k, if_neg c1, if_pos rfl, m_refR]
end Ops5
