/-! the tape -/
def tpM (M : Mem) (q k a n m : Nat) (f : Nat → Int) : Mem := putI (fI M a n m f) q k ((n + m : Nat) : Int)
theorem tp_0 {M : Mem} {q k a n : Nat} {f : Nat → Int} (h : M.1 q k = (n : Int)) : tpM M q k a n 0 f = M := by
  unfold tpM
  rw [fI_0, Nat.add_zero]
  refine Prod.ext (funext fun b => funext fun j => ?_) rfl
  show up2 M.1 q k (n : Int) b j = M.1 b j
  unfold up2
  by_cases c : b = q ∧ j = k
  · rw [if_pos c, c.1, c.2, h]
  · rw [if_neg c]
theorem tp_s {M : Mem} {q k a n m : Nat} {f : Nat → Int} {v w : Int} (hv : v = f m) (hw : w = ((n + m + 1 : Nat) : Int)) (hq : q ≠ a) : putI (putI (tpM M q k a n m f) a (n + m) v) q k w = tpM M q k a n (m + 1) f := by
  unfold tpM
  rw [hv, hw, ← fI_s]
  refine Prod.ext (funext fun b => funext fun j => ?_) rfl
  show up2 (up2 (up2 (fI M a n m f).1 q k _) a (n + m) (f m)) q k _ b j = up2 (up2 (fI M a n m f).1 a (n + m) (f m)) q k _ b j
  unfold up2
  by_cases c : b = q ∧ j = k
  · rw [if_pos c, if_pos c]; rfl
  · rw [if_neg c, if_neg c]
    by_cases c2 : b = a ∧ j = n + m
    · rw [if_pos c2, if_neg c]
    · rw [if_neg c2, if_neg c]
theorem tp_n {M : Mem} {q k a n m : Nat} {f : Nat → Int} : (tpM M q k a n m f).1 q k = ((n + m : Nat) : Int) := pI_s
section Feed
variable {M : Mem} (d : Nat) {n : Nat} {f : Nat → Int}
theorem x_lay1 {p s : Int} {m : Nat} (hs : 0 ≤ s) (hn : n + m < 900) (hf : f m = x8 (x8 (xshr p s))) : E2 d r_x_feedFour 2 [(0, vR 11 0), (1, vI p), (2, vI s)] [] (tpM M 0 5 2 n m f) = E2 d r_x_feedFour 2 [(0, vR 11 0), (1, vI p), (2, vI (w32 (s + (-8))))] [] (tpM M 0 5 2 n (m + 1) f) := by
  rw [q_x_feedFour_2, if_neg (by omega), tp_n, if_pos (by omega), if_pos (by omega), Int.toNat_natCast, pI_ne (by decide), tp_n, tp_s hf.symm (by rw [w32s (by omega)]; omega) (by decide)]
theorem m_lay1 {p s t : Int} {m : Nat} (hs : 0 ≤ s ∧ s ≤ 3) (hn : n + m < 900) (ht : t = 8 * s) (hf : f m = x8 (x8 (xshr p t))) : E2 d r_m_lay 2 [(0, vR 12 179), (1, vI p), (2, vI s)] [] (tpM M 179 8 183 n m f) = E2 d r_m_lay 2 [(0, vR 12 179), (1, vI p), (2, vI (s - 1))] [] (tpM M 179 8 183 n (m + 1) f) := by
  rw [q_m_lay_2, if_neg (by omega), tp_n, if_pos (by omega), Int.toNat_natCast, pI_ne (by decide), tp_n, w32s (x := 8 * s) (by omega), ← ht, tp_s hf.symm (by rw [w32s (by omega)]; omega) (by decide), w32s (by omega)]
  rfl
/-- the four bytes of a number -/
def byF (p : Int) (f : Nat → Int) (m : Nat) : Prop := f m = x8 (x8 (xshr p 24)) ∧ f (m + 1) = x8 (x8 (xshr p 16)) ∧ f (m + 2) = x8 (x8 (xshr p 8)) ∧ f (m + 3) = x8 (x8 (xshr p 0))
theorem x_lay4 {p : Int} {m : Nat} (hn : n + m + 4 ≤ 900) (hf : byF p f m) : C2 d j_x_feedFour [vR 11 0, vI p] (tpM M 0 5 2 n m f) = some (none, tpM M 0 5 2 n (m + 4) f) := by
  obtain ⟨h0, h1, h2, h3⟩ := hf
  rw [q_x_feedFour, x_lay1 d (by decide) (by omega) h0, show w32 (24 + (-8)) = 16 from rfl, x_lay1 d (by decide) (by omega) h1, show w32 (16 + (-8)) = 8 from rfl, x_lay1 d (by decide) (by omega) h2, show w32 (8 + (-8)) = 0 from rfl, x_lay1 d (by decide) (by omega) h3, q_x_feedFour_2, if_pos (by decide)]
theorem m_lay4 {p : Int} {m : Nat} (hn : n + m + 4 ≤ 900) (hf : byF p f m) : C2 d j_m_lay [vR 12 179, vI p] (tpM M 179 8 183 n m f) = some (none, tpM M 179 8 183 n (m + 4) f) := by
  obtain ⟨h0, h1, h2, h3⟩ := hf
  rw [q_m_lay, m_lay1 d (by decide) (by omega) (by decide) h0, show (3 - 1 : Int) = 2 from rfl, m_lay1 d (by decide) (by omega) (by decide) h1, show (2 - 1 : Int) = 1 from rfl, m_lay1 d (by decide) (by omega) (by decide) h2, show (1 - 1 : Int) = 0 from rfl, m_lay1 d (by decide) (by omega) (by decide) h3, q_m_lay_2, if_pos (by decide)]
def byO (p1 p2 p3 p4 p5 : Int) (j : Nat) : Int := [x8 (x8 (xshr p1 24)), x8 (x8 (xshr p1 16)), x8 (x8 (xshr p1 8)), x8 (x8 (xshr p1 0)), x8 (x8 (xshr p2 24)), x8 (x8 (xshr p2 16)), x8 (x8 (xshr p2 8)), x8 (x8 (xshr p2 0)), x8 (x8 (xshr p3 24)), x8 (x8 (xshr p3 16)), x8 (x8 (xshr p3 8)), x8 (x8 (xshr p3 0)), x8 (x8 (xshr p4 24)), x8 (x8 (xshr p4 16)), x8 (x8 (xshr p4 8)), x8 (x8 (xshr p4 0)), x8 (x8 (xshr p5 24)), x8 (x8 (xshr p5 16)), x8 (x8 (xshr p5 8)), x8 (x8 (xshr p5 0))].getD j 0
theorem x8_b {x : Int} : -128 ≤ x8 x ∧ x8 x ≤ 127 := by unfold x8; omega
theorem byO_b {p1 p2 p3 p4 p5 : Int} {j : Nat} : -128 ≤ byO p1 p2 p3 p4 p5 j ∧ byO p1 p2 p3 p4 p5 j ≤ 127 := by
  have e : ∀ (l : List Int), (∀ x ∈ l, -128 ≤ x ∧ x ≤ 127) → -128 ≤ l.getD j 0 ∧ l.getD j 0 ≤ 127 := by
    intro l hl
    rw [List.getD_eq_getElem?_getD]
    cases hg : l[j]? with
    | none => exact ⟨by decide, by decide⟩
    | some x => exact hl x (List.mem_of_getElem? hg)
  refine e _ ?_
  simp only [List.forall_mem_cons, List.forall_mem_nil, x8_b, and_self, List.not_mem_nil, false_implies, implies_true]
theorem o_feed (p1 p2 p3 p4 p5 : Int) (h : Inv M) : OpI d j_x_feed j_m_feed [vI p1, vI p2, vI p3, vI p4, vI p5] M := by
  have hH := h.1
  unfold Hd at hH
  obtain ⟨a1, a2, a3, a4, a5, a6, a7, a8, a9, a10, a11⟩ := hH
  by_cases c : 880 < M.1 0 5
  · refine ⟨-1, M, putI M 179 1 0, ?_, ?_, ?_⟩
    · rw [q_x_feed, if_pos c]
    · rw [q_m_feed, pI_nk (by decide), if_pos (by rw [← a4, w32s (by omega)]; omega)]
    · exact h.keep (Kp.ofB SameB.rfl.i1) (by simpa [up2] using a1) (by simp [up2, KpH])
  · obtain ⟨n, hn⟩ : ∃ n : Nat, M.1 0 5 = (n : Int) := ⟨(M.1 0 5).toNat, by omega⟩
    let f := byO p1 p2 p3 p4 p5
    let M1 := tpM M 0 5 2 n 20 f
    have hm1 : (putI M1 179 1 0).1 179 8 = (n : Int) := by
      rw [pI_nk (by decide)]
      show (putI (fI M 2 n 20 f) 0 5 _).1 179 8 = _
      rw [pI_ne (by decide), fI_na (by decide), ← a4, hn]
    refine ⟨((n + 20 : Nat) : Int), M1, tpM (putI M1 179 1 0) 179 8 183 n 20 f, ?_, ?_, ?_⟩
    · rw [q_x_feed, if_neg c]
      have e0 : C2 d j_x_feedFour [vR 11 0, vI p1] M = some (none, tpM M 0 5 2 n 4 f) := by
        have := x_lay4 (M := M) d (n := n) (f := f) (p := p1) (m := 0) (by omega) ⟨rfl, rfl, rfl, rfl⟩
        rw [tp_0 hn] at this; exact this
      rw [e0, bV_k, x_lay4 (f := f) d (by omega) ⟨rfl, rfl, rfl, rfl⟩, bV_k, x_lay4 (f := f) d (by omega) ⟨rfl, rfl, rfl, rfl⟩, bV_k, x_lay4 (f := f) d (by omega) ⟨rfl, rfl, rfl, rfl⟩, bV_k, x_lay4 (f := f) d (by omega) ⟨rfl, rfl, rfl, rfl⟩, bV_k, tp_n]
    · rw [q_m_feed, hm1, if_neg (by rw [w32s (by omega)]; omega)]
      have e0 : C2 d j_m_lay [vR 12 179, vI p1] (putI M1 179 1 0) = some (none, tpM (putI M1 179 1 0) 179 8 183 n 4 f) := by
        have := m_lay4 (M := putI M1 179 1 0) d (n := n) (f := f) (p := p1) (m := 0) (by omega) ⟨rfl, rfl, rfl, rfl⟩
        rw [tp_0 hm1] at this; exact this
      rw [e0, bV_k, m_lay4 (f := f) d (by omega) ⟨rfl, rfl, rfl, rfl⟩, bV_k, m_lay4 (f := f) d (by omega) ⟨rfl, rfl, rfl, rfl⟩, bV_k, m_lay4 (f := f) d (by omega) ⟨rfl, rfl, rfl, rfl⟩, bV_k, m_lay4 (f := f) d (by omega) ⟨rfl, rfl, rfl, rfl⟩, bV_k, tp_n]
    · have kI : ∀ b, b ≠ 0 → b ≠ 2 → b ≠ 179 → b ≠ 183 → (tpM (putI M1 179 1 0) 179 8 183 n 20 f).1 b = M.1 b := by
        intro b h0 h2 h9 h3
        show (putI (fI (putI (putI (fI M 2 n 20 f) 0 5 _) 179 1 0) 183 n 20 f) 179 8 _).1 b = M.1 b
        rw [pI_ne h9, fI_na h3, pI_ne h9, pI_ne h0, fI_na h2]
      have k0 : ∀ j, j ≠ 5 → (tpM (putI M1 179 1 0) 179 8 183 n 20 f).1 0 j = M.1 0 j := by
        intro j hj
        show (putI (fI (putI (putI (fI M 2 n 20 f) 0 5 _) 179 1 0) 183 n 20 f) 179 8 _).1 0 j = M.1 0 j
        rw [pI_ne (by decide), fI_na (by decide), pI_ne (by decide), pI_nk hj, fI_na (by decide)]
      have k05 : (tpM (putI M1 179 1 0) 179 8 183 n 20 f).1 0 5 = ((n + 20 : Nat) : Int) := by
        show (putI (fI (putI (putI (fI M 2 n 20 f) 0 5 _) 179 1 0) 183 n 20 f) 179 8 _).1 0 5 = _
        rw [pI_ne (by decide), fI_na (by decide), pI_ne (by decide), pI_s]
      have k9 : ∀ j, j ≠ 8 → j ≠ 1 → (tpM (putI M1 179 1 0) 179 8 183 n 20 f).1 179 j = M.1 179 j := by
        intro j hj h1
        show (putI (fI (putI (putI (fI M 2 n 20 f) 0 5 _) 179 1 0) 183 n 20 f) 179 8 _).1 179 j = M.1 179 j
        rw [pI_nk hj, fI_na (by decide), pI_nk h1, pI_ne (by decide), fI_na (by decide)]
      have k2 : ∀ j, (tpM (putI M1 179 1 0) 179 8 183 n 20 f).1 2 j = (fI M 2 n 20 f).1 2 j := by
        intro j
        show (putI (fI (putI (putI (fI M 2 n 20 f) 0 5 _) 179 1 0) 183 n 20 f) 179 8 _).1 2 j = _
        rw [pI_ne (by decide), fI_na (by decide), pI_ne (by decide), pI_ne (by decide)]
      have k3 : ∀ j, (tpM (putI M1 179 1 0) 179 8 183 n 20 f).1 183 j = if n ≤ j ∧ j < n + 20 then f (j - n) else M.1 183 j := by
        intro j
        show (putI (fI (putI (putI (fI M 2 n 20 f) 0 5 _) 179 1 0) 183 n 20 f) 179 8 _).1 183 j = _
        rw [pI_ne (by decide)]
        by_cases c3 : n ≤ j ∧ j < n + 20
        · rw [fI_at c3, if_pos c3]
        · rw [fI_nj c3, if_neg c3, pI_ne (by decide), pI_ne (by decide), fI_na (by decide)]
      have kL : (tpM (putI M1 179 1 0) 179 8 183 n 20 f).2.1 = M.2.1 := rfl
      have k98 : (tpM (putI M1 179 1 0) 179 8 183 n 20 f).1 179 8 = ((n + 20 : Nat) : Int) := tp_n
      obtain ⟨b1, b2, b3, b4, b5, b6⟩ := h.2
      generalize tpM (putI M1 179 1 0) 179 8 183 n 20 f = M2 at *
      refine ⟨?_, ?_⟩
      · unfold Hd
        rw [kL, k05, k98, k0 0 (by decide), k0 9 (by decide), k0 10 (by decide), k0 14 (by decide), k0 18 (by decide), k9 0 (by decide) (by decide), k9 10 (by decide) (by decide), k9 11 (by decide) (by decide), k9 24 (by decide) (by decide), k9 34 (by decide) (by decide)]
        exact ⟨a1, a2, a3, rfl, a5, a6, a7, a8, by omega, a10, a11⟩
      · rw [k05, k0 14 (by decide), k0 18 (by decide)]
        refine ⟨fun t ht => (b1 t ht).cong fun a ha => ⟨kI a (by omega) (by omega) (by omega) (by omega), by rw [kL]⟩, ?_, b3.cong fun a ha => ⟨kI a (by unfold Ec at ha; omega) (by unfold Ec at ha; omega) (by unfold Ec at ha; omega) (by unfold Ec at ha; omega), by rw [kL]⟩, fun i hi => (b4 i hi).cong fun a ha => ⟨kI a (by unfold Ec at ha; omega) (by unfold Ec at ha; omega) (by unfold Ec at ha; omega) (by unfold Ec at ha; omega), by rw [kL]⟩, ?_, ?_⟩
        · intro k hk
          rw [k2, k3]
          by_cases c3 : n ≤ k ∧ k < n + 20
          · rw [fI_at c3, if_pos c3]
            exact ⟨rfl, byO_b⟩
          · rw [fI_nj c3, if_neg c3]
            exact b2 k (by omega)
        · unfold LvR
          rw [kI 83 (by decide) (by decide) (by decide) (by decide), kI 190 (by decide) (by decide) (by decide) (by decide)]
          exact b5
        · unfold KyR
          rw [kL]; exact b6
end Feed
