section Live2
variable {M : Mem} (d : Nat)
def lvM (Y : Mem) : Mem := putI (putI (putI (putI (putI (putI Y 190 0 (Y.1 179 38)) 190 1 (Y.1 179 39)) 190 2 (Y.1 179 40)) 190 3 (Y.1 179 41)) 190 4 (Y.1 179 42)) 179 34 1
theorem lv_o {Y : Mem} {a : Nat} (h1 : a ≠ 190) (h2 : a ≠ 179) : (lvM Y).1 a = Y.1 a := by
  unfold lvM
  rw [pI_ne h2, pI_ne h1, pI_ne h1, pI_ne h1, pI_ne h1, pI_ne h1]
theorem lv_9 {Y : Mem} {k : Nat} (h : k ≠ 34) : (lvM Y).1 179 k = Y.1 179 k := by
  unfold lvM
  rw [pI_nk h, pI_ne (by decide), pI_ne (by decide), pI_ne (by decide), pI_ne (by decide), pI_ne (by decide)]
theorem lv_34 {Y : Mem} : (lvM Y).1 179 34 = 1 := pI_s
theorem lv_190 {Y : Mem} {j : Nat} (h : j < 5) : (lvM Y).1 190 j = Y.1 179 (38 + j) := by
  unfold lvM
  rw [pI_ne (by decide)]
  have : j = 0 ∨ j = 1 ∨ j = 2 ∨ j = 3 ∨ j = 4 := by omega
  rcases this with g | g | g | g | g <;> subst g <;> simp [up2]
theorem lv_mV {Y : Mem} : mV (lvM Y) = mV Y := funext fun k => congrFun (lv_o (by decide) (by decide)) k
theorem o_live (h : Inv M) (hd : 3 ≤ d) (p : Int) : OpI d j_x_live j_m_live [vI p] M := by
  have hE := h.2.2.2.1
  have hP := hE.2.2.2
  rw [blk_0] at hP
  have e7 : M.1 15 7 = mV M 73 := hP.1
  have c7 := hP.2.1
  by_cases c : 0 ≤ p ∧ p ≤ 9999
  · by_cases c2 : mV M 73 = 0
    · refine opR h (-1) 8 ?_ ?_
      · rw [q_x_live, x_within, bI_k, if_pos c, if_neg (by decide), e7, if_pos c2, x_refR]
      · have hJ : (putI (putI (putI M 0 0 8) 179 1 0) 179 0 0).1 184 73 = mV M 73 := congrFun mV_bg 73
        rw [q_m_live, m_isIn, bI_k, if_pos c, if_neg (by decide), hJ, if_pos c2, m_refR]
    · obtain ⟨a1, a2, a3, a4, a5, a6, a7, a8, a9, a10, a11⟩ := h.1
      have h73 : mV M 73 = 1 := by omega
      obtain ⟨X', Y0, r1, _, _, r4, _⟩ := run_life (lf := 83) (e := 11) (X := M) (Y := M) d d (by omega) h.rl h.wf hP h73 p (by omega) hd
      let K1 := putI (putI X' 0 18 1) 0 0 0
      let K2 := putI (putI K1 179 1 0) 179 0 0
      have kK : ∀ a, a ≠ 0 → a ≠ 179 → K2.1 a = X'.1 a := fun a g0 g9 => by
        show (putI (putI (putI (putI X' 0 18 1) 0 0 0) 179 1 0) 179 0 0).1 a = X'.1 a
        rw [pI_ne g9, pI_ne g9, pI_ne g0, pI_ne g0]
      have kX : ∀ a, ¬ (11 ≤ a ∧ a < 39) → a ≠ 83 → a ≠ 84 → X'.1 a = M.1 a := r4.1
      have mK : mV K2 = mV M := funext fun k => by
        show K2.1 184 k = M.1 184 k
        rw [kK 184 (by decide) (by decide), kX 184 (by omega) (by omega) (by omega)]
      obtain ⟨X2, Y', s1, s2, s3, s4, s5⟩ := run_life (lf := 83) (e := 11) (X := M) (Y := K2) d d (by omega) (by rw [mK]; exact h.rl) (by rw [mK]; exact h.wf) (by rw [mK]; exact hP) (by rw [mK]; exact h73) p (by omega) hd
      have hX : X2 = X' := by
        rw [r1] at s1
        injection s1 with s1
        injection s1 with _ s1
        exact s1.symm
      subst hX
      have l0 : X2.1 83 0 = Y'.1 179 37 := s3.2.2.1 0 (by decide)
      have kA : ∀ a, a ≠ 0 → a ≠ 179 → a ≠ 184 → a ≠ 190 → (lvM Y').1 a = X2.1 a := fun a g0 g9 g4 g190 => by
        rw [lv_o g190 g9, s5.1 a g9 g4, kK a g0 g9]
      have k0 : ∀ j, (lvM Y').1 0 j = K1.1 0 j := fun j => by
        rw [lv_o (by decide) (by decide), s5.1 0 (by decide) (by decide)]
        show (putI (putI K1 179 1 0) 179 0 0).1 0 j = _
        rw [pI_ne (by decide), pI_ne (by decide)]
      have k0n : ∀ j, j ≠ 0 → j ≠ 18 → (lvM Y').1 0 j = M.1 0 j := fun j g0 g1 => by
        rw [k0]
        show (putI (putI X2 0 18 1) 0 0 0).1 0 j = _
        rw [pI_nk g0, pI_nk g1, kX 0 (by omega) (by omega) (by omega)]
      have k9n : ∀ j, j ≠ 0 → j ≠ 1 → j ≠ 34 → ¬ (35 ≤ j ∧ j ≤ 42) → (lvM Y').1 179 j = M.1 179 j := fun j g0 g1 g2 g3 => by
        rw [lv_9 g2, s5.2.2.1 j g3]
        show (putI (putI (putI (putI X2 0 18 1) 0 0 0) 179 1 0) 179 0 0).1 179 j = _
        rw [pI_nk g0, pI_nk g1, pI_ne (by decide), pI_ne (by decide), kX 179 (by omega) (by omega) (by omega)]
      have k00 : (lvM Y').1 0 0 = 0 := by rw [k0]; exact pI_s
      have k018 : (lvM Y').1 0 18 = 1 := by
        rw [k0]
        show (putI (putI X2 0 18 1) 0 0 0).1 0 18 = _
        rw [pI_nk (by decide), pI_s]
      have k90 : (lvM Y').1 179 0 = 0 := by
        rw [lv_9 (by decide), s5.2.2.1 0 (by omega)]
        exact pI_s
      have kL : (lvM Y').2.1 = M.2.1 := by
        show Y'.2.1 = M.2.1
        rw [s5.2.1]
        show X2.2.1 = M.2.1
        rw [r4.2.2]
      refine ⟨Y'.1 179 37, K1, lvM Y', ?_, ?_, ?_⟩
      · rw [q_x_live, x_within, bI_k, if_pos c, if_neg (by decide), e7, if_neg c2, r1, bV_k, pI_ne (by decide), l0, x_ansR]
      · have hJ : K2.1 184 73 = mV M 73 := congrFun mK 73
        rw [q_m_live, m_isIn, bI_k, if_pos c, if_neg (by decide)]
        show (if K2.1 184 73 = 0 then _ else bV (C2 d j_m_runsSteps [vR 12 179, vI p] K2) _) = _
        rw [hJ, if_neg c2, s2, bV_k]
        simp only [up2_ne (show (179 : Nat) ≠ 190 by decide), up2_nk (show (37 : Nat) ≠ 34 by decide)]
        rfl
      · have l := s3.2.2.1
        refine h.live (fun a g1 g2 g3 g4 g5 => ?_) kL (fun k hk => ?_) ?_ ?_ (fun a g1 g2 => ?_) ?_ (k0n 5 (by decide) (by decide)) (k0n 14 (by decide) (by decide)) ?_
        · rw [kA a (by unfold Rc at g1; omega) (by unfold Rc at g1; omega) g4 g3, kX a g5 g2 (by unfold Rc at g1; omega)]
        · rw [lv_mV, s5.2.2.2 k (by omega), mK]
        · rw [lv_mV]
          exact s3.1.cong fun a g1 g2 => kA a (by omega) (by omega) (by omega) (by omega)
        · rw [lv_mV]; exact s3.2.1
        · rw [kA a (by omega) (by omega) (by omega) (by omega), r4.2.1 a (by omega) (by omega)]
        · unfold Hd
          rw [k00, k90, k018, lv_34, k0n 5 (by decide) (by decide), k0n 9 (by decide) (by decide), k0n 10 (by decide) (by decide), k0n 14 (by decide) (by decide), k9n 8 (by decide) (by decide) (by decide) (by decide), k9n 10 (by decide) (by decide) (by decide) (by decide), k9n 11 (by decide) (by decide) (by decide) (by decide), k9n 24 (by decide) (by decide) (by decide) (by decide), kL]
          exact ⟨rfl, a2, a3, a4, a5, a6, a7, rfl, a9, a10, Or.inr rfl⟩
        · intro _
          have q83 : (lvM Y').1 83 = X2.1 83 := kA 83 (by decide) (by decide) (by decide) (by decide)
          rw [q83, lv_190 (by decide), lv_190 (by decide), lv_190 (by decide), lv_190 (by decide), lv_190 (by decide)]
          exact ⟨l 1 (by decide), l 2 (by decide), l 3 (by decide), l 4 (by decide), l 5 (by decide), s3.2.2.2.2.2.1⟩
  · refine opR h (-1) 5 ?_ ?_
    · rw [q_x_live, x_within, bI_k, if_neg c, if_pos rfl, x_refR]
    · rw [q_m_live, m_isIn, bI_k, if_neg c, if_pos rfl, m_refR]
end Live2
