section Mark
variable {M : Mem} (d : Nat)
theorem Inv.marks {M2 : Mem} (h : Inv M) (hF : ∀ a, Rc a → a ≠ 184 → a ≠ 187 → ¬ (11 ≤ a ∧ a < 39) → ¬ (95 ≤ a ∧ a < 179) → M2.1 a = M.1 a ∧ M2.2.1 a = M.2.1 a) (hE : EmpR M2 11 0) (hM : ∀ i : Nat, (i : Int) < M2.1 0 14 → EmpR M2 (95 + 28 * i) (i + 1)) (hH : Hd M2) (h5 : M2.1 0 5 = M.1 0 5) (h18 : M2.1 0 18 = M.1 0 18) : Inv M2 := by
  obtain ⟨b1, b2, b3, b4, b5, b6⟩ := h.2
  refine ⟨hH, ?_⟩
  rw [h5, h18]
  refine ⟨fun t ht => (b1 t ht).cong fun a ha => hF a (by unfold Rc; omega) (by omega) (by omega) (by omega) (by omega), ?_, hE, hM, ?_, ?_⟩
  · unfold TpR
    rw [(hF 2 (by unfold Rc; omega) (by omega) (by omega) (by omega) (by omega)).1, (hF 183 (by unfold Rc; omega) (by omega) (by omega) (by omega) (by omega)).1]; exact b2
  · unfold LvR
    rw [(hF 83 (by unfold Rc; omega) (by omega) (by omega) (by omega) (by omega)).1, (hF 190 (by unfold Rc; omega) (by omega) (by omega) (by omega) (by omega)).1]; exact b5
  · unfold KyR
    rw [(hF 4 (by unfold Rc; omega) (by omega) (by omega) (by omega) (by omega)).2]; exact b6
theorem EmpR.nums {e b : Nat} (h : EmpR M e b) : (0 ≤ M.1 e 7 ∧ M.1 e 7 ≤ 6) ∧ (0 ≤ M.1 e 8 ∧ M.1 e 8 ≤ 8) ∧ (0 ≤ M.1 e 9 ∧ M.1 e 9 ≤ 4) ∧ (0 ≤ M.1 (e + 4) 5 ∧ M.1 (e + 4) 5 ≤ 60) ∧ (M.1 (e + 4) 7 = 0 ∨ M.1 (e + 4) 7 = 1) := by
  obtain ⟨h1, h2, h3, h4⟩ := h
  have hc := h1.1
  unfold Wc at hc
  have s7 := h1.2.1.2.2.2.2.2.2.2.1
  have s8 := h1.2.1.2.2.2.2.2.2.2.2.1
  have s9 := h1.2.1.2.2.2.2.2.2.2.2.2
  refine ⟨by omega, by omega, by omega, h4.2.2.1, ?_⟩
  rw [h4.1]; exact h4.2.1
theorem cp_i {a b x : Nat} (hx : x ≠ 184) : (cpM M a b).1 x = M.1 x := by
  show (fI M 184 (345 * b) 345 (fun j => M.1 184 (345 * a + j))).1 x = M.1 x
  exact fI_na hx
theorem cp_l {a b x : Nat} (hx : x ≠ 187) : (cpM M a b).2.1 x = M.2.1 x := by
  unfold cpM
  rw [fL_na hx]
  rfl
theorem cp_b {a b : Nat} : ∀ k, k < 345 → blk (cpM M a b) b k = blk M a k := fun k hk => by
  show (fI M 184 (345 * b) 345 (fun j => M.1 184 (345 * a + j))).1 184 (345 * b + k) = M.1 184 (345 * a + k)
  rw [fI_at (by omega), show 345 * b + k - 345 * b = k by omega]
theorem cp_bn {a b c : Nat} (h : c ≠ b) : ∀ k, k < 345 → blk (cpM M a b) c k = blk M c k := fun k hk => by
  show (fI M 184 (345 * b) 345 (fun j => M.1 184 (345 * a + j))).1 184 (345 * c + k) = M.1 184 (345 * c + k)
  rw [fI_nj (by omega)]
theorem cp_w {a b : Nat} : ∀ k, k < 18 → (cpM M a b).2.1 187 (18 * b + k) = M.2.1 187 (18 * a + k) := fun k hk => by
  unfold cpM
  rw [fL_at (by omega), show 18 * b + k - 18 * b = k by omega]
theorem cp_wn {a b c : Nat} (h : c ≠ b) : ∀ k, k < 18 → (cpM M a b).2.1 187 (18 * c + k) = M.2.1 187 (18 * c + k) := fun k hk => by
  unfold cpM
  rw [fL_nj (by omega)]
  rfl
theorem o_mark (h : Inv M) : OpI d j_x_mark j_m_mark [] M := by
  obtain ⟨a1, a2, a3, a4, a5, a6, a7, a8, a9, a10, a11⟩ := h.1
  by_cases c : M.1 0 14 < 3
  · obtain ⟨m, hm⟩ : ∃ m : Nat, M.1 0 14 = (m : Int) := ⟨(M.1 0 14).toNat, by omega⟩
    have hE := h.2.2.2.1
    obtain ⟨n7, n8, n9, n5, nb⟩ := hE.nums
    have hD : Dj (67 + 28 + 28 * m) 11 := by unfold Dj; omega
    obtain ⟨M1, x1, x2, x3⟩ := em_copy (M := M) d hD n7 n8 n9 n5 nb
    have k0 : M1.1 0 = M.1 0 := (x2 0 (by omega)).1
    have k9 : M1.1 179 = M.1 179 := (x2 179 (by omega)).1
    let K1 := putI (putI M1 0 14 ((m + 1 : Nat) : Int)) 0 0 0
    let K2 := putI (putI (putI K1 179 1 0) 179 0 0) 179 24 ((m + 1 : Nat) : Int)
    have e24 : (putI (putI K1 179 1 0) 179 0 0).1 179 24 = (m : Int) := by
      rw [pI_nk (by decide), pI_nk (by decide)]
      show (putI (putI M1 0 14 _) 0 0 0).1 179 24 = _
      rw [pI_ne (by decide), pI_ne (by decide), k9, ← a7, hm]
    refine ⟨((m + 1 : Nat) : Int), K1, cpM K2 0 (m + 1), ?_, ?_, ?_⟩
    · rw [q_x_mark, if_pos c, if_pos (by omega), hm, Int.toNat_natCast, x1, bV_k, k0, hm, w32s (by omega), pI_s, q_x_answer, bI_k]
      rfl
    · rw [q_m_mark, e24, if_neg (by omega), w32s (by omega), pI_s]
      have := m_copies (M := K2) d (a := 0) (b := m + 1) (by omega) (by omega) (by omega)
      rw [show ((m : Int) + 1) = ((m + 1 : Nat) : Int) by omega]
      rw [show ((0 : Nat) : Int) = 0 from rfl] at this
      rw [this, bV_k, cp_i (by decide), pI_s]
    · have kI : ∀ a, a ≠ 0 → a ≠ 179 → a ≠ 184 → (cpM K2 0 (m + 1)).1 a = M1.1 a := by
        intro a g0 g9 g4
        rw [cp_i g4]
        show (putI (putI (putI (putI (putI M1 0 14 _) 0 0 0) 179 1 0) 179 0 0) 179 24 _).1 a = M1.1 a
        rw [pI_ne g9, pI_ne g9, pI_ne g9, pI_ne g0, pI_ne g0]
      have kL : ∀ a, a ≠ 187 → (cpM K2 0 (m + 1)).2.1 a = M1.2.1 a := by
        intro a g
        rw [cp_l g]
      have kX : ∀ j, j ≠ 0 → j ≠ 14 → (cpM K2 0 (m + 1)).1 0 j = M.1 0 j := by
        intro j g0 g1
        rw [cp_i (by decide)]
        show (putI (putI (putI (putI (putI M1 0 14 _) 0 0 0) 179 1 0) 179 0 0) 179 24 _).1 0 j = M.1 0 j
        rw [pI_ne (by decide), pI_ne (by decide), pI_ne (by decide), pI_nk g0, pI_nk g1, k0]
      have kY : ∀ j, j ≠ 0 → j ≠ 1 → j ≠ 24 → (cpM K2 0 (m + 1)).1 179 j = M.1 179 j := by
        intro j g0 g1 g2
        rw [cp_i (by decide)]
        show (putI (putI (putI (putI (putI M1 0 14 _) 0 0 0) 179 1 0) 179 0 0) 179 24 _).1 179 j = M.1 179 j
        rw [pI_nk g2, pI_nk g0, pI_nk g1, pI_ne (by decide), pI_ne (by decide), k9]
      have k00 : (cpM K2 0 (m + 1)).1 0 0 = 0 := by
        rw [cp_i (by decide)]
        show (putI (putI (putI (putI (putI M1 0 14 _) 0 0 0) 179 1 0) 179 0 0) 179 24 _).1 0 0 = _
        rw [pI_ne (by decide), pI_ne (by decide), pI_ne (by decide), pI_s]
      have k14 : (cpM K2 0 (m + 1)).1 0 14 = ((m + 1 : Nat) : Int) := by
        rw [cp_i (by decide)]
        show (putI (putI (putI (putI (putI M1 0 14 _) 0 0 0) 179 1 0) 179 0 0) 179 24 _).1 0 14 = _
        rw [pI_ne (by decide), pI_ne (by decide), pI_ne (by decide), pI_nk (by decide), pI_s]
      have k90 : (cpM K2 0 (m + 1)).1 179 0 = 0 := by
        rw [cp_i (by decide)]
        show (putI (putI (putI (putI (putI M1 0 14 _) 0 0 0) 179 1 0) 179 0 0) 179 24 _).1 179 0 = _
        rw [pI_nk (by decide), pI_s]
      have k24 : (cpM K2 0 (m + 1)).1 179 24 = ((m + 1 : Nat) : Int) := by
        rw [cp_i (by decide)]
        exact pI_s
      have kB : ∀ c k, blk K2 c k = blk M c k := by
        intro c k
        show (putI (putI (putI (putI (putI M1 0 14 _) 0 0 0) 179 1 0) 179 0 0) 179 24 _).1 184 (345 * c + k) = M.1 184 (345 * c + k)
        rw [pI_ne (by decide), pI_ne (by decide), pI_ne (by decide), pI_ne (by decide), pI_ne (by decide), (x2 184 (by omega)).1]
      have kW : K2.2.1 187 = M.2.1 187 := (x2 187 (by omega)).2
      have mE := hE.move (b' := m + 1) (x3.next (M' := cpM K2 0 (m + 1)) (fun a g1 g2 => ⟨kI a (by omega) (by omega) (by omega), kL a (by omega)⟩) n7.2 n8.2 n9.2) (fun k hk => by rw [cp_b k hk, kB]) (fun k hk => by rw [cp_w k hk, kW])
      have mK : ∀ e b, EmpR M e b → (e + 28 ≤ 95 + 28 * m) → 11 ≤ e → b ≠ m + 1 → EmpR (cpM K2 0 (m + 1)) e b := by
        intro e b hh g1 g2 g3
        obtain ⟨q7, q8, q9, _, _⟩ := hh.nums
        exact hh.move (CpR.same (fun a r1 r2 => ⟨by rw [kI a (by omega) (by omega) (by omega), (x2 a (by omega)).1], by rw [kL a (by omega), (x2 a (by omega)).2]⟩) q7.2 q8.2 q9.2) (fun k hk => by rw [cp_bn g3 k hk, kB]) (fun k hk => by rw [cp_wn g3 k hk, kW])
      have k05 := kX 5 (by decide) (by decide)
      have k018 := kX 18 (by decide) (by decide)
      refine h.marks (fun a g1 g2 g3 g4 g5 => ⟨?_, ?_⟩) (mK 11 0 hE (by omega) (by omega) (by omega)) (fun i hi => ?_) ?_ k05 k018
      · rw [kI a (by unfold Rc at g1; omega) (by unfold Rc at g1; omega) g2, (x2 a (by omega)).1]
      · rw [kL a g3, (x2 a (by omega)).2]
      · rw [k14] at hi
        by_cases ci : i = m
        · rw [ci]; exact mE
        · exact mK _ _ (h.2.2.2.2.1 i (by omega)) (by omega) (by omega) (by omega)
      · unfold Hd
        rw [k00, k90, k14, k24, k05, k018, kX 9 (by decide) (by decide), kX 10 (by decide) (by decide), kY 8 (by decide) (by decide) (by decide), kY 10 (by decide) (by decide) (by decide), kY 11 (by decide) (by decide) (by decide), kY 34 (by decide) (by decide) (by decide), kL 0 (by decide), kL 179 (by decide), (x2 0 (by omega)).2, (x2 179 (by omega)).2]
        exact ⟨rfl, a2, a3, a4, a5, a6, rfl, a8, a9, by omega, a11⟩
  · refine opR h (-1) 7 ?_ ?_
    · rw [q_x_mark, if_neg c, q_x_refuse, bI_k]
    · rw [q_m_mark, pI_nk (by decide), pI_nk (by decide), pI_ne (by decide), if_pos (by omega), q_m_refuse, bI_k]
theorem o_back (h : Inv M) : OpI d j_x_back j_m_back [] M := by
  obtain ⟨a1, a2, a3, a4, a5, a6, a7, a8, a9, a10, a11⟩ := h.1
  by_cases c : 0 < M.1 0 14
  · obtain ⟨m, hm⟩ : ∃ m : Nat, M.1 0 14 = ((m + 1 : Nat) : Int) := ⟨(M.1 0 14 - 1).toNat, by omega⟩
    let N := putI M 0 14 (m : Int)
    have hE : EmpR N (67 + 28 + 28 * m) (m + 1) := (h.2.2.2.2.1 m (by omega)).cong fun a ha => ⟨pI_ne (by unfold Ec at ha; omega), rfl⟩
    obtain ⟨n7, n8, n9, n5, nb⟩ := hE.nums
    have hD : Dj 11 (67 + 28 + 28 * m) := by unfold Dj; omega
    obtain ⟨M1, x1, x2, x3⟩ := em_copy (M := N) d hD n7 n8 n9 n5 nb
    have k0 : M1.1 0 = N.1 0 := (x2 0 (by omega)).1
    have k9 : M1.1 179 = M.1 179 := (x2 179 (by omega)).1.trans (pI_ne (by decide))
    let K1 := putI M1 0 0 0
    let K2 := putI (putI K1 179 1 0) 179 0 0
    have e24 : K2.1 179 24 = ((m + 1 : Nat) : Int) := by
      show (putI (putI (putI M1 0 0 0) 179 1 0) 179 0 0).1 179 24 = _
      rw [pI_nk (by decide), pI_nk (by decide), pI_ne (by decide), k9, ← a7, hm]
    let M2 := putI (cpM K2 (m + 1) 0) 179 24 (m : Int)
    have N14 : N.1 0 14 = (m : Int) := pI_s
    refine ⟨(m : Int), K1, M2, ?_, ?_, ?_⟩
    · rw [q_x_back, if_pos c, hm, w32s (by omega), show ((m + 1 : Nat) : Int) - 1 = (m : Int) by omega, pI_s, if_pos (by omega), Int.toNat_natCast, x1, bV_k, k0, N14, q_x_answer, bI_k]
    · rw [q_m_back]
      show (if K2.1 179 24 = 0 then _ else bV (C2 d j_m_copy [vR 12 179, vI (K2.1 179 24), vI 0] K2) _) = _
      rw [e24, if_neg (by omega)]
      have := m_copies (M := K2) d (a := m + 1) (b := 0) (by omega) (by omega) (by omega)
      rw [show ((0 : Nat) : Int) = 0 from rfl] at this
      rw [this, bV_k, cp_i (by decide), e24, w32s (by omega), show ((m + 1 : Nat) : Int) - 1 = (m : Int) by omega, pI_s]
    · have kI : ∀ a, a ≠ 0 → a ≠ 179 → a ≠ 184 → M2.1 a = M1.1 a := by
        intro a g0 g9 g4
        show (putI (cpM K2 (m + 1) 0) 179 24 (m : Int)).1 a = M1.1 a
        rw [pI_ne g9, cp_i g4]
        show (putI (putI (putI M1 0 0 0) 179 1 0) 179 0 0).1 a = M1.1 a
        rw [pI_ne g9, pI_ne g9, pI_ne g0]
      have kL : ∀ a, a ≠ 187 → M2.2.1 a = M1.2.1 a := by
        intro a g
        show (cpM K2 (m + 1) 0).2.1 a = M1.2.1 a
        rw [cp_l g]
      have kX : ∀ j, j ≠ 0 → j ≠ 14 → M2.1 0 j = M.1 0 j := by
        intro j g0 g1
        show (putI (cpM K2 (m + 1) 0) 179 24 (m : Int)).1 0 j = M.1 0 j
        rw [pI_ne (by decide), cp_i (by decide)]
        show (putI (putI (putI M1 0 0 0) 179 1 0) 179 0 0).1 0 j = M.1 0 j
        rw [pI_ne (by decide), pI_ne (by decide), pI_nk g0, k0]
        exact pI_nk g1
      have kY : ∀ j, j ≠ 0 → j ≠ 1 → j ≠ 24 → M2.1 179 j = M.1 179 j := by
        intro j g0 g1 g2
        show (putI (cpM K2 (m + 1) 0) 179 24 (m : Int)).1 179 j = M.1 179 j
        rw [pI_nk g2, cp_i (by decide)]
        show (putI (putI (putI M1 0 0 0) 179 1 0) 179 0 0).1 179 j = M.1 179 j
        rw [pI_nk g0, pI_nk g1, pI_ne (by decide), k9]
      have k00 : M2.1 0 0 = 0 := by
        show (putI (cpM K2 (m + 1) 0) 179 24 (m : Int)).1 0 0 = _
        rw [pI_ne (by decide), cp_i (by decide)]
        show (putI (putI (putI M1 0 0 0) 179 1 0) 179 0 0).1 0 0 = _
        rw [pI_ne (by decide), pI_ne (by decide), pI_s]
      have k14 : M2.1 0 14 = (m : Int) := by
        show (putI (cpM K2 (m + 1) 0) 179 24 (m : Int)).1 0 14 = _
        rw [pI_ne (by decide), cp_i (by decide)]
        show (putI (putI (putI M1 0 0 0) 179 1 0) 179 0 0).1 0 14 = _
        rw [pI_ne (by decide), pI_ne (by decide), pI_nk (by decide), k0, N14]
      have k90 : M2.1 179 0 = 0 := by
        show (putI (cpM K2 (m + 1) 0) 179 24 (m : Int)).1 179 0 = _
        rw [pI_nk (by decide), cp_i (by decide)]
        exact pI_s
      have k24 : M2.1 179 24 = (m : Int) := pI_s
      have kB0 : ∀ c k, blk K2 c k = blk M c k := by
        intro c k
        show (putI (putI (putI M1 0 0 0) 179 1 0) 179 0 0).1 184 (345 * c + k) = M.1 184 (345 * c + k)
        rw [pI_ne (by decide), pI_ne (by decide), pI_ne (by decide), (x2 184 (by omega)).1]
        exact congrFun (pI_ne (by decide)) _
      have kBN : ∀ c k, blk N c k = blk M c k := fun c k => congrFun (pI_ne (M := M) (a := 0) (b := 184) (by decide)) _
      have kB : ∀ c k, blk M2 c k = blk (cpM K2 (m + 1) 0) c k := fun c k => congrFun (pI_ne (by decide)) _
      have kW : K2.2.1 187 = M.2.1 187 := (x2 187 (by omega)).2
      have mE := hE.move (b' := 0) (x3.next (M' := M2) (fun a g1 g2 => ⟨kI a (by omega) (by omega) (by omega), kL a (by omega)⟩) n7.2 n8.2 n9.2) (fun k hk => by rw [kB, cp_b k hk, kB0, kBN]) (fun k hk => (cp_w k hk).trans (by rw [kW]))
      have mK : ∀ e b, EmpR M e b → (e + 28 ≤ 179) → 39 ≤ e → b ≠ 0 → EmpR M2 e b := by
        intro e b hh g1 g2 g3
        obtain ⟨q7, q8, q9, _, _⟩ := hh.nums
        exact hh.move (CpR.same (fun a r1 r2 => ⟨by rw [kI a (by omega) (by omega) (by omega), (x2 a (by omega)).1]; exact pI_ne (by omega), by rw [kL a (by omega), (x2 a (by omega)).2]⟩) q7.2 q8.2 q9.2) (fun k hk => by rw [kB, cp_bn g3 k hk, kB0]) (fun k hk => (cp_wn g3 k hk).trans (by rw [kW]))
      have k05 := kX 5 (by decide) (by decide)
      have k018 := kX 18 (by decide) (by decide)
      refine h.marks (fun a g1 g2 g3 g4 g5 => ⟨?_, ?_⟩) mE (fun i hi => ?_) ?_ k05 k018
      · rw [kI a (by unfold Rc at g1; omega) (by unfold Rc at g1; omega) g2, (x2 a (by omega)).1]
        exact pI_ne (by unfold Rc at g1; omega)
      · rw [kL a g3, (x2 a (by omega)).2]
      · rw [k14] at hi
        exact mK _ _ (h.2.2.2.2.1 i (by omega)) (by omega) (by omega) (by omega)
      · unfold Hd
        rw [k00, k90, k14, k24, k05, k018, kX 9 (by decide) (by decide), kX 10 (by decide) (by decide), kY 8 (by decide) (by decide) (by decide), kY 10 (by decide) (by decide) (by decide), kY 11 (by decide) (by decide) (by decide), kY 34 (by decide) (by decide) (by decide), kL 0 (by decide), kL 179 (by decide), (x2 0 (by omega)).2, (x2 179 (by omega)).2]
        exact ⟨rfl, a2, a3, a4, a5, a6, rfl, a8, a9, by omega, a11⟩
  · refine opR h (-1) 8 ?_ ?_
    · rw [q_x_back, if_neg c, q_x_refuse, bI_k]
    · rw [q_m_back, pI_nk (by decide), pI_nk (by decide), pI_ne (by decide), if_pos (by omega), q_m_refuse, bI_k]
end Mark
