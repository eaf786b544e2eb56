/-! which parts are needed: the calls -/
section Need2
variable {M : Mem} (d : Nat)
theorem told_both (h : Inv M) (p n : Int) (rn : rI n) :
    (∃ s, 0 < s ∧ C2 d j_x_toldTrouble [vR 11 0, vI p, vI n] M = some (some (vI s), M) ∧ ∀ N : Mem, N.1 181 = M.1 181 → N.2.1 182 = M.2.1 182 → mV N = mV M → C2 d j_m_whyNotNeeded [vR 12 179, vI p, vI n] N = some (some (vI s), N)) ∨
    (∃ t m : Nat, p = (t : Int) ∧ n = (m : Int) ∧ t < 4 ∧ m ≤ 20 ∧ C2 d j_x_toldTrouble [vR 11 0, vI p, vI n] M = some (some (vI 0), M) ∧ (∀ j, j < 2 * m → M.2.1 (88 + 2 * t) j = M.2.1 182 (60 * t + j)) ∧ ∀ N : Mem, N.1 181 = M.1 181 → N.2.1 182 = M.2.1 182 → mV N = mV M → C2 d j_m_whyNotNeeded [vR 12 179, vI p, vI n] N = some (some (vI 0), N)) := by
  unfold rI at rn
  by_cases c : 0 ≤ p ∧ p ≤ 3
  · obtain ⟨t, rfl⟩ : ∃ t : Nat, p = (t : Int) := ⟨p.toNat, by omega⟩
    have ht := h.2.1 t (by omega)
    rcases ht with ht | ⟨t1, t2, t3, t4, t5⟩
    · refine Or.inl ⟨3, by decide, ?_, ?_⟩
      · rw [q_x_toldTrouble, x_tTr, bI_k]
        unfold tTr
        rw [if_pos c, Int.toNat_natCast, if_pos ht.1, if_neg (by decide)]
      · intro N e1 e2 e3
        rw [q_m_whyNotNeeded, m_isTray, bI_k, if_pos c, if_neg (by decide), if_pos (by omega), Int.toNat_natCast, e1, if_pos (by omega)]
    · have e1 : tTr M t (2 * n) = if M.1 (87 + 2 * t) 2 < 2 * n then 4 else 0 := by
        unfold tTr
        rw [if_pos c, Int.toNat_natCast, if_neg (by omega)]
      by_cases c2 : M.1 (87 + 2 * t) 2 < 2 * n
      · refine Or.inl ⟨4, by decide, ?_, ?_⟩
        · rw [q_x_toldTrouble, w64s (x := 2 * n) (by omega), x_tTr, bI_k, e1, if_pos c2, if_neg (by decide)]
        · intro N g1 g2 g3
          rw [q_m_whyNotNeeded, m_isTray, bI_k, if_pos c, if_neg (by decide), if_pos (by omega), Int.toNat_natCast, g1, if_neg (by omega), if_pos (by omega), w64s (x := 2 * n) (by omega)]
          simp only [ycmp_lt]
          rw [if_pos (by omega)]
      · have hx0 : C2 d j_x_toldTrouble [vR 11 0, vI (t : Int), vI n] M = if 0 ≤ n ∧ n ≤ 20 then E2 d r_x_toldTrouble 28 [(0, vR 11 0), (2, vI n), (4, vR 23 (88 + 2 * t)), (5, vI 0)] [] M else some (some (vI 5), M) := by
          rw [q_x_toldTrouble, w64s (x := 2 * n) (by omega), x_tTr, bI_k, e1, if_neg c2, if_pos rfl, x_within, bI_k]
          by_cases z : 0 ≤ n ∧ n ≤ 20
          · rw [if_pos z, if_neg (by decide), if_pos z, if_pos (by omega), Int.toNat_natCast, show 1 + 86 + 2 * t + 1 = 88 + 2 * t by omega]
          · rw [if_neg z, if_pos rfl, if_neg z]
        have hm0 : ∀ N : Mem, N.1 181 = M.1 181 → C2 d j_m_whyNotNeeded [vR 12 179, vI (t : Int), vI n] N = if 0 ≤ n ∧ n ≤ 20 then E2 d r_m_whyNotNeeded 36 [(0, vR 12 179), (1, vI (t : Int)), (2, vI n), (3, vI 0)] [] N else some (some (vI 5), N) := by
          intro N g1
          rw [q_m_whyNotNeeded, m_isTray, bI_k, if_pos c, if_neg (by decide), if_pos (by omega), Int.toNat_natCast, g1, if_neg (by omega), if_pos (by omega), w64s (x := 2 * n) (by omega), m_isIn, bI_k]
          simp only [ycmp_lt]
          rw [if_neg (by omega)]
          by_cases z : 0 ≤ n ∧ n ≤ 20
          · rw [if_pos z, if_neg (by decide), if_pos z]
          · rw [if_neg z, if_pos rfl, if_neg z]
        by_cases c3 : 0 ≤ n ∧ n ≤ 20
        · obtain ⟨m, rfl⟩ : ∃ m : Nat, n = (m : Int) := ⟨n.toNat, by omega⟩
          rw [if_pos c3] at hx0
          have eq : ∀ j, j < 2 * m → M.2.1 (88 + 2 * t) j = M.2.1 182 (60 * t + j) := fun j hj => t5 j (by omega)
          have sx : ∀ i : Nat, i < m → E2 d r_x_toldTrouble 28 [(0, vR 11 0), (2, vI (m : Int)), (4, vR 23 (88 + 2 * t)), (5, vI (i : Int))] [] M = if (0 ≤ M.2.1 (88 + 2 * t) (2 * i) ∧ M.2.1 (88 + 2 * t) (2 * i) ≤ sAH (mV M)) ∧ (0 ≤ M.2.1 (88 + 2 * t) (2 * i + 1) ∧ M.2.1 (88 + 2 * t) (2 * i + 1) ≤ 1) then E2 d r_x_toldTrouble 28 [(0, vR 11 0), (2, vI (m : Int)), (4, vR 23 (88 + 2 * t)), (5, vI ((i + 1 : Nat) : Int))] [] M else some (some (vI 5), M) := by
            intro i hi
            rw [q_x_toldTrouble_28, if_pos (by omega), w32s (x := 2 * (i : Int)) (by omega), if_pos (by omega), show (2 * (i : Int)).toNat = 2 * i by omega, em_isHandSet d h.rl, bI_k, w32s (x := 2 * (i : Int) + 1) (by omega), if_pos (show (0 : Int) ≤ 2 * (i : Int) + 1 ∧ 2 * (i : Int) + 1 < 60 by omega), show (2 * (i : Int) + 1).toNat = 2 * i + 1 by omega, x_within, bI_k, w32n (by omega)]
            by_cases z : 0 ≤ M.2.1 (88 + 2 * t) (2 * i) ∧ M.2.1 (88 + 2 * t) (2 * i) ≤ sAH (mV M)
            · rw [if_pos z, if_neg (by decide)]
              by_cases z2 : 0 ≤ M.2.1 (88 + 2 * t) (2 * i + 1) ∧ M.2.1 (88 + 2 * t) (2 * i + 1) ≤ 1
              · rw [if_pos z2, if_neg (by decide), if_pos ⟨z, z2⟩]
              · rw [if_neg z2, if_pos rfl, if_neg (fun q => z2 q.2)]
            · rw [if_neg z, if_pos rfl, if_neg (fun q => z q.1)]
          have sm : ∀ N : Mem, N.2.1 182 = M.2.1 182 → mV N = mV M → ∀ i : Nat, i < m → E2 d r_m_whyNotNeeded 36 [(0, vR 12 179), (1, vI (t : Int)), (2, vI (m : Int)), (3, vI (i : Int))] [] N = if (0 ≤ M.2.1 (88 + 2 * t) (2 * i) ∧ M.2.1 (88 + 2 * t) (2 * i) ≤ sAH (mV M)) ∧ (0 ≤ M.2.1 (88 + 2 * t) (2 * i + 1) ∧ M.2.1 (88 + 2 * t) (2 * i + 1) ≤ 1) then E2 d r_m_whyNotNeeded 36 [(0, vR 12 179), (1, vI (t : Int)), (2, vI (m : Int)), (3, vI ((i + 1 : Nat) : Int))] [] N else some (some (vI 5), N) := by
            intro N g g3 i hi
            rw [q_m_whyNotNeeded_36, if_pos (by omega), w32s (x := 2 * (i : Int)) (by omega), show (2 * (i : Int)) = ((2 * i : Nat) : Int) by omega, m_num d t (2 * i) (by omega) (by omega), bL_k, m_allHands, bI_k, m_isIn, bI_k, w32s (x := ((2 * i : Nat) : Int) + 1) (by omega), show ((2 * i : Nat) : Int) + 1 = ((2 * i + 1 : Nat) : Int) by omega, m_num d t (2 * i + 1) (by omega) (by omega), bL_k, m_isIn, bI_k, g, g3, ← eq (2 * i) (by omega), ← eq (2 * i + 1) (by omega), w32n (by omega)]
            by_cases z : 0 ≤ M.2.1 (88 + 2 * t) (2 * i) ∧ M.2.1 (88 + 2 * t) (2 * i) ≤ sAH (mV M)
            · rw [if_pos z, if_neg (by decide)]
              by_cases z2 : 0 ≤ M.2.1 (88 + 2 * t) (2 * i + 1) ∧ M.2.1 (88 + 2 * t) (2 * i + 1) ≤ 1
              · rw [if_pos z2, if_neg (by decide), if_pos ⟨z, z2⟩]
              · rw [if_neg z2, if_pos rfl, if_neg (fun q => z2 q.2)]
            · rw [if_neg z, if_pos rfl, if_neg (fun q => z q.1)]
          rcases least (fun i => decide ((0 ≤ M.2.1 (88 + 2 * t) (2 * i) ∧ M.2.1 (88 + 2 * t) (2 * i) ≤ sAH (mV M)) ∧ (0 ≤ M.2.1 (88 + 2 * t) (2 * i + 1) ∧ M.2.1 (88 + 2 * t) (2 * i + 1) ≤ 1))) m with hall | ⟨u, hu, hf, hb⟩
          · refine Or.inr ⟨t, m, rfl, rfl, by omega, by omega, ?_, eq, ?_⟩
            · rw [hx0]
              refine up_loop (P := fun i => E2 d r_x_toldTrouble 28 [(0, vR 11 0), (2, vI (m : Int)), (4, vR 23 (88 + 2 * t)), (5, vI (i : Int))] [] M) (n := m) (fun i hi => by rw [sx i hi, if_pos (of_decide_eq_true (hall i hi))]) ?_ 0 (by omega)
              rw [q_x_toldTrouble_28, if_neg (by omega)]
            · intro N g1 g2 g3
              rw [hm0 N g1, if_pos c3]
              refine up_loop (P := fun i => E2 d r_m_whyNotNeeded 36 [(0, vR 12 179), (1, vI (t : Int)), (2, vI (m : Int)), (3, vI (i : Int))] [] N) (n := m) (fun i hi => by rw [sm N g2 g3 i hi, if_pos (of_decide_eq_true (hall i hi))]) ?_ 0 (by omega)
              rw [q_m_whyNotNeeded_36, if_neg (by omega)]
          · refine Or.inl ⟨5, by decide, ?_, ?_⟩
            · rw [hx0]
              refine up_loop (P := fun i => E2 d r_x_toldTrouble 28 [(0, vR 11 0), (2, vI (m : Int)), (4, vR 23 (88 + 2 * t)), (5, vI (i : Int))] [] M) (n := u) (fun i hi => by rw [sx i (by omega), if_pos (of_decide_eq_true (hb i hi))]) ?_ 0 (by omega)
              rw [sx u hu, if_neg (of_decide_eq_false hf)]
            · intro N g1 g2 g3
              rw [hm0 N g1, if_pos c3]
              refine up_loop (P := fun i => E2 d r_m_whyNotNeeded 36 [(0, vR 12 179), (1, vI (t : Int)), (2, vI (m : Int)), (3, vI (i : Int))] [] N) (n := u) (fun i hi => by rw [sm N g2 g3 i (by omega), if_pos (of_decide_eq_true (hb i hi))]) ?_ 0 (by omega)
              rw [sm N g2 g3 u hu, if_neg (of_decide_eq_false hf)]
        · refine Or.inl ⟨5, by decide, ?_, ?_⟩
          · rw [hx0, if_neg c3]
          · intro N g1 g2 g3
            rw [hm0 N g1, if_neg c3]
  · refine Or.inl ⟨1, by decide, ?_, ?_⟩
    · rw [q_x_toldTrouble, x_tTr, bI_k]
      unfold tTr
      rw [if_neg c, if_neg (by decide)]
    · intro N g1 g2 g3
      rw [q_m_whyNotNeeded, m_isTray, bI_k, if_neg c, if_pos rfl]
/-- the ways as both have them: one that fits -/
def wy (V nu : Nat → Int) (n m w : Nat) : Bool := (decide (w ≠ 0) && decide (w ≤ m)) && ft V nu n w
def sAn (q : Nat → Bool) (x : Int) : Nat → Int := itr (fun w s => bif q w then xand s (w : Int) else s) x
theorem ct_zero {q : Nat → Bool} {m : Nat} (h : ∀ i, m ≤ i → q i = false) : ∀ n, ct q (m + n) = ct q m
  | 0 => rfl
  | n + 1 => by
    show ct q (m + n) + (bif q (m + n) then 1 else 0) = ct q m
    rw [ct_zero h n, h (m + n) (by omega), cond_false]; omega
theorem ct_ext {q : Nat → Bool} {m : Nat} (h : ∀ i, m ≤ i → q i = false) {n : Nat} (hn : m ≤ n) : ct q n = ct q m := by
  obtain ⟨k, rfl⟩ : ∃ k, n = m + k := ⟨n - m, by omega⟩
  exact ct_zero h k
theorem bt_sAn {q : Nat → Bool} {x : Int} {i : Nat} (hi : i < 32) : ∀ n, n ≤ 64 → bt (sAn q x n) i = (bt x i && al (fun w => !q w || w.testBit i) n)
  | 0, _ => by show bt x i = (bt x i && true); rw [Bool.and_true]
  | n + 1, hn => by
    show bt (bif q n then xand (sAn q x n) (n : Int) else sAn q x n) i = (bt x i && (al _ n && (!q n || n.testBit i)))
    have ih := bt_sAn (q := q) (x := x) hi n (by omega)
    cases hq : q n
    · rw [cond_false, ih, Bool.not_false, Bool.true_or, Bool.and_true]
    · rw [cond_true, bt_and, ih, bt_nat (by omega) hi, Bool.not_true, Bool.false_or, Bool.and_assoc]
theorem m_needs (hc : Wc (mV M)) (t n m : Nat) (ht : t < 4) (hn : n ≤ 20) (hm : m < 64) (hA : sAP (mV M) = (m : Int)) : C2 d j_m_laysNeeds [vR 12 179, vI (t : Int), vI (n : Int)] M = some (none, putI (putI M 179 31 ((ct (wy (mV M) (fun j => M.2.1 182 (60 * t + j)) n m) 64 : Nat) : Int)) 179 32 (sAn (wy (mV M) (fun j => M.2.1 182 (60 * t + j)) n m) m 64)) := by
  have key : ∀ a b : Int, mV (putI (putI M 179 31 a) 179 32 b) = mV M := fun a b => by rw [mV_i (by decide), mV_i (by decide)]
  have pp : ∀ a b a' b' : Int, putI (putI (putI (putI M 179 31 a) 179 32 b) 179 31 a') 179 32 b' = putI (putI M 179 31 a') 179 32 b' := by
    intro a b a' b'
    refine Prod.ext (funext fun q => funext fun k => ?_) rfl
    show up2 (up2 (up2 (up2 M.1 179 31 a) 179 32 b) 179 31 a') 179 32 b' q k = up2 (up2 M.1 179 31 a') 179 32 b' q k
    unfold up2
    by_cases z1 : q = 179 ∧ k = 32
    · rw [if_pos z1, if_pos z1]
    · rw [if_neg z1, if_neg z1, if_neg z1]
      by_cases z2 : q = 179 ∧ k = 31
      · rw [if_pos z2, if_pos z2]
      · rw [if_neg z2, if_neg z2, if_neg z2]
  have hz : ∀ i, m + 1 ≤ i → wy (mV M) (fun j => M.2.1 182 (60 * t + j)) n m i = false := fun i hi => by
    unfold wy
    rw [decide_eq_false (show ¬ i ≤ m by omega), Bool.and_false, Bool.false_and]
  have e64 : ct (wy (mV M) (fun j => M.2.1 182 (60 * t + j)) n m) 64 = ct (wy (mV M) (fun j => M.2.1 182 (60 * t + j)) n m) (m + 1) := ct_ext hz (by omega)
  have s64 : ∀ k, sAn (wy (mV M) (fun j => M.2.1 182 (60 * t + j)) n m) m (m + 1 + k) = sAn (wy (mV M) (fun j => M.2.1 182 (60 * t + j)) n m) m (m + 1) := by
    intro k
    induction k with
    | zero => rfl
    | succ k ih =>
      show (bif wy (mV M) (fun j => M.2.1 182 (60 * t + j)) n m (m + 1 + k) then _ else sAn _ m (m + 1 + k)) = _
      rw [hz (m + 1 + k) (by omega), cond_false]; exact ih
  have s64' : sAn (wy (mV M) (fun j => M.2.1 182 (60 * t + j)) n m) m 64 = sAn (wy (mV M) (fun j => M.2.1 182 (60 * t + j)) n m) m (m + 1) := by
    have := s64 (63 - m)
    rw [show m + 1 + (63 - m) = 64 by omega] at this
    exact this
  rw [e64, s64', q_m_laysNeeds, m_allParts, bI_k, mV_i (by decide), hA]
  refine ex_loop (P := fun i M' => E2 d r_m_laysNeeds 9 [(0, vR 12 179), (1, vI (t : Int)), (2, vI (n : Int)), (3, vI ((i + 1 : Nat) : Int))] [] M') (R := fun r => r = some (none, putI (putI M 179 31 ((ct (wy (mV M) (fun j => M.2.1 182 (60 * t + j)) n m) (m + 1) : Nat) : Int)) 179 32 (sAn (wy (mV M) (fun j => M.2.1 182 (60 * t + j)) n m) m (m + 1)))) (fun i M' => M' = putI (putI M 179 31 ((ct (wy (mV M) (fun j => M.2.1 182 (60 * t + j)) n m) (i + 1) : Nat) : Int)) 179 32 (sAn (wy (mV M) (fun j => M.2.1 182 (60 * t + j)) n m) m (i + 1))) m (fun i M' hi hq => ?_) (fun M' hq => ?_) _ ?_
  · subst hq
    have hle := ct_le (wy (mV M) (fun j => M.2.1 182 (60 * t + j)) n m) (i + 1)
    refine ⟨_, ?_, rfl⟩
    rw [q_m_laysNeeds_9, m_allParts, bI_k, key, hA, if_neg (by omega), m_fits d (by rw [key]; exact hc) t n (i + 1) ht hn (by omega), bI_k, key, pI_L, pI_L, w32n (by omega)]
    have ew : wy (mV M) (fun j => M.2.1 182 (60 * t + j)) n m (i + 1) = ft (mV M) (fun j => M.2.1 182 (60 * t + j)) n (i + 1) := by
      unfold wy
      rw [decide_eq_true (show i + 1 ≠ 0 by omega), decide_eq_true (show i + 1 ≤ m by omega)]; rfl
    have ec : ct (wy (mV M) (fun j => M.2.1 182 (60 * t + j)) n m) (i + 1 + 1) = ct (wy (mV M) (fun j => M.2.1 182 (60 * t + j)) n m) (i + 1) + (bif ft (mV M) (fun j => M.2.1 182 (60 * t + j)) n (i + 1) then 1 else 0) := by
      show _ + (bif wy (mV M) (fun j => M.2.1 182 (60 * t + j)) n m (i + 1) then 1 else 0) = _
      rw [ew]
    have es : sAn (wy (mV M) (fun j => M.2.1 182 (60 * t + j)) n m) m (i + 1 + 1) = bif ft (mV M) (fun j => M.2.1 182 (60 * t + j)) n (i + 1) then xand (sAn (wy (mV M) (fun j => M.2.1 182 (60 * t + j)) n m) m (i + 1)) ((i + 1 : Nat) : Int) else sAn (wy (mV M) (fun j => M.2.1 182 (60 * t + j)) n m) m (i + 1) := by
      show (bif wy (mV M) (fun j => M.2.1 182 (60 * t + j)) n m (i + 1) then _ else _) = _
      rw [ew]; rfl
    rw [ec, es]
    cases ft (mV M) (fun j => M.2.1 182 (60 * t + j)) n (i + 1)
    · rw [if_pos b01_f, cond_false, cond_false]
      first
        | done
        | rfl
    · rw [if_neg (by decide), cond_true, cond_true, pI_nk (by decide), pI_s, pI_nk (by decide), pI_s, w32s (by omega), pp]
      rfl
  · subst hq
    rw [q_m_laysNeeds_9, m_allParts, bI_k, key, hA, if_pos (by omega)]
  · have e0 : wy (mV M) (fun j => M.2.1 182 (60 * t + j)) n m 0 = false := rfl
    have c0 : ct (wy (mV M) (fun j => M.2.1 182 (60 * t + j)) n m) (0 + 1) = 0 := by
      show 0 + (bif wy (mV M) (fun j => M.2.1 182 (60 * t + j)) n m 0 then 1 else 0) = 0
      rw [e0]; rfl
    have s0 : sAn (wy (mV M) (fun j => M.2.1 182 (60 * t + j)) n m) m (0 + 1) = m := by
      show (bif wy (mV M) (fun j => M.2.1 182 (60 * t + j)) n m 0 then xand (m : Int) ((0 : Nat) : Int) else (m : Int)) = m
      rw [e0]; rfl
    rw [c0, s0]
    rfl
theorem ft_c {V nu nv : Nat → Int} {n w : Nat} (h : ∀ j, j < 2 * n → nu j = nv j) : ft V nu n w = ft V nv n w := al_c fun i hi => by rw [h (2 * i) (by omega), h (2 * i + 1) (by omega)]
/-- the memory behind -/
theorem inv_nd (h : Inv M) (s a b : Int) : Inv (putI (putI (putI (putI (putI M 0 0 s) 179 1 0) 179 0 s) 179 31 a) 179 32 b) := h.keep (Kp.ofB SameB.rfl.i0.i1.i1.i1.i1) (by simp [up2]) (by simp [up2, KpH])
theorem inv_nr (h : Inv M) (s a b : Int) : Inv (putI (putI (putI (putI (putI (putI M 0 0 s) 179 1 0) 179 0 0) 179 31 a) 179 32 b) 179 0 s) := h.keep (Kp.ofB SameB.rfl.i0.i1.i1.i1.i1.i1) (by simp [up2]) (by simp [up2, KpH])
/-- what the ways come to on both sides -/
theorem ways_both (h : Inv M) (t n : Nat) (ht : t < 4) (hn : n ≤ 20) (heq : ∀ j, j < 2 * n → M.2.1 (88 + 2 * t) j = M.2.1 182 (60 * t + j)) : ∃ (m : Nat) (y : Int), m < 64 ∧ sAP (mV M) = (m : Int) ∧ C2 d j_em_waysNeeded [vR 1 11, vR 23 (88 + 2 * t), vI (n : Int)] M = some (some (vL y), M) ∧ (∀ w, w < 64 → yb y w = wy (mV M) (fun j => M.2.1 182 (60 * t + j)) n m w) ∧ ∀ s : Int, C2 d j_m_laysNeeds [vR 12 179, vI (t : Int), vI (n : Int)] (putI (putI (putI M 0 0 s) 179 1 0) 179 0 0) = some (none, putI (putI (putI (putI (putI M 0 0 s) 179 1 0) 179 0 0) 179 31 ((ct (wy (mV M) (fun j => M.2.1 182 (60 * t + j)) n m) 64 : Nat) : Int)) 179 32 (sAn (wy (mV M) (fun j => M.2.1 182 (60 * t + j)) n m) m 64)) := by
  obtain ⟨m, m1, m2, m3, m4⟩ := sAP_n h.wc
  obtain ⟨y, g1, g2⟩ := em_ways d h.rl (88 + 2 * t) n hn
  refine ⟨m, y, m1, m2, g1, fun w hw => ?_, fun s => ?_⟩
  · rw [g2 w hw, m4 w hw, ft_c heq]; rfl
  · have e := m_needs (M := putI (putI (putI M 0 0 s) 179 1 0) 179 0 0) d (h.wb s) t n m ht hn m1 (by rw [mV_bg]; exact m2)
    rw [mV_bg, pI_L, pI_L, pI_L] at e
    exact e
theorem g182 {s : Int} : mV (putI (putI M 0 0 s) 179 1 0) = mV M := by rw [mV_i (by decide), mV_i (by decide)]
theorem o_needed (h : Inv M) (p n : Int) (rn : rI n) : OpI d j_x_needed j_m_needed [vI p, vI n] M := by
  rcases told_both d h p n rn with ⟨s, hs, hx, hm⟩ | ⟨t, k, rfl, rfl, ht, hk, hx, heq, hm⟩
  · refine ⟨-1, putI M 0 0 s, _, ?_, ?_, inv_r1 h s⟩
    · rw [q_x_needed, hx, bI_k, if_neg (by omega), x_refR]
    · rw [q_m_needed, hm _ g181 rfl g182, bI_k, if_pos (by rw [pI_s]; omega)]
  · obtain ⟨m, y, m1, m2, g1, g2, g3⟩ := ways_both d h t k ht hk heq
    refine ⟨((ct (wy (mV M) (fun j => M.2.1 182 (60 * t + j)) k m) 64 : Nat) : Int), putI M 0 0 0, _, ?_, ?_, inv_nd h 0 ((ct (wy (mV M) (fun j => M.2.1 182 (60 * t + j)) k m) 64 : Nat) : Int) (sAn (wy (mV M) (fun j => M.2.1 182 (60 * t + j)) k m) m 64)⟩
    · rw [q_x_needed, hx, bI_k, if_pos rfl, if_pos (by omega), Int.toNat_natCast, show 1 + 86 + 2 * t + 1 = 88 + 2 * t by omega, g1, bL_k, bitL, bI_k, x_ansR, ct_c 64 g2]
    · rw [q_m_needed, hm _ g181 rfl g182, bI_k, if_neg (by rw [pI_s]; decide), g3 0, bV_k, pI_nk (by decide), pI_s]
end Need2
