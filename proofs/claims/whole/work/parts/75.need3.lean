/-! which parts are sure; whom to ask -/
section Need3
variable {M : Mem} {e : Nat} {V : Nat → Int} (d : Nat)
theorem ct_pos {q : Nat → Bool} : ∀ {n : Nat}, 0 < ct q n ↔ ∃ i, i < n ∧ q i = true
  | 0 => ⟨fun h => absurd h (by show ¬ 0 < 0; omega), fun ⟨i, hi, _⟩ => absurd hi (by omega)⟩
  | n + 1 => by
    have ih := ct_pos (q := q) (n := n)
    show 0 < ct q n + (bif q n then 1 else 0) ↔ _
    cases hq : q n
    · rw [cond_false, Nat.add_zero, ih]
      constructor
      · rintro ⟨i, hi, h⟩; exact ⟨i, by omega, h⟩
      · rintro ⟨i, hi, h⟩
        by_cases c : i = n
        · subst c; rw [hq] at h; cases h
        · exact ⟨i, by omega, h⟩
    · rw [cond_true]
      exact ⟨fun _ => ⟨n, by omega, hq⟩, fun _ => by omega⟩
theorem y_zero {y : Int} (hr : rL y) : y = 0 ↔ ∀ w, w < 64 → yb y w = false := by
  constructor
  · rintro rfl w _
    have : u6 0 = 0 := by decide
    unfold yb
    rw [this, Nat.zero_testBit]
  · intro h
    have h2 : u6 y = 0 := by
      apply Nat.eq_of_testBit_eq
      intro i
      rw [Nat.zero_testBit]
      by_cases c : i < 64
      · exact h i c
      · exact Nat.testBit_lt_two_pow (Nat.lt_of_lt_of_le (show u6 y < 2 ^ 64 from u6_lt y) (Nat.pow_le_pow_right (by omega) (by omega)))
    have h3 : Int64.ofInt y = Int64.ofInt 0 := by
      apply Int64.toBitVec_inj.mp
      apply BitVec.eq_of_toNat_eq
      exact h2
    exact (ofL_inj hr rL_0).mp h3
theorem rL_and (x y : Int) : rL (yand x y) := rL_toInt _
theorem em_ways_r (h : Rl M e V) (a1 n : Nat) (y : Int) (hy : C2 d j_em_waysNeeded [vR 1 e, vR 23 a1, vI (n : Int)] M = some (some (vL y), M)) (hn : n ≤ 20) : rL y := by
  -- every way that is answered is cut
  have within_r : ∀ x k : Int, rL x → ∀ y, C2 d j_em_waysWithin [vL x, vI k] M = some (some (vL y), M) → rL y := by
    intro x k hx y hy
    rw [q_em_waysWithin] at hy
    refine ex_loop (P := fun i y' => E2 d r_em_waysWithin 4 [(2, vI k), (3, vL y'), (5, vI (i : Int))] [] M) (R := fun r => r = some (some (vL y), M) → rL y) (fun _ y' => rL y') 6 (fun i y' hi hq => ?_) (fun y' hq => ?_) x hx hy
    · rw [q_em_waysWithin_4, if_pos (by omega), bit_is (by omega), if_pos (show (0 : Int) ≤ i ∧ (i : Int) < 6 by omega), Int.toNat_natCast, w32n (by omega)]
      cases bt k i
      · exact ⟨_, rfl, rL_and _ _⟩
      · exact ⟨_, rfl, hq⟩
    · intro hz
      rw [q_em_waysWithin_4, if_neg (by decide)] at hz
      injection hz with hz
      injection hz with hz _
      injection hz with hz
      injection hz with hz
      injection hz with hz
      rw [← hz]; exact hq
  rw [q_em_waysNeeded, em_allParts d h, bI_k] at hy
  obtain ⟨y0, g1, _⟩ := em_within (M := M) d (-2) (sAP V)
  rw [g1, bL_k] at hy
  refine ex_loop (P := fun i y' => E2 d r_em_waysNeeded 7 [(0, vR 1 e), (1, vR 23 a1), (2, vI (n : Int)), (3, vL y'), (5, vI (i : Int))] [] M) (R := fun r => r = some (some (vL y), M) → rL y) (fun _ y' => rL y') n (fun i y' hi hq => ?_) (fun y' hq => ?_) y0 (within_r _ _ (by unfold rL; omega) _ g1) hy
  · obtain ⟨y1, k1, _⟩ := em_within (M := M) d y' (sTo V (w32 (M.2.1 a1 (2 * i))))
    rw [q_em_waysNeeded_7, if_pos (by omega), w32s (x := 2 * (i : Int)) (by omega), if_pos (by omega), show (2 * (i : Int)).toNat = 2 * i by omega, em_knowledgeOf d h, bI_k, k1, bL_k, w32s (x := 2 * (i : Int) + 1) (by omega), if_pos (by omega), w32n (by omega)]
    by_cases c : ycmp (M.2.1 a1 (2 * (i : Int) + 1).toNat) 1 = 0
    · rw [if_pos c]
      exact ⟨y1, rfl, within_r _ _ hq _ k1⟩
    · rw [if_neg c]
      exact ⟨_, rfl, rL_and _ _⟩
  · intro hz
    rw [q_em_waysNeeded_7, if_neg (by omega)] at hz
    injection hz with hz
    injection hz with hz _
    injection hz with hz
    injection hz with hz
    injection hz with hz
    rw [← hz]; exact hq
theorem em_common (h : Rl M e V) (y : Int) : C2 d j_em_commonParts [vR 1 e, vL y] M = some (some (vI (unB (fun p => al (fun w => !yb y w || w.testBit p) 64) (fun p => xshl 1 (p : Int)) (V 0).toNat)), M) := by
  have hc := h.1
  have h7 := h.2.1.2.2.2.2.2.2.2.1
  unfold Wc at hc
  rw [q_em_commonParts]
  refine un_loop (r := fun s => some (some (vI s), M)) (P := fun i s => E2 d r_em_commonParts 4 [(0, vR 1 e), (1, vL y), (3, vI s), (4, vI (i : Int))] [] M) rfl (fun i s hi hr => ?_) (fun s hr => ?_)
  · rw [q_em_commonParts_4, if_pos (by omega), if_pos (by omega), Int.toNat_natCast, w32n (by omega)]
    simp only [ycmp_eq]
    have key : (yand y (yxor (setsF.getD i 0) (-1)) = 0) ↔ al (fun w => !yb y w || w.testBit i) 64 = true := by
      rw [y_zero (rL_and _ _), al_iff]
      constructor
      · intro g w hw
        have := g w hw
        rw [yb_and, yb_not hw, yb_set (by omega) hw] at this
        revert this
        cases yb y w <;> cases w.testBit i <;> simp
      · intro g w hw
        have := g w hw
        rw [yb_and, yb_not hw, yb_set (by omega) hw]
        revert this
        cases yb y w <;> cases w.testBit i <;> simp
    cases ha : al (fun w => !yb y w || w.testBit i) 64
    · rw [if_neg (fun q => by rw [key.mp q] at ha; cases ha)]; rfl
    · rw [if_pos (key.mpr ha)]; rfl
  · rw [q_em_commonParts_4, if_neg (by omega)]
theorem o_sure (h : Inv M) (p n : Int) (rn : rI n) : OpI d j_x_sure j_m_sure [vI p, vI n] M := by
  have hc := h.wc
  unfold Wc at hc
  rcases told_both d h p n rn with ⟨s, hs, hx, hm⟩ | ⟨t, k, rfl, rfl, ht, hk, hx, heq, hm⟩
  · refine ⟨-1, putI M 0 0 s, _, ?_, ?_, inv_r1 h s⟩
    · rw [q_x_sure, hx, bI_k, if_neg (by omega), x_refR]
    · rw [q_m_sure, hm _ g181 rfl g182, bI_k, if_pos (by rw [pI_s]; omega)]
  · obtain ⟨m, y, m1, m2, g1, g2, g3⟩ := ways_both d h t k ht hk heq
    have hr := em_ways_r d h.rl (88 + 2 * t) k y g1 hk
    have hz : y = 0 ↔ ct (wy (mV M) (fun j => M.2.1 182 (60 * t + j)) k m) 64 = 0 := by
      rw [y_zero hr]
      have hp := ct_pos (q := wy (mV M) (fun j => M.2.1 182 (60 * t + j)) k m) (n := 64)
      constructor
      · intro g
        rcases Nat.eq_zero_or_pos (ct (wy (mV M) (fun j => M.2.1 182 (60 * t + j)) k m) 64) with q | q
        · exact q
        · obtain ⟨i, hi, hq⟩ := hp.mp q
          rw [← g2 i hi, g i hi] at hq; cases hq
      · intro g w hw
        rw [g2 w hw]
        cases hq : wy (mV M) (fun j => M.2.1 182 (60 * t + j)) k m w
        · rfl
        · have := hp.mpr ⟨w, hw, hq⟩
          omega
    by_cases c : y = 0
    · have c' := hz.mp c
      refine ⟨-1, putI M 0 0 8, _, ?_, ?_, inv_nr h 8 ((ct (wy (mV M) (fun j => M.2.1 182 (60 * t + j)) k m) 64 : Nat) : Int) (sAn (wy (mV M) (fun j => M.2.1 182 (60 * t + j)) k m) m 64)⟩
      · rw [q_x_sure, hx, bI_k, if_pos rfl, if_pos (by omega), Int.toNat_natCast, show 1 + 86 + 2 * t + 1 = 88 + 2 * t by omega, g1, bL_k]
        simp only [ycmp_eq]
        rw [if_pos c, x_refR]
      · rw [q_m_sure, hm _ g181 rfl g182, bI_k, if_neg (by rw [pI_s]; decide), g3 8, bV_k, pI_nk (by decide), pI_s, if_pos (by omega), m_refR]
    · have c' : ¬ ct (wy (mV M) (fun j => M.2.1 182 (60 * t + j)) k m) 64 = 0 := fun q => c (hz.mpr q)
      have hm63 := sAP_n h.wc
      obtain ⟨m', k1, k2, k3, k4⟩ := hm63
      have em : m' = m := by
        have := m2.symm.trans k2
        omega
      subst em
      have es : unB (fun p => al (fun w => !yb y w || w.testBit p) 64) (fun p => xshl 1 (p : Int)) (mV M 0).toNat = sAn (wy (mV M) (fun j => M.2.1 182 (60 * t + j)) k m') m' 64 := by
        have hrI : rI (sAn (wy (mV M) (fun j => M.2.1 182 (60 * t + j)) k m') m' 64) := itr_ind (P := fun _ s => rI s) (by unfold rI; omega) 64 (fun i s _ hs => by
          show rI (bif _ then _ else _)
          cases wy (mV M) (fun j => M.2.1 182 (60 * t + j)) k m' i
          · exact hs
          · exact rI_and _ _)
        refine bt_ext rI_un hrI fun i hi => ?_
        rw [bt_msk (by omega) hi, bt_sAn hi 64 (Nat.le_refl _)]
        have e1 : al (fun w => !yb y w || w.testBit i) 64 = al (fun w => !wy (mV M) (fun j => M.2.1 182 (60 * t + j)) k m' w || w.testBit i) 64 := al_c fun w hw => by rw [g2 w hw]
        rw [e1]
        congr 1
        rw [← k2]
        have hap : bt (sAP (mV M)) i = decide (i < (mV M 0).toNat) := by
          have d1 : (List.range 7).all (fun n => (List.range 32).all fun i => decide (bt (w32 (xshl 1 ((n : Nat) : Int) - 1)) i = decide (i < n))) = true := by decide +kernel
          have d2 := of_decide_eq_true (List.all_eq_true.mp (List.all_eq_true.mp d1 (mV M 0).toNat (List.mem_range.mpr (by omega))) i (List.mem_range.mpr hi))
          rw [show (((mV M 0).toNat : Nat) : Int) = mV M 0 by omega] at d2
          exact d2
        rw [hap]
      refine ⟨sAn (wy (mV M) (fun j => M.2.1 182 (60 * t + j)) k m') m' 64, putI M 0 0 0, _, ?_, ?_, inv_nd h 0 ((ct (wy (mV M) (fun j => M.2.1 182 (60 * t + j)) k m') 64 : Nat) : Int) (sAn (wy (mV M) (fun j => M.2.1 182 (60 * t + j)) k m') m' 64)⟩
      · rw [q_x_sure, hx, bI_k, if_pos rfl, if_pos (by omega), Int.toNat_natCast, show 1 + 86 + 2 * t + 1 = 88 + 2 * t by omega, g1, bL_k]
        simp only [ycmp_eq]
        rw [if_neg c, em_common d h.rl, bI_k, x_ansR, es]
      · rw [q_m_sure, hm _ g181 rfl g182, bI_k, if_neg (by rw [pI_s]; decide), g3 0, bV_k, pI_nk (by decide), pI_s, if_neg (by omega), pI_s]
/-- the best to ask, out of the counts -/
def gA (cq : Nat → Nat) (tot : Nat) (s : Nat) (q : Int × Int) : Int × Int := bif decide (q.1 < 0) || decide (max ((cq s : Nat) : Int) ((tot : Int) - (cq s : Nat)) < q.2) then ((s : Int), max ((cq s : Nat) : Int) ((tot : Int) - (cq s : Nat))) else q
theorem gA_q {cq : Nat → Nat} {tot s : Nat} {q : Int × Int} (h : qW q) : qW (gA cq tot s q) := by
  unfold gA
  cases decide (q.1 < 0) || decide (max ((cq s : Nat) : Int) ((tot : Int) - (cq s : Nat)) < q.2)
  · exact h
  · exact Or.inr (by show (0 : Int) ≤ s; omega)
theorem gA_c {cq cr : Nat → Nat} {tot s : Nat} {q : Int × Int} (h : cq s = cr s) : gA cq tot s q = gA cr tot s q := by
  unfold gA
  rw [h]
def tA (cq : Nat → Nat) (tot : Nat) : Nat → Int × Int := fun n => itr (fun i q => gA cq tot (i + 1) q) (-1, 0) n
theorem em_ask (h : Rl M e V) (y : Int) (q : Nat → Bool) (hq : ∀ w, w < 64 → yb y w = q w) (a : Nat) (ha : sAH V = (a : Int)) (ha2 : a < 256) : C2 d j_em_bestToAsk [vR 1 e, vL y] M = some (some (vI (tA (fun s => ct (fun w => q w && sb w (sTo V (s : Int))) 64) (ct q 64) a).1), M) := by
  rw [q_em_bestToAsk]
  have main := it_loop (P := fun i s => E2 d r_em_bestToAsk 6 [(0, vR 1 e), (1, vL y), (3, vI s.1), (4, vI s.2), (5, vI ((i + 1 : Nat) : Int))] [] M) (r := fun s => some (some (vI s.1), M)) (f := fun i s => gA (fun s => ct (fun w => q w && sb w (sTo V (s : Int))) 64) (ct q 64) (i + 1) s) (x := ((-1, 0) : Int × Int)) (fun _ s => qW s) 0 a (by omega) (Or.inl rfl) (fun i s h1 h2 hs => ⟨?_, gA_q hs⟩) (fun s hs => ?_)
  · exact main
  · obtain ⟨y1, k1, k2⟩ := em_within (M := M) d y (sTo V ((i + 1 : Nat) : Int))
    have c1 : ct (yb y1) 64 = ct (fun w => q w && sb w (sTo V ((i + 1 : Nat) : Int))) 64 := ct_c 64 fun w hw => by rw [k2 w hw, hq w hw]
    have c2 : ct (yb y) 64 = ct q 64 := ct_c 64 hq
    have l1 := ct_le (fun w => q w && sb w (sTo V ((i + 1 : Nat) : Int))) 64
    have l2 := ct_le q 64
    rw [q_em_bestToAsk_6, em_allHands d h, bI_k, ha, if_neg (by omega), em_knowledgeOf d h, bI_k, k1, bL_k, bitL, bI_k, bitL, bI_k, mx_I, bI_k, c1, c2, w32s (x := ((ct q 64 : Nat) : Int) - ((ct (fun w => q w && sb w (sTo V ((i + 1 : Nat) : Int))) 64 : Nat) : Int)) (by omega), w32n (by omega)]
    unfold gA
    rcases hs with hs | hs
    · rw [if_pos hs, decide_eq_true (show s.1 < 0 by omega), Bool.true_or]; rfl
    · rw [if_neg (by omega), decide_eq_false (show ¬ s.1 < 0 by omega), Bool.false_or]
      by_cases z : max ((ct (fun w => q w && sb w (sTo V ((i + 1 : Nat) : Int))) 64 : Nat) : Int) (((ct q 64 : Nat) : Int) - ((ct (fun w => q w && sb w (sTo V ((i + 1 : Nat) : Int))) 64 : Nat) : Int)) < s.2
      · rw [if_pos z, decide_eq_true z]; rfl
      · rw [if_neg z, decide_eq_false z]; rfl
  · rw [q_em_bestToAsk_6, em_allHands d h, bI_k, ha, if_pos (by omega)]
theorem m_ask (hc : Wc (mV M)) (t n m a : Nat) (ht : t < 4) (hn : n ≤ 20) (hm : m < 64) (hA : sAP (mV M) = (m : Int)) (ha : sAH (mV M) = (a : Int)) (ha2 : a < 256) (tot : Nat) (htot : tot ≤ 64) (h31 : M.1 179 31 = (tot : Int)) : E2 d r_m_ask 37 [(0, vR 12 179), (1, vI (t : Int)), (2, vI (n : Int)), (3, vI (-1)), (4, vI 0), (5, vI 1)] [] M = some (some (vI (tA (fun s => ct (fun w => wy (mV M) (fun j => M.2.1 182 (60 * t + j)) n m w && sb w (sTo (mV M) (s : Int))) 64) tot a).1), M) := by
  have main := it_loop (P := fun i s => E2 d r_m_ask 37 [(0, vR 12 179), (1, vI (t : Int)), (2, vI (n : Int)), (3, vI s.1), (4, vI s.2), (5, vI ((i + 1 : Nat) : Int))] [] M) (r := fun s => some (some (vI s.1), M)) (f := fun i s => gA (fun s => ct (fun w => wy (mV M) (fun j => M.2.1 182 (60 * t + j)) n m w && sb w (sTo (mV M) (s : Int))) 64) tot (i + 1) s) (x := ((-1, 0) : Int × Int)) (fun _ s => qW s) 0 a (by omega) (Or.inl rfl) (fun i s h1 h2 hs => ⟨?_, gA_q hs⟩) (fun s hs => ?_)
  · exact main
  · rw [q_m_ask_37, m_allHands, bI_k, ha, if_neg (by omega), m_knownTo d hc, bI_k]
    obtain ⟨q, hq⟩ : ∃ q : Nat → Bool, q = fun w => wy (mV M) (fun j => M.2.1 182 (60 * t + j)) n m w && sb w (sTo (mV M) ((i + 1 : Nat) : Int)) := ⟨_, rfl⟩
    have hz : ∀ j, m + 1 ≤ j → q j = false := fun j hj => by
      rw [hq]
      show (wy (mV M) (fun j => M.2.1 182 (60 * t + j)) n m j && _) = false
      unfold wy
      rw [decide_eq_false (show ¬ j ≤ m by omega), Bool.and_false, Bool.false_and, Bool.false_and]
    have e64 : ct q 64 = ct q (m + 1) := ct_ext hz (by omega)
    have q0 : q 0 = false := by rw [hq]; rfl
    have c01 : ct q (0 + 1) = 0 := by
      show 0 + (bif q 0 then 1 else 0) = 0
      rw [q0]; rfl
    have inner := up_loop (P := fun k => E2 d r_m_ask 49 [(0, vR 12 179), (1, vI (t : Int)), (2, vI (n : Int)), (3, vI s.1), (4, vI s.2), (5, vI ((i + 1 : Nat) : Int)), (6, vI ((ct q (k + 1) : Nat) : Int)), (7, vI (sTo (mV M) ((i + 1 : Nat) : Int))), (8, vI ((k + 1 : Nat) : Int))] [] M) (n := m) (r := E2 d r_m_ask 37 [(0, vR 12 179), (1, vI (t : Int)), (2, vI (n : Int)), (3, vI (gA (fun s => ct (fun w => wy (mV M) (fun j => M.2.1 182 (60 * t + j)) n m w && sb w (sTo (mV M) (s : Int))) 64) tot (i + 1) s).1), (4, vI (gA (fun s => ct (fun w => wy (mV M) (fun j => M.2.1 182 (60 * t + j)) n m w && sb w (sTo (mV M) (s : Int))) 64) tot (i + 1) s).2), (5, vI ((i + 1 + 1 : Nat) : Int))] [] M) (fun k hk => ?_) ?_ 0 (by omega)
    · rw [c01] at inner
      exact inner
    · have hle := ct_le q (k + 1)
      have ec : ct q (k + 1 + 1) = ct q (k + 1) + (bif q (k + 1) then 1 else 0) := rfl
      have eq1 : q (k + 1) = (ft (mV M) (fun j => M.2.1 182 (60 * t + j)) n (k + 1) && sb (k + 1) (sTo (mV M) ((i + 1 : Nat) : Int))) := by
        rw [hq]
        show (wy (mV M) (fun j => M.2.1 182 (60 * t + j)) n m (k + 1) && _) = _
        unfold wy
        rw [decide_eq_true (show k + 1 ≠ 0 by omega), decide_eq_true (show k + 1 ≤ m by omega)]; rfl
      rw [q_m_ask_49, m_allParts, bI_k, hA, if_neg (by omega), m_fits d hc t n (k + 1) ht hn (by omega), bI_k, w32n (by omega), Int.add_zero, w32s (x := ((ct q (k + 1) : Nat) : Int)) (by omega), w32s (x := ((ct q (k + 1) : Nat) : Int) + 1) (by omega), ec, eq1]
      by_cases z : xand ((k + 1 : Nat) : Int) (xxor (sTo (mV M) ((i + 1 : Nat) : Int)) (-1)) = 0
      · rw [if_pos z, (sb_x (by omega)).mp z, Bool.and_true]
        cases ft (mV M) (fun j => M.2.1 182 (60 * t + j)) n (k + 1)
        · rw [if_pos b01_f]; rfl
        · rw [if_neg (by decide)]; rfl
      · have zf : sb (k + 1) (sTo (mV M) ((i + 1 : Nat) : Int)) = false := by
          cases hx : sb (k + 1) (sTo (mV M) ((i + 1 : Nat) : Int))
          · rfl
          · exact absurd ((sb_x (by omega)).mpr hx) z
        rw [if_neg z, zf, Bool.and_false]; rfl
    · have hle := ct_le q (m + 1)
      have e64' : ct (fun w => wy (mV M) (fun j => M.2.1 182 (60 * t + j)) n m w && sb w (sTo (mV M) ((i + 1 : Nat) : Int))) 64 = ct q (m + 1) := by rw [← hq]; exact e64
      rw [q_m_ask_49, m_allParts, bI_k, hA, if_pos (by omega), h31, w32s (x := (tot : Int) - ((ct q (m + 1) : Nat) : Int)) (by omega), mx_I, bI_k, w32n (by omega)]
      rw [gA_c (cq := fun s => ct (fun w => wy (mV M) (fun j => M.2.1 182 (60 * t + j)) n m w && sb w (sTo (mV M) (s : Int))) 64) (cr := fun _ => ct q (m + 1)) e64']
      unfold gA
      rcases hs with hs | hs
      · rw [if_pos (by omega), decide_eq_true (show s.1 < 0 by omega), Bool.true_or]; rfl
      · rw [if_neg (by omega), decide_eq_false (show ¬ s.1 < 0 by omega), Bool.false_or]
        by_cases z : max ((ct q (m + 1) : Nat) : Int) ((tot : Int) - ((ct q (m + 1) : Nat) : Int)) < s.2
        · rw [if_pos z, decide_eq_true z]; rfl
        · rw [if_neg z, decide_eq_false z]; rfl
  · rw [q_m_ask_37, m_allHands, bI_k, ha, if_pos (by omega)]
theorem o_ask (h : Inv M) (p n : Int) (rn : rI n) : OpI d j_x_ask j_m_ask [vI p, vI n] M := by
  have hc := h.wc
  unfold Wc at hc
  have h8 : M.1 11 8 = mV M 1 := h.rl.2.1.2.2.2.2.2.2.2.2.1
  rcases told_both d h p n rn with ⟨s, hs, hx, hm⟩ | ⟨t, k, rfl, rfl, ht, hk, hx, heq, hm⟩
  · refine ⟨-1, putI M 0 0 s, _, ?_, ?_, inv_r1 h s⟩
    · rw [q_x_ask, hx, bI_k, if_neg (by omega), x_refR]
    · rw [q_m_ask, hm _ g181 rfl g182, bI_k, if_pos (by rw [pI_s]; omega)]
  · obtain ⟨m, y, m1, m2, g1, g2, g3⟩ := ways_both d h t k ht hk heq
    obtain ⟨a, a1, a2⟩ := sAH_n h.wc
    have hle := ct_le (wy (mV M) (fun j => M.2.1 182 (60 * t + j)) k m) 64
    by_cases c : ct (wy (mV M) (fun j => M.2.1 182 (60 * t + j)) k m) 64 < 2 ∨ mV M 1 = 0
    · refine ⟨-1, putI M 0 0 8, _, ?_, ?_, inv_nr h 8 ((ct (wy (mV M) (fun j => M.2.1 182 (60 * t + j)) k m) 64 : Nat) : Int) (sAn (wy (mV M) (fun j => M.2.1 182 (60 * t + j)) k m) m 64)⟩
      · rw [q_x_ask, hx, bI_k, if_pos rfl, if_pos (by omega), Int.toNat_natCast, show 1 + 86 + 2 * t + 1 = 88 + 2 * t by omega, g1, bL_k, bitL, bI_k, ct_c 64 g2, h8, x_refR]
        by_cases z : ct (wy (mV M) (fun j => M.2.1 182 (60 * t + j)) k m) 64 < 2
        · rw [if_pos (by omega)]
        · rw [if_neg (by omega), if_pos (by omega)]
      · have e1 : (putI (putI (putI (putI (putI M 0 0 8) 179 1 0) 179 0 0) 179 31 ((ct (wy (mV M) (fun j => M.2.1 182 (60 * t + j)) k m) 64 : Nat) : Int)) 179 32 (sAn (wy (mV M) (fun j => M.2.1 182 (60 * t + j)) k m) m 64)).1 184 1 = mV M 1 := by
          rw [pI_ne (by decide), pI_ne (by decide), pI_ne (by decide), pI_ne (by decide), pI_ne (by decide)]; rfl
        rw [q_m_ask, hm _ g181 rfl g182, bI_k, if_neg (by rw [pI_s]; decide), g3 8, bV_k, e1, pI_nk (by decide), pI_s, m_refR]
        by_cases z : ct (wy (mV M) (fun j => M.2.1 182 (60 * t + j)) k m) 64 < 2
        · rw [if_pos (by omega)]
        · rw [if_neg (by omega), if_pos (by omega)]
    · have ev : mV (putI (putI (putI (putI (putI M 0 0 0) 179 1 0) 179 0 0) 179 31 ((ct (wy (mV M) (fun j => M.2.1 182 (60 * t + j)) k m) 64 : Nat) : Int)) 179 32 (sAn (wy (mV M) (fun j => M.2.1 182 (60 * t + j)) k m) m 64)) = mV M := by
        rw [mV_i (by decide), mV_i (by decide), mV_i (by decide), mV_i (by decide), mV_i (by decide)]
      have e1 : (putI (putI (putI (putI (putI M 0 0 0) 179 1 0) 179 0 0) 179 31 ((ct (wy (mV M) (fun j => M.2.1 182 (60 * t + j)) k m) 64 : Nat) : Int)) 179 32 (sAn (wy (mV M) (fun j => M.2.1 182 (60 * t + j)) k m) m 64)).1 184 1 = mV M 1 := congrFun ev 1
      have hask := m_ask (M := putI (putI (putI (putI (putI M 0 0 0) 179 1 0) 179 0 0) 179 31 ((ct (wy (mV M) (fun j => M.2.1 182 (60 * t + j)) k m) 64 : Nat) : Int)) 179 32 (sAn (wy (mV M) (fun j => M.2.1 182 (60 * t + j)) k m) m 64)) d (by rw [ev]; exact h.wc) t k m a ht hk m1 (by rw [ev]; exact m2) (by rw [ev]; exact a2) a1 (ct (wy (mV M) (fun j => M.2.1 182 (60 * t + j)) k m) 64) hle (by rw [pI_nk (by decide), pI_s])
      have eL : (putI (putI (putI (putI (putI M 0 0 0) 179 1 0) 179 0 0) 179 31 ((ct (wy (mV M) (fun j => M.2.1 182 (60 * t + j)) k m) 64 : Nat) : Int)) 179 32 (sAn (wy (mV M) (fun j => M.2.1 182 (60 * t + j)) k m) m 64)).2.1 = M.2.1 := rfl
      rw [ev, eL] at hask
      refine ⟨(tA (fun s => ct (fun w => wy (mV M) (fun j => M.2.1 182 (60 * t + j)) k m w && sb w (sTo (mV M) (s : Int))) 64) (ct (wy (mV M) (fun j => M.2.1 182 (60 * t + j)) k m) 64) a).1, putI M 0 0 0, _, ?_, ?_, inv_nd h 0 ((ct (wy (mV M) (fun j => M.2.1 182 (60 * t + j)) k m) 64 : Nat) : Int) (sAn (wy (mV M) (fun j => M.2.1 182 (60 * t + j)) k m) m 64)⟩
      · rw [q_x_ask, hx, bI_k, if_pos rfl, if_pos (by omega), Int.toNat_natCast, show 1 + 86 + 2 * t + 1 = 88 + 2 * t by omega, g1, bL_k, bitL, bI_k, ct_c 64 g2, h8, if_neg (by omega), if_neg (by omega), em_ask d h.rl y _ g2 a a2 a1, bI_k, x_ansR]
      · rw [q_m_ask, hm _ g181 rfl g182, bI_k, if_neg (by rw [pI_s]; decide), g3 0, bV_k, e1, pI_nk (by decide), pI_s, if_neg (by omega), if_neg (by omega), hask]
end Need3
