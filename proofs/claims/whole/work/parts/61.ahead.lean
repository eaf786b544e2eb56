/-! what comes -/
def fI (M : Mem) (a o n : Nat) (f : Nat → Int) : Mem := (fun b j => if b = a ∧ o ≤ j ∧ j < o + n then f (j - o) else M.1 b j, M.2)
theorem fI_0 {M : Mem} {a o : Nat} {f : Nat → Int} : fI M a o 0 f = M := by
  unfold fI
  refine Prod.ext (funext fun b => funext fun j => ?_) rfl
  exact if_neg (by omega)
theorem fI_s {M : Mem} {a o i : Nat} {f : Nat → Int} : putI (fI M a o i f) a (o + i) (f i) = fI M a o (i + 1) f := by
  unfold fI
  refine Prod.ext (funext fun b => funext fun j => ?_) rfl
  show up2 _ a (o + i) (f i) b j = if b = a ∧ o ≤ j ∧ j < o + (i + 1) then f (j - o) else M.1 b j
  unfold up2
  by_cases h : b = a ∧ j = o + i
  · rw [if_pos h, if_pos (by omega), show j - o = i by omega]
  · rw [if_neg h]
    by_cases h2 : b = a ∧ o ≤ j ∧ j < o + i
    · simp only [if_pos h2]
      rw [if_pos (by omega)]
    · simp only [if_neg h2]
      rw [if_neg (by omega)]
theorem fI_at {M : Mem} {a o n j : Nat} {f : Nat → Int} (h : o ≤ j ∧ j < o + n) : (fI M a o n f).1 a j = f (j - o) := if_pos ⟨rfl, h⟩
theorem fI_nj {M : Mem} {a o n j b : Nat} {f : Nat → Int} (h : ¬ (o ≤ j ∧ j < o + n)) : (fI M a o n f).1 b j = M.1 b j := if_neg (fun q => h q.2)
theorem fI_na {M : Mem} {a o n b : Nat} {f : Nat → Int} (h : b ≠ a) : (fI M a o n f).1 b = M.1 b := funext fun _ => if_neg (fun q => h q.1)
theorem fI_L {M : Mem} {a o n : Nat} {f : Nat → Int} : (fI M a o n f).2 = M.2 := rfl
theorem least (q : Nat → Bool) : ∀ n, (∀ i, i < n → q i = true) ∨ ∃ t, t < n ∧ q t = false ∧ ∀ i, i < t → q i = true
  | 0 => Or.inl fun i hi => absurd hi (by omega)
  | n + 1 => by
    rcases least q n with h | ⟨t, h1, h2, h3⟩
    · cases hq : q n
      · exact Or.inr ⟨n, by omega, hq, h⟩
      · refine Or.inl fun i hi => ?_
        by_cases c : i = n
        · rw [c]; exact hq
        · exact h i (by omega)
    · exact Or.inr ⟨t, by omega, h2, h3⟩
/-- the reference's numbers kept aside -/
def nK (M : Mem) : Mem := fI M 185 0 73 (mV M)
theorem mV_nK {M : Mem} : mV (nK M) = mV M := by
  funext k
  show (fI M 185 0 73 (mV M)).1 184 k = M.1 184 k
  rw [fI_na (by decide)]
section Ahd
variable {M : Mem} (d : Nat)
theorem m_keeps : C2 d j_m_keeps [vR 12 179] M = some (none, nK M) := by
  rw [q_m_keeps]
  refine ex_loop (P := fun i M' => E2 d r_m_keeps 2 [(0, vR 12 179), (1, vI (i : Int))] [] M') (R := fun r => r = some (none, nK M)) (fun i M' => M' = fI M 185 0 i (mV M)) 73 (fun i M' hi hq => ?_) (fun M' hq => ?_) M fI_0.symm
  · subst hq
    refine ⟨_, ?_, rfl⟩
    rw [q_m_keeps_2, if_pos (by omega), if_pos (by omega), if_pos (by omega), Int.toNat_natCast, w32n (by omega), fI_na (b := 184) (by decide), ← fI_s, Nat.zero_add]
    rfl
  · subst hq
    rw [q_m_keeps_2, if_neg (by decide)]
    rfl
def rtn (V X : Nat → Int) (i : Nat) : Nat → Int := fun k => if k < i then V k else X k
theorem m_returns {X : Nat → Int} (hX : ∀ k, 73 ≤ k → X k = mV M k) : C2 d j_m_returns [vR 12 179] (setC (nK M) X) = some (none, nK M) := by
  rw [q_m_returns]
  refine ex_loop (P := fun i M' => E2 d r_m_returns 2 [(0, vR 12 179), (1, vI (i : Int))] [] M') (R := fun r => r = some (none, nK M)) (fun i M' => M' = setC (nK M) (rtn (mV M) X i)) 73 (fun i M' hi hq => ?_) (fun M' hq => ?_) _ (by rw [show rtn (mV M) X 0 = X from funext fun k => if_neg (by omega)])
  · subst hq
    refine ⟨_, ?_, rfl⟩
    have e : (setC (nK M) (rtn (mV M) X i)).1 185 i = mV M i := by
      rw [set_ne (by decide)]
      exact fI_at (by omega)
    rw [q_m_returns_2, if_pos (by omega), if_pos (by omega), if_pos (by omega), Int.toNat_natCast, w32n (by omega), e, put_set]
    congr 2
    funext k
    unfold rtn
    by_cases ck : k = i
    · subst ck
      rw [up1_s, if_pos (by omega)]
    · rw [up1_n ck]
      by_cases c2 : k < i
      · rw [if_pos c2, if_pos (by omega)]
      · rw [if_neg c2, if_neg (by omega)]
  · subst hq
    rw [q_m_returns_2, if_neg (by decide)]
    congr 2
    have e : rtn (mV M) X 73 = mV (nK M) := by
      rw [mV_nK]
      funext k
      unfold rtn
      by_cases c : k < 73
      · rw [if_pos c]
      · rw [if_neg c, hX k (by omega)]
    rw [e, set_self]
theorem m_yr (hw : Wf (mV M)) (n : Nat) (hn : n ≤ 300) : C2 d j_m_goesYear [vR 12 179] (setC (nK M) (vY (mV M) n)) = some (some (vI (sDi1 (vY (mV M) n))), setC (nK M) (vY (mV M) ((n + 1 : Nat) : Int))) := by
  rw [m_goesYear d (W := vY (mV M) ((n : Int) + 1)) (by rw [mV_set]; exact wgY hw (by omega)) (by rw [mV_set]; exact stpY hw (by omega)), mV_set, set_set, show ((n : Int) + 1) = ((n + 1 : Nat) : Int) by omega]
theorem m_st0 (hw : Wf (mV M)) : nK M = setC (nK M) (vY (mV M) ((0 : Nat) : Int)) := by
  rw [show (((0 : Nat) : Int)) = 0 from rfl, vY_0 hw, ← mV_nK, set_self]
theorem wcY {V : Nat → Int} (hw : Wf V) (n : Int) : Wc (vY V n) := by
  have hc := hw.1
  unfold Wc at hc ⊢
  rw [vY_c (by omega), vY_c (by omega), vY_c (by omega)]; exact hc
theorem retY (hw : Wf (mV M)) (n : Int) : C2 d j_m_returns [vR 12 179] (setC (nK M) (vY (mV M) n)) = some (none, nK M) := m_returns d fun k hk => vY_l hw.1 (Or.inl (by omega))
/-- answered, refused; the numbers lie aside -/
theorem kp_nK {M : Mem} : Kp M (nK M) := fun a ha => ⟨fI_na (by unfold Rc at ha; omega), rfl⟩
theorem inv_nK (h : Inv M) (s : Int) : Inv (nK (putI (putI (putI M 0 0 s) 179 1 0) 179 0 s)) := by
  refine h.keep ((Kp.ofB SameB.rfl.i0.i1.i1).tr kp_nK) ?_ ?_
  · unfold nK
    rw [fI_na (by decide), fI_na (by decide)]
    simp [up2]
  · unfold nK KpH
    rw [fI_na (by decide), fI_na (by decide), fI_L]
    simp [up2]
theorem opAK {d jx jm : Nat} {ax : List mv} {M : Mem} (h : Inv M) (x : Int) (hx : C2 d jx (vR 11 0 :: ax) M = some (some (vI x), putI M 0 0 0)) (hm : C2 d jm (vR 12 179 :: ax) (putI M 0 0 0) = some (some (vI x), nK (putI (putI (putI M 0 0 0) 179 1 0) 179 0 0))) : OpI d jx jm ax M :=
  ⟨x, _, _, hx, hm, inv_nK h 0⟩
theorem opRK {d jx jm : Nat} {ax : List mv} {M : Mem} (h : Inv M) (x s : Int) (hx : C2 d jx (vR 11 0 :: ax) M = some (some (vI x), putI M 0 0 s)) (hm : C2 d jm (vR 12 179 :: ax) (putI M 0 0 s) = some (some (vI x), putI (nK (putI (putI (putI M 0 0 s) 179 1 0) 179 0 0)) 179 0 s)) : OpI d jx jm ax M := by
  refine ⟨x, _, _, hx, hm, h.keep ((Kp.ofB SameB.rfl.i0.i1.i1).tr (kp_nK.tr (Kp.ofB SameB.rfl.i1))) ?_ ?_⟩
  · unfold nK
    rw [pI_ne (by decide), fI_na (by decide), pI_s]
    simp [up2]
  · refine KpH.of (fun k hk => ?_) (fun k hk => ?_) rfl rfl
    · unfold nK
      rw [pI_ne (by decide), fI_na (by decide), pI_ne (by decide), pI_ne (by decide), pI_nk (by omega)]
    · unfold nK
      rw [pI_nk (by omega), fI_na (by decide), pI_nk (by omega), pI_nk (by omega), pI_ne (by decide)]
theorem o_knownIn (h : Inv M) (n : Int) : OpI d j_x_knownIn j_m_knownIn [vI n] M := by
  by_cases c : 0 ≤ n ∧ n ≤ 200
  · refine opAK h (sAft (mV M) n) ?_ ?_
    · rw [q_x_knownIn, x_within, bI_k, if_pos c, if_neg (by decide), em_knownAfter d h.rl, bI_k, x_ansR]
    · have hw := wfb h 0
      rw [q_m_knownIn, m_isIn, bI_k, if_pos c, if_neg (by decide), m_keeps, bV_k]
      conv => lhs; rw [m_st0 hw]
      refine up_loop (P := fun i => E2 d r_m_knownIn 20 [(0, vR 12 179), (1, vI n), (2, vI (i : Int))] [] (setC (nK (putI (putI (putI M 0 0 0) 179 1 0) 179 0 0)) (vY (mV (putI (putI (putI M 0 0 0) 179 1 0) 179 0 0)) i))) (n := n.toNat) (fun i hi => ?_) ?_ 0 (by omega)
      · rw [q_m_knownIn_20, if_pos (by omega), m_yr d hw i (by omega), bI_k, w32n (by omega)]
      · rw [q_m_knownIn_20, if_neg (by omega), m_knownNow d (by rw [mV_set]; exact wcY hw _), bI_k, mV_set, nowY hw (by omega), retY d hw, bV_k, show ((n.toNat : Nat) : Int) = n by omega, mV_bg]
  · refine opR h (-1) 5 ?_ ?_
    · rw [q_x_knownIn, x_within, bI_k, if_neg c, if_pos rfl, x_refR]
    · rw [q_m_knownIn, m_isIn, bI_k, if_neg c, if_pos rfl, m_refR]
theorem o_storeIn (h : Inv M) (n : Int) : OpI d j_x_storeIn j_m_storeIn [vI n] M := by
  by_cases c : 0 ≤ n ∧ n ≤ 200
  · have hfl := flow_b h.wf
    have h7 := h.wf.2.2.2.2.2.1
    have hpos : 0 ≤ n * flow (mV M) ∧ n * flow (mV M) ≤ 200 * 396 := ⟨Int.mul_nonneg (by omega) hfl.1, Int.mul_le_mul c.2 hfl.2 hfl.1 (by omega)⟩
    refine opAK h (vY (mV M) n 7) ?_ ?_
    · rw [q_x_storeIn, x_within, bI_k, if_pos c, if_neg (by decide), em_store d h.rl, bI_k, x_ansR, w32s (x := n * flow (mV M)) (by omega), w32s (by omega), vY_7]
    · have hw := wfb h 0
      rw [q_m_storeIn, m_isIn, bI_k, if_pos c, if_neg (by decide), m_keeps, bV_k]
      conv => lhs; rw [m_st0 hw]
      refine up_loop (P := fun i => E2 d r_m_storeIn 20 [(0, vR 12 179), (1, vI n), (2, vI (i : Int))] [] (setC (nK (putI (putI (putI M 0 0 0) 179 1 0) 179 0 0)) (vY (mV (putI (putI (putI M 0 0 0) 179 1 0) 179 0 0)) i))) (n := n.toNat) (fun i hi => ?_) ?_ 0 (by omega)
      · rw [q_m_storeIn_20, if_pos (by omega), m_yr d hw i (by omega), bI_k, w32n (by omega)]
      · rw [q_m_storeIn_20, if_neg (by omega), retY d hw, bV_k, set_at, show ((n.toNat : Nat) : Int) = n by omega, mV_bg]
  · refine opR h (-1) 5 ?_ ?_
    · rw [q_x_storeIn, x_within, bI_k, if_neg c, if_pos rfl, x_refR]
    · rw [q_m_storeIn, m_isIn, bI_k, if_neg c, if_pos rfl, m_refR]
theorem o_lostIn (h : Inv M) (p : Int) : OpI d j_x_lostIn j_m_lostIn [vI p] M := by
  have hc := h.wc
  unfold Wc at hc
  by_cases c : 0 ≤ p ∧ p < mV M 0
  · obtain ⟨k, rfl⟩ : ∃ k : Nat, p = (k : Int) := ⟨p.toNat, by omega⟩
    have xs : ∀ i : Nat, i < 201 → bt (sAft (mV M) i) k = true → E2 d r_x_lostIn 11 [(0, vR 11 0), (1, vI (k : Int)), (2, vI (i : Int))] [] M = E2 d r_x_lostIn 11 [(0, vR 11 0), (1, vI (k : Int)), (2, vI ((i + 1 : Nat) : Int))] [] M := by
      intro i hi hb
      rw [q_x_lostIn_11, if_neg (by omega), em_knownAfter d h.rl, bI_k, bit_is (by omega), hb, if_neg (by decide), w32n (by omega)]
    have ms : ∀ (s : Int) (i : Nat), i < 201 → bt (sAft (mV M) i) k = true → E2 d r_m_lostIn 20 [(0, vR 12 179), (1, vI (k : Int)), (2, vI (-1)), (3, vI (i : Int))] [] (setC (nK (putI (putI (putI M 0 0 s) 179 1 0) 179 0 0)) (vY (mV (putI (putI (putI M 0 0 s) 179 1 0) 179 0 0)) i)) = E2 d r_m_lostIn 20 [(0, vR 12 179), (1, vI (k : Int)), (2, vI (-1)), (3, vI ((i + 1 : Nat) : Int))] [] (setC (nK (putI (putI (putI M 0 0 s) 179 1 0) 179 0 0)) (vY (mV (putI (putI (putI M 0 0 s) 179 1 0) 179 0 0)) ((i + 1 : Nat) : Int))) := by
      intro s i hi hb
      have hw := wfb h s
      rw [q_m_lostIn_20, if_neg (by omega), if_pos (by decide), m_knownNow d (by rw [mV_set]; exact wcY hw _), bI_k, m_has d _ k (by omega), bI_k, mV_set, nowY hw (by omega), mV_bg, hb, if_neg (by decide)]
      have e := m_yr d hw i (by omega)
      rw [mV_bg] at e
      rw [e, bI_k, w32n (by omega)]
    rcases least (fun i => bt (sAft (mV M) i) k) 201 with hall | ⟨t, ht, hf, hb⟩
    · refine opRK h (-1) 8 ?_ ?_
      · rw [q_x_lostIn, em_hasPart d h.rl, bI_k, if_pos c, if_neg (by decide)]
        refine up_loop (P := fun i => E2 d r_x_lostIn 11 [(0, vR 11 0), (1, vI (k : Int)), (2, vI (i : Int))] [] M) (n := 201) (fun i hi => xs i hi (hall i hi)) ?_ 0 (by omega)
        rw [q_x_lostIn_11, if_pos (by decide), x_refR]
      · have hw := wfb h 8
        rw [q_m_lostIn, m_isPartAt d (h.wb 8), bI_k, mV_bg, if_pos c, if_neg (by decide), m_keeps, bV_k]
        conv => lhs; rw [m_st0 hw]
        refine up_loop (P := fun i => E2 d r_m_lostIn 20 [(0, vR 12 179), (1, vI (k : Int)), (2, vI (-1)), (3, vI (i : Int))] [] (setC (nK (putI (putI (putI M 0 0 8) 179 1 0) 179 0 0)) (vY (mV (putI (putI (putI M 0 0 8) 179 1 0) 179 0 0)) i))) (n := 201) (fun i hi => ms 8 i hi (hall i hi)) ?_ 0 (by omega)
        rw [q_m_lostIn_20, if_pos (by decide), retY d hw, bV_k, if_pos (by decide), m_refR]
    · refine opAK h (t : Int) ?_ ?_
      · rw [q_x_lostIn, em_hasPart d h.rl, bI_k, if_pos c, if_neg (by decide)]
        refine up_loop (P := fun i => E2 d r_x_lostIn 11 [(0, vR 11 0), (1, vI (k : Int)), (2, vI (i : Int))] [] M) (n := t) (fun i hi => xs i (by omega) (hb i hi)) ?_ 0 (by omega)
        rw [q_x_lostIn_11, if_neg (by omega), em_knownAfter d h.rl, bI_k, bit_is (by omega), show bt (sAft (mV M) t) k = false from hf, if_pos (by decide), x_ansR]
      · have hw := wfb h 0
        rw [q_m_lostIn, m_isPartAt d (h.wb 0), bI_k, mV_bg, if_pos c, if_neg (by decide), m_keeps, bV_k]
        conv => lhs; rw [m_st0 hw]
        refine up_loop (P := fun i => E2 d r_m_lostIn 20 [(0, vR 12 179), (1, vI (k : Int)), (2, vI (-1)), (3, vI (i : Int))] [] (setC (nK (putI (putI (putI M 0 0 0) 179 1 0) 179 0 0)) (vY (mV (putI (putI (putI M 0 0 0) 179 1 0) 179 0 0)) i))) (n := t) (fun i hi => ms 0 i (by omega) (hb i hi)) ?_ 0 (by omega)
        rw [q_m_lostIn_20, if_neg (by omega), if_pos (by decide), m_knownNow d (by rw [mV_set]; exact wcY hw _), bI_k, m_has d _ k (by omega), bI_k, mV_set, nowY hw (by omega)]
        have e := m_yr d hw t (by omega)
        rw [e, bI_k, mV_bg, show bt (sAft (mV M) t) k = false from hf, if_pos b01_f, w32n (by omega), q_m_lostIn_20]
        have r := retY d hw ((t + 1 : Nat) : Int)
        rw [mV_bg] at r
        rw [r, bV_k]
        by_cases z : (200 : Int) < ((t + 1 : Nat) : Int)
        · rw [if_pos z, if_neg (by omega)]
        · rw [if_neg z, if_neg (by omega), if_neg (by omega)]
  · refine opR h (-1) 2 ?_ ?_
    · rw [q_x_lostIn, em_hasPart d h.rl, bI_k, if_neg c, if_pos rfl, x_refR]
    · rw [q_m_lostIn, m_isPartAt d (h.wb 2), bI_k, mV_bg, if_neg c, if_pos rfl, m_refR]
end Ahd
