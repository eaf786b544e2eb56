/-! deeds of an empire: both sides -/
def sc (i : Nat) (V : Nat → Int) : Nat → Int := fun k => if 27 ≤ k ∧ k < 27 + i then 0 else V k
theorem sc_0 {V : Nat → Int} : sc 0 V = V := funext fun k => if_neg (by omega)
theorem sc_s {V : Nat → Int} {i : Nat} : up1 (sc i V) (27 + i) 0 = sc (i + 1) V := by
  funext k
  unfold up1 sc
  by_cases h : k = 27 + i
  · rw [if_pos h, if_pos (by omega)]
  · rw [if_neg h]
    by_cases h2 : 27 ≤ k ∧ k < 27 + i
    · rw [if_pos h2, if_pos (by omega)]
    · rw [if_neg h2, if_neg (by omega)]
theorem sc_n {V : Nat → Int} {i k : Nat} (h : k < 27 ∨ 27 + i ≤ k) : sc i V k = V k := if_neg (by omega)
theorem wf_sc {V : Nat → Int} (h : Wf V) : ∀ i, i ≤ 6 → Wf (sc i V)
  | 0, _ => by rw [sc_0]; exact h
  | i + 1, hi => by
    rw [← sc_s]
    exact wf_upd (wf_sc h i (by omega)) (by unfold OkAt; omega)
theorem bt_wr {V : Nat → Int} (hc : Wc V) {i : Nat} (hi : i < 32) : bt (sWr V) i = (decide ((i : Int) < V 0) && decide (V (21 + i) = 1)) := by
  unfold Wc at hc
  unfold sWr
  rw [bt_msk (by omega) hi]
  congr 1
  rw [decide_eq_decide]
  omega
theorem rI_wr {V : Nat → Int} : rI (sWr V) := rI_un
theorem wc_upd {V : Nat → Int} {k : Nat} {x : Int} (h : Wc V) (hk : 3 ≤ k) : Wc (up1 V k x) := by
  unfold Wc at h ⊢
  rw [up1_n (by omega), up1_n (by omega), up1_n (by omega)]; exact h
theorem wr_set {V : Nat → Int} (hc : Wc V) {p : Nat} (hp : (p : Int) < V 0) : sWr (up1 V (21 + p) 1) = xor32 (sWr V) (xshl 1 (p : Int)) := by
  have hc' := hc
  unfold Wc at hc'
  refine bt_ext rI_wr (rI_or _ _) fun i hi => ?_
  rw [bt_or, bt_wr (wc_upd hc (by omega)) hi, bt_wr hc hi, bt_one p (by omega) i hi, up1_n (by omega)]
  by_cases c : i = p
  · subst c
    rw [up1_s, decide_eq_true hp]; simp
  · rw [up1_n (by omega), decide_eq_false c, Bool.or_false]
theorem wr_clr {V : Nat → Int} (hc : Wc V) {p : Nat} (hp : (p : Int) < V 0) : sWr (up1 V (21 + p) 0) = xand (sWr V) (xxor (xshl 1 (p : Int)) (-1)) := by
  have hc' := hc
  unfold Wc at hc'
  refine bt_ext rI_wr (rI_and _ _) fun i hi => ?_
  rw [bt_and, bt_wr (wc_upd hc (by omega)) hi, bt_wr hc hi, bt_not hi, bt_one p (by omega) i hi, up1_n (by omega)]
  by_cases c : i = p
  · subst c
    rw [up1_s]; simp
  · rw [up1_n (by omega), decide_eq_false c, Bool.not_false, Bool.and_true]
/-- what can be, and what is then -/
def okBr (V : Nat → Int) (n : Int) : Bool := sWhole V && !decide (V 7 < n)
def dBr (V : Nat → Int) (n : Int) : Nat → Int := bif okBr V n then sc (V 0).toNat (up1 (up1 V 7 (V 7 - n)) 5 (min 9999 (V 5 + n))) else V
def okSp (V : Nat → Int) : Bool := sWhole V && !decide (V 5 < 1)
def dSp (V : Nat → Int) : Nat → Int := bif okSp V then sc (V 0).toNat (up1 V 5 (V 5 - 1)) else V
def okT (V : Nat → Int) (a b p : Nat) : Bool := decide (V (57 + a) = 0) && (decide (V (57 + b) = 0) && (!bt (V (49 + b)) p && (bif decide (a = b) then decide (V (21 + p) = 1) else bt (V (49 + a)) p)))
def dT (V : Nat → Int) (a b p : Nat) : Nat → Int := bif okT V a b p then up1 V (49 + b) (xor32 (V (49 + b)) (xshl 1 (p : Int))) else V
def okN (V : Nat → Int) (p : Nat) (w : Bool) : Bool := bif w then !decide (V (21 + p) = 1) && !decide (sWho V p = 0) else decide (V (21 + p) = 1)
def dN (V : Nat → Int) (p : Nat) (w : Bool) : Nat → Int := bif okN V p w then up1 V (21 + p) (b01 w) else V
def okC' (V : Nat → Int) (h : Nat) : Bool := decide (V (57 + h) = 0)
def dC (V : Nat → Int) (h : Nat) : Nat → Int := bif okC' V h then up1 (up1 V (57 + h) 2) 8 (xor32 (V 8) (V (49 + h))) else V
theorem or_63 {x y : Int} (hx : 0 ≤ x ∧ x ≤ 63) (hy : 0 ≤ y ∧ y ≤ 63) : 0 ≤ xor32 x y ∧ xor32 x y ≤ 63 := by
  have h := small_of_bt 6 (by omega) (rI_or x y) (fun i hi h6 => by
    rw [bt_or, bt_of_small (n := 6) (by omega) hx.1 (by omega) h6, bt_of_small (n := 6) (by omega) hy.1 (by omega) h6]; rfl)
  have e : (2 : Int) ^ 6 = 64 := by decide
  omega
theorem and_63 {x y : Int} (hx : 0 ≤ x ∧ x ≤ 63) : 0 ≤ xand x y ∧ xand x y ≤ 63 := by
  have h := small_of_bt 6 (by omega) (rI_and x y) (fun i hi h6 => by
    rw [bt_and, bt_of_small (n := 6) (by omega) hx.1 (by omega) h6]; rfl)
  have e : (2 : Int) ^ 6 = 64 := by decide
  omega
theorem xx_63 {x y : Int} (hx : 0 ≤ x ∧ x ≤ 63) (hy : 0 ≤ y ∧ y ≤ 63) : 0 ≤ xxor x y ∧ xxor x y ≤ 63 := by
  have h := small_of_bt 6 (by omega) (rI_xx x y) (fun i hi h6 => by
    rw [bt_xx, bt_of_small (n := 6) (by omega) hx.1 (by omega) h6, bt_of_small (n := 6) (by omega) hy.1 (by omega) h6]; rfl)
  have e : (2 : Int) ^ 6 = 64 := by decide
  omega
theorem one_63 : ∀ p : Nat, p < 6 → 0 ≤ xshl 1 (p : Int) ∧ xshl 1 (p : Int) ≤ 63 := by decide +kernel
theorem wf_Br {V : Nat → Int} (h : Wf V) {n : Int} (hn : 1 ≤ n) : Wf (dBr V n) := by
  unfold dBr
  have hc := h.1
  unfold Wc at hc
  cases c : okBr V n
  · exact h
  · unfold okBr at c
    rw [Bool.and_eq_true, Bool.not_eq_true', decide_eq_false_iff_not] at c
    have h7 := h.2.2.2.2.2.1
    have h5 := h.2.2.2.1
    exact wf_sc (wf_upd (wf_upd h (by unfold OkAt; omega)) (by unfold OkAt; omega)) _ (by omega)
theorem wf_Sp {V : Nat → Int} (h : Wf V) : Wf (dSp V) := by
  unfold dSp
  have hc := h.1
  unfold Wc at hc
  cases c : okSp V
  · exact h
  · unfold okSp at c
    rw [Bool.and_eq_true, Bool.not_eq_true', decide_eq_false_iff_not] at c
    have h5 := h.2.2.2.1
    exact wf_sc (wf_upd h (by unfold OkAt; omega)) _ (by omega)
theorem wf_T {V : Nat → Int} (h : Wf V) {a b p : Nat} (hb : (b : Int) < V 1) (hp : (p : Int) < V 0) : Wf (dT V a b p) := by
  unfold dT
  have hc := h.1
  unfold Wc at hc
  cases c : okT V a b p
  · exact h
  · have hb2 := (h.2.2.2.2.2.2.2.2.1 b hb).2.2.1
    have := or_63 hb2 (one_63 p (by omega))
    exact wf_upd h (by unfold OkAt; omega)
theorem wf_N {V : Nat → Int} (h : Wf V) {p : Nat} {w : Bool} (hp : (p : Int) < V 0) : Wf (dN V p w) := by
  unfold dN
  have hc := h.1
  unfold Wc at hc
  cases c : okN V p w
  · exact h
  · have := b01_or w
    exact wf_upd h (by unfold OkAt; omega)
theorem wf_C {V : Nat → Int} (h : Wf V) {a : Nat} (ha : (a : Int) < V 1) : Wf (dC V a) := by
  unfold dC
  have hc := h.1
  unfold Wc at hc
  cases c : okC' V a
  · exact h
  · have h2 := (h.2.2.2.2.2.2.2.2.1 a ha).2.2.1
    have := or_63 h.2.2.2.2.2.2.1 h2
    exact wf_upd (wf_upd h (by unfold OkAt; omega)) (by unfold OkAt; omega)
theorem b01_f : b01 false = 0 := rfl
section DeedE
variable {M : Mem} {e : Nat} {V : Nat → Int} (d : Nat)
theorem em_scour (h : Rl M e V) : ∃ M', C2 d j_em_scourRust [vR 1 e] M = some (none, M') ∧ Rl M' e (sc (V 0).toNat V) ∧ Fe e M M' := by
  have hc := h.1
  unfold Wc at hc
  rw [q_em_scourRust]
  refine ex_loop (P := fun i M' => E2 d r_em_scourRust 2 [(0, vR 1 e), (1, vI (i : Int))] [] M') (R := fun r => ∃ M', r = some (none, M') ∧ Rl M' e (sc (V 0).toNat V) ∧ Fe e M M') (fun i M' => Rl M' e (sc i V) ∧ Fe e M M') (V 0).toNat (fun i M' hi hq => ?_) (fun M' hq => ?_) M ⟨by rw [sc_0]; exact h, Fe.rfl⟩
  · have h7 : M'.1 e 7 = V 0 := hq.1.2.1.2.2.2.2.2.2.2.1.trans (sc_n (by omega))
    refine ⟨putI M' ((e + 1) + 9 + 1 * i) 3 0, ?_, ?_, hq.2.tr (Fe.p (by omega))⟩
    · rw [q_em_scourRust_2, if_pos (by omega), if_pos (by omega), Int.toNat_natCast, w32n (by omega)]
    · rw [← sc_s]
      exact hq.1.rust (by rw [sc_n (by omega)]; omega) 0
  · have h7 : M'.1 e 7 = V 0 := hq.1.2.1.2.2.2.2.2.2.2.1.trans (sc_n (by omega))
    rw [q_em_scourRust_2, if_neg (by omega)]
    exact ⟨M', rfl, hq⟩
theorem em_brew (h : Rl M e V) (hw : Wf V) (n : Int) (hn : 1 ≤ n ∧ n ≤ 999) : ∃ M', C2 d j_em_brew [vR 1 e, vI n] M = some (some (vI (b01 (okBr V n))), M') ∧ Rl M' e (dBr V n) ∧ Fe e M M' := by
  have h7 := hw.2.2.2.2.2.1
  have h5 := hw.2.2.2.1
  have hs := h.2.1
  rw [q_em_brew, em_whole d h, bI_k, hs.2.2.2.2.1]
  unfold dBr okBr
  cases c : sWhole V
  · exact ⟨M, rfl, h, Fe.rfl⟩
  · rw [if_neg (by decide)]
    by_cases c2 : V 7 < n
    · rw [if_pos c2, decide_eq_true c2]
      exact ⟨M, rfl, h, Fe.rfl⟩
    · rw [if_neg c2, decide_eq_false c2, mn_I, bI_k, w32s (x := V 7 - n) (by omega), show (putI M e 4 (V 7 - n)).1 e 2 = V 5 from (up2_nk (by omega)).trans hs.2.2.1, w32s (x := V 5 + n) (by omega)]
      have r1 : Rl (putI (putI M e 4 (V 7 - n)) e 2 (min 9999 (V 5 + n))) e (up1 (up1 V 7 (V 7 - n)) 5 (min 9999 (V 5 + n))) := (h.fld (by omega) _).fld (by omega) _
      obtain ⟨M', e1, e2, e3⟩ := em_scour d r1
      rw [e1, bV_k]
      refine ⟨M', rfl, ?_, ((Fe.p (by omega)).tr (Fe.p (by omega))).tr e3⟩
      rw [up1_n (by omega), up1_n (by omega)] at e2
      exact e2
theorem em_spend (h : Rl M e V) (hw : Wf V) : ∃ M', C2 d j_em_spend [vR 1 e] M = some (some (vI (b01 (okSp V))), M') ∧ Rl M' e (dSp V) ∧ Fe e M M' := by
  have h5 := hw.2.2.2.1
  have hs := h.2.1
  rw [q_em_spend, em_whole d h, bI_k, hs.2.2.1]
  unfold dSp okSp
  cases c : sWhole V
  · exact ⟨M, rfl, h, Fe.rfl⟩
  · rw [if_neg (by decide)]
    by_cases c2 : V 5 < 1
    · rw [if_pos c2, decide_eq_true c2]
      exact ⟨M, rfl, h, Fe.rfl⟩
    · rw [if_neg c2, decide_eq_false c2, w32s (x := V 5 - 1) (by omega)]
      have r1 : Rl (putI M e 2 (V 5 - 1)) e (up1 V 5 (V 5 - 1)) := h.fld (by omega) _
      obtain ⟨M', e1, e2, e3⟩ := em_scour d r1
      rw [e1, bV_k]
      refine ⟨M', rfl, ?_, (Fe.p (by omega)).tr e3⟩
      rw [up1_n (by omega)] at e2
      exact e2
theorem em_teach (h : Rl M e V) (a b p : Nat) (ha : (a : Int) < V 1) (hb : (b : Int) < V 1) (hp : (p : Int) < V 0) : ∃ M', C2 d j_em_instruct [vR 1 e, vI (a : Int), vI (b : Int), vI (p : Int)] M = some (some (vI (b01 (okT V a b p))), M') ∧ Rl M' e (dT V a b p) ∧ Fe e M M' := by
  have hc := h.1
  unfold Wc at hc
  have ha' := h.2.2.2.1 a ha
  have hb' := h.2.2.2.1 b hb
  rw [q_em_instruct, if_pos (by omega), if_pos (by omega), Int.toNat_natCast, Int.toNat_natCast, em_isWritten d h p hp, bI_k, ha'.2.2.2, ha'.2.2.1, hb'.2.2.2, hb'.2.2.1, bit_is (by omega), bit_is (by omega)]
  have good : okT V a b p = true → ∃ M', some (some (vI 1), putI M ((e + 2) + 14 + 1 * b) 3 (xor32 (V (49 + b)) (xshl 1 (p : Int)))) = some (some (vI (b01 (okT V a b p))), M') ∧ Rl M' e (dT V a b p) ∧ Fe e M M' := by
    intro g
    refine ⟨putI M ((e + 2) + 14 + 1 * b) 3 (xor32 (V (49 + b)) (xshl 1 (p : Int))), ?_, ?_, Fe.p (by omega)⟩
    · rw [g]; rfl
    · unfold dT
      rw [g]
      exact h.hnd (by omega) hb _
  have bad : okT V a b p = false → ∃ M', some (some (vI 0), M) = some (some (vI (b01 (okT V a b p))), M') ∧ Rl M' e (dT V a b p) ∧ Fe e M M' := by
    intro g
    refine ⟨M, ?_, ?_, Fe.rfl⟩
    · rw [g]; rfl
    · unfold dT
      rw [g]; exact h
  unfold b01 at *
  by_cases c : a = b
  · subst c
    rw [if_pos rfl]
    by_cases c1 : V (57 + a) = 0
    · by_cases c3 : V (21 + p) = 1
      · cases c2 : bt (V (49 + a)) p
        · simpa [c1, c3] using good (by simp [okT, c1, c2, c3])
        · simpa [c1, c3] using bad (by simp [okT, c1, c2, c3])
      · simpa [c1, c3] using bad (by simp [okT, c1, c3])
    · by_cases c3 : V (21 + p) = 1
      · simpa [c1, c3] using bad (by simp [okT, c1])
      · simpa [c1, c3] using bad (by simp [okT, c1])
  · rw [if_neg (by omega)]
    by_cases c1 : V (57 + a) = 0
    · rw [if_pos c1]
      cases c2 : bt (V (49 + a)) p
      · simpa using bad (by simp [okT, c2, c])
      · by_cases c3 : V (57 + b) = 0
        · rw [if_pos rfl, if_pos c3]
          cases c4 : bt (V (49 + b)) p
          · simpa using good (by simp [okT, c1, c2, c3, c4, c])
          · simpa using bad (by simp [okT, c4])
        · simpa [c3] using bad (by simp [okT, c3])
    · simpa [c1] using bad (by simp [okT, c1])
theorem em_write (h : Rl M e V) (p : Nat) (hp : (p : Int) < V 0) : ∃ M', C2 d j_em_writeDown [vR 1 e, vI (p : Int)] M = some (some (vI (b01 (okN V p true))), M') ∧ Rl M' e (dN V p true) ∧ Fe e M M' := by
  rw [q_em_writeDown, em_isWritten d h p hp, bI_k, em_livingThatKnow d h, bI_k, h.2.1.2.2.2.2.2.2.1]
  unfold dN okN
  by_cases c : V (21 + p) = 1
  · rw [decide_eq_true c]
    exact ⟨M, rfl, h, Fe.rfl⟩
  · rw [decide_eq_false c]
    by_cases c2 : sWho V p = 0
    · rw [decide_eq_true c2, if_pos c2]
      exact ⟨M, rfl, h, Fe.rfl⟩
    · rw [decide_eq_false c2, if_neg c2]
      exact ⟨_, rfl, h.wri hp 1 _ (wr_set h.1 hp), Fe.p (by omega)⟩
theorem em_burn (h : Rl M e V) (p : Nat) (hp : (p : Int) < V 0) : ∃ M', C2 d j_em_burnDown [vR 1 e, vI (p : Int)] M = some (some (vI (b01 (okN V p false))), M') ∧ Rl M' e (dN V p false) ∧ Fe e M M' := by
  rw [q_em_burnDown, em_isWritten d h p hp, bI_k, h.2.1.2.2.2.2.2.2.1]
  unfold dN okN
  by_cases c : V (21 + p) = 1
  · rw [decide_eq_true c]
    exact ⟨_, rfl, h.wri hp 0 _ (wr_clr h.1 hp), Fe.p (by omega)⟩
  · rw [decide_eq_false c]
    exact ⟨M, rfl, h, Fe.rfl⟩
theorem em_seize (h : Rl M e V) (a : Nat) (ha : (a : Int) < V 1) : ∃ M', C2 d j_em_seize [vR 1 e, vI (a : Int)] M = some (some (vI (b01 (okC' V a))), M') ∧ Rl M' e (dC V a) ∧ Fe e M M' := by
  have hc := h.1
  unfold Wc at hc
  have ha' := h.2.2.2.1 a ha
  rw [q_em_seize, if_pos (by omega), Int.toNat_natCast, ha'.2.2.2]
  unfold dC okC'
  by_cases c : V (57 + a) = 0
  · rw [if_pos c, if_pos (by omega), if_pos (by omega), decide_eq_true c, show (putI M ((e + 2) + 14 + 1 * a) 4 2).1 e 5 = V 8 from (up2_na (by omega)).trans h.2.1.2.2.2.2.2.1, show (putI M ((e + 2) + 14 + 1 * a) 4 2).1 ((e + 2) + 14 + 1 * a) 3 = V (49 + a) from (up2_nk (by omega)).trans ha'.2.2.1]
    exact ⟨_, rfl, (h.hnd (j := 57) (by omega) ha 2).fld (by omega) _, (Fe.p (by omega)).tr (Fe.p (by omega))⟩
  · rw [if_neg c, decide_eq_false c]
    exact ⟨M, rfl, h, Fe.rfl⟩
end DeedE
section DeedM
variable {M : Mem} (d : Nat)
theorem m_used (hc : Wc (mV M)) : C2 d j_m_used [vR 12 179] M = some (none, setC M (sc (mV M 0).toNat (mV M))) := by
  unfold Wc at hc
  rw [q_m_used]
  refine ex_loop (P := fun i M' => E2 d r_m_used 2 [(0, vR 12 179), (1, vI (i : Int))] [] M') (R := fun r => r = some (none, setC M (sc (mV M 0).toNat (mV M)))) (fun i M' => M' = setC M (sc i (mV M))) (mV M 0).toNat (fun i M' hi hq => ?_) (fun M' hq => ?_) M (by rw [sc_0, set_self])
  · subst hq
    refine ⟨_, ?_, rfl⟩
    rw [q_m_used_2, set_at, sc_n (by omega), if_pos (by omega), w32s (x := 27 + (i : Int)) (by omega), if_pos (by omega), show (27 + (i : Int)).toNat = 27 + i by omega, w32n (by omega), put_set, sc_s]
  · subst hq
    rw [q_m_used_2, set_at, sc_n (by omega), if_neg (by omega)]
theorem m_makes (hw : Wf (mV M)) (n : Int) (hn : 1 ≤ n ∧ n ≤ 999) : C2 d j_m_makes [vR 12 179, vI n] M = some (some (vI (b01 (okBr (mV M) n))), setC M (dBr (mV M) n)) := by
  have h7 := hw.2.2.2.2.2.1
  have h5 := hw.2.2.2.1
  have e7 : M.1 184 7 = mV M 7 := rfl
  have e5 : M.1 184 5 = mV M 5 := rfl
  rw [q_m_makes, m_isWhole d hw.1, bI_k, e7]
  unfold dBr okBr
  cases c : sWhole (mV M)
  · show some (some (vI 0), M) = some (some (vI 0), setC M (mV M))
    rw [set_self]
  · rw [if_neg (by decide)]
    by_cases c2 : mV M 7 < n
    · rw [if_pos c2, decide_eq_true c2]
      show some (some (vI 0), M) = some (some (vI 0), setC M (mV M))
      rw [set_self]
    · rw [if_neg c2, decide_eq_false c2, mn_I, bI_k, w32s (x := mV M 7 - n) (by omega), show (putI M 184 7 (mV M 7 - n)).1 184 5 = mV M 5 from (show up2 M.1 184 7 (mV M 7 - n) 184 5 = M.1 184 5 from up2_nk (by decide)), w32s (x := mV M 5 + n) (by omega), put_set0 (k := 7), put_set, m_used d (by rw [mV_set]; exact wc_upd (wc_upd hw.1 (by omega)) (by omega)), bV_k, mV_set, set_set, up1_n (by omega), up1_n (by omega)]
      rfl
theorem m_uses (hw : Wf (mV M)) : C2 d j_m_uses [vR 12 179] M = some (some (vI (b01 (okSp (mV M)))), setC M (dSp (mV M))) := by
  have h5 := hw.2.2.2.1
  have e5 : M.1 184 5 = mV M 5 := rfl
  rw [q_m_uses, m_isWhole d hw.1, bI_k, e5]
  unfold dSp okSp
  cases c : sWhole (mV M)
  · show some (some (vI 0), M) = some (some (vI 0), setC M (mV M))
    rw [set_self]
  · rw [if_neg (by decide)]
    by_cases c2 : mV M 5 < 1
    · rw [if_pos (by omega), decide_eq_true c2]
      show some (some (vI 0), M) = some (some (vI 0), setC M (mV M))
      rw [set_self]
    · rw [if_neg (by omega), decide_eq_false c2, w32s (x := mV M 5 - 1) (by omega), put_set0, m_used d (by rw [mV_set]; exact wc_upd hw.1 (by omega)), bV_k, mV_set, set_set, up1_n (by omega)]
      rfl
theorem m_teaches (hw : Wf (mV M)) (a b p : Nat) (ha : (a : Int) < mV M 1) (hb : (b : Int) < mV M 1) (hp : (p : Int) < mV M 0) : C2 d j_m_teaches [vR 12 179, vI (a : Int), vI (b : Int), vI (p : Int)] M = some (some (vI (b01 (okT (mV M) a b p))), setC M (dT (mV M) a b p)) := by
  have hc := hw.1
  unfold Wc at hc
  have e1 : ∀ k, M.1 184 k = mV M k := fun _ => rfl
  have h21 := (hw.2.2.2.2.2.2.2.1 p hp).2.2.1
  rw [q_m_teaches, m_lives d a (by omega), bI_k, m_lives d b (by omega), bI_k, w32s (x := 49 + (b : Int)) (by omega), if_pos (show (0 : Int) ≤ 49 + b ∧ 49 + (b : Int) < 1725 by omega), show (49 + (b : Int)).toNat = 49 + b by omega, m_has d _ p (by omega), bI_k, w32s (x := 21 + (p : Int)) (by omega), if_pos (show (0 : Int) ≤ 21 + p ∧ 21 + (p : Int) < 1725 by omega), show (21 + (p : Int)).toNat = 21 + p by omega, w32s (x := 49 + (a : Int)) (by omega), if_pos (show (0 : Int) ≤ 49 + a ∧ 49 + (a : Int) < 1725 by omega), show (49 + (a : Int)).toNat = 49 + a by omega, m_has d _ p (by omega), bI_k, put_set0, e1, e1, e1]
  have good : okT (mV M) a b p = true → some (some (vI 1), setC M (up1 (mV M) (49 + b) (xor32 (mV M (49 + b)) (xshl 1 (p : Int))))) = some (some (vI (b01 (okT (mV M) a b p))), setC M (dT (mV M) a b p)) := by
    intro g
    unfold dT
    rw [g]; rfl
  have bad : okT (mV M) a b p = false → some (some (vI 0), M) = some (some (vI (b01 (okT (mV M) a b p))), setC M (dT (mV M) a b p)) := by
    intro g
    unfold dT
    rw [g]
    show some (some (vI 0), M) = some (some (vI 0), setC M (mV M))
    rw [set_self]
  by_cases c1 : mV M (57 + a) = 0
  · rw [decide_eq_true c1, if_neg (by decide)]
    by_cases c3 : mV M (57 + b) = 0
    · rw [decide_eq_true c3, if_neg (by decide)]
      cases c4 : bt (mV M (49 + b)) p
      · rw [if_pos b01_f, if_pos (show (0 : Int) ≤ 49 + b ∧ 49 + (b : Int) < 1725 by omega), if_pos (show (0 : Int) ≤ 49 + b ∧ 49 + (b : Int) < 1725 by omega)]
        by_cases c : a = b
        · subst c
          rw [if_pos rfl]
          rcases h21 with g | g
          · rw [if_pos g]
            exact bad (by simp [okT, g])
          · rw [if_neg (by omega)]
            exact good (by simp [okT, g, c1, c4])
        · rw [if_neg (by omega)]
          cases c2 : bt (mV M (49 + a)) p
          · rw [if_pos b01_f]
            exact bad (by simp [okT, c2, c])
          · rw [if_neg (by decide)]
            exact good (by simp [okT, c1, c2, c3, c4, c])
      · rw [if_neg (by decide)]
        exact bad (by simp [okT, c4])
    · rw [decide_eq_false c3, if_pos b01_f]
      exact bad (by simp [okT, c3])
  · rw [decide_eq_false c1, if_pos b01_f]
    exact bad (by simp [okT, c1])
theorem m_notes (hw : Wf (mV M)) (p : Nat) (hp : (p : Int) < mV M 0) (w : Bool) : C2 d j_m_notes [vR 12 179, vI (p : Int), vI (b01 w)] M = some (some (vI (b01 (okN (mV M) p w))), setC M (dN (mV M) p w)) := by
  have hc := hw.1
  unfold Wc at hc
  have e1 : M.1 184 (21 + p) = mV M (21 + p) := rfl
  rw [q_m_notes, w32s (x := 21 + (p : Int)) (by omega), if_pos (show (0 : Int) ≤ 21 + p ∧ 21 + (p : Int) < 1725 by omega), show (21 + (p : Int)).toNat = 21 + p by omega, m_knowersOf d hw.1 p (by omega), bI_k, put_set0, put_set0, e1]
  unfold dN okN
  by_cases c : mV M (21 + p) = 1
  · rw [if_pos c, decide_eq_true c]
    cases w
    · simp [b01, show (0 : Int) ≤ 21 + p ∧ 21 + (p : Int) < 1725 by omega]
    · simp [b01, set_self]
  · rw [if_neg c, decide_eq_false c]
    cases w
    · simp [b01, set_self]
    · by_cases c2 : sWho (mV M) p = 0
      · simp [b01, c2, set_self]
      · simp [b01, c2, show (0 : Int) ≤ 21 + p ∧ 21 + (p : Int) < 1725 by omega]
theorem m_captures (hw : Wf (mV M)) (a : Nat) (ha : (a : Int) < mV M 1) : C2 d j_m_captures [vR 12 179, vI (a : Int)] M = some (some (vI (b01 (okC' (mV M) a))), setC M (dC (mV M) a)) := by
  have hc := hw.1
  unfold Wc at hc
  rw [q_m_captures, m_lives d a (by omega), bI_k, w32s (x := 57 + (a : Int)) (by omega), if_pos (show (0 : Int) ≤ 57 + a ∧ 57 + (a : Int) < 1725 by omega), show (57 + (a : Int)).toNat = 57 + a by omega, w32s (x := 49 + (a : Int)) (by omega), if_pos (show (0 : Int) ≤ 49 + a ∧ 49 + (a : Int) < 1725 by omega), show (49 + (a : Int)).toNat = 49 + a by omega, put_set0 (k := 57 + a), set_at, set_at, up1_n (by omega), up1_n (by omega), put_set]
  unfold dC okC'
  by_cases c : mV M (57 + a) = 0
  · rw [decide_eq_true c]; rfl
  · rw [decide_eq_false c]
    show some (some (vI 0), M) = some (some (vI 0), setC M (mV M))
    rw [set_self]
end DeedM
