/-! the safest lesson -/
def thF (V : Nat → Int) (p : Nat) : Int := if V (21 + p) = 0 then sSz (sWho V p) else 99
def thn (V : Nat → Int) : Int := mnF (thF V) 99 (V 0).toNat
def thG (V : Nat → Int) (p : Nat) : Int := if V (21 + p) = 1 then 8 else sSz (sWho V p)
def thc (V : Nat → Int) : Int := mnF (thG V) 8 (V 0).toNat
theorem thc_thn {V : Nat → Int} (hw : Wf V) : thc V = min 8 (thn V) := by
  have key : ∀ y, y < thc V ↔ y < min 8 (thn V) := by
    intro y
    have l1 := mnF_lt (f := thG V) (x := 8) (y := y) (V 0).toNat
    have l2 := mnF_lt (f := thF V) (x := 99) (y := y) (V 0).toNat
    unfold thc thn
    rw [l1]
    constructor
    · rintro ⟨h1, h2⟩
      have := l2.mpr ⟨by omega, fun i hi => by
        have h3 := h2 i hi
        have h4 := (hw.2.2.2.2.2.2.2.1 i (by omega)).2.2.1
        unfold thG at h3; unfold thF
        rcases h4 with h4 | h4
        · rw [if_neg (by omega)] at h3; rw [if_pos h4]; exact h3
        · rw [if_neg (by omega)]; omega⟩
      omega
    · intro h
      have h3 := l2.mp (by omega)
      refine ⟨by omega, fun i hi => ?_⟩
      have h4 := (hw.2.2.2.2.2.2.2.1 i (by omega)).2.2.1
      have h5 := h3.2 i hi
      unfold thF at h5; unfold thG
      rcases h4 with h4 | h4
      · rw [if_neg (by omega)]; rw [if_pos h4] at h5; exact h5
      · rw [if_pos h4]; omega
  have k1 := key (thc V)
  have k2 := key (min 8 (thn V))
  omega
theorem thn_b {V : Nat → Int} : 0 ≤ thn V ∧ thn V ≤ 99 ∧ (8 < thn V → thn V = 99) := by
  have l1 := mnF_lt (f := thF V) (x := 99) (y := -1) (V 0).toNat
  have l2 := mnF_lt (f := thF V) (x := 99) (y := 99) (V 0).toNat
  have l3 := mnF_lt (f := thF V) (x := 99) (y := 8) (V 0).toNat
  have l4 := mnF_lt (f := thF V) (x := 99) (y := 98) (V 0).toNat
  have u1 := l1.mpr ⟨by omega, fun i _ => by
    have := sz_b (sWho V i)
    unfold thF
    by_cases c : V (21 + i) = 0
    · rw [if_pos c]; omega
    · rw [if_neg c]; omega⟩
  have u2 : ¬ 99 < mnF (thF V) 99 (V 0).toNat := fun q => by have := (l2.mp q).1; omega
  unfold thn
  refine ⟨by omega, by omega, fun h => ?_⟩
  have h2 := l3.mp h
  have := l4.mpr ⟨by omega, fun i hi => by
    have h3 := h2.2 i hi
    have := sz_b (sWho V i)
    unfold thF at h3 ⊢
    by_cases c : V (21 + i) = 0
    · rw [if_pos c] at h3; omega
    · rw [if_neg c]; omega⟩
  omega
theorem thn_8 {V W : Nat → Int} (h0 : W 0 = V 0) (h : ∀ p : Nat, (p : Int) < V 0 → W (21 + p) = V (21 + p)) (h8 : thn V ≤ 8) : thn W ≤ 8 := by
  have l1 := mnF_lt (f := thF V) (x := 99) (y := 8) (V 0).toNat
  have l2 := mnF_lt (f := thF W) (x := 99) (y := 8) (V 0).toNat
  unfold thn at h8 ⊢
  rw [h0]
  rcases Int.lt_or_le 8 (mnF (thF W) 99 (V 0).toNat) with q | q
  · exfalso
    have h2 := l2.mp q
    have : 8 < mnF (thF V) 99 (V 0).toNat := l1.mpr ⟨by omega, fun i hi => by
      have h3 := h2.2 i hi
      have := sz_b (sWho W i)
      unfold thF at h3 ⊢
      rw [h i (by omega)] at h3
      by_cases c : V (21 + i) = 0
      · rw [if_pos c] at h3; omega
      · rw [if_neg c]; omega⟩
    omega
  · exact q
theorem thn_mono {V W : Nat → Int} (h0 : W 0 = V 0) (h : ∀ p : Nat, (p : Int) < V 0 → W (21 + p) = V (21 + p)) (hs : ∀ p : Nat, (p : Int) < V 0 → sSz (sWho W p) ≤ sSz (sWho V p) + 1) : thn W ≤ thn V + 1 := by
  have l1 := mnF_lt (f := thF V) (x := 99) (y := thn V) (V 0).toNat
  have l2 := mnF_lt (f := thF W) (x := 99) (y := thn V + 1) (V 0).toNat
  have hb := thn_b (V := V)
  have hn : ¬ thn V < thn V := by omega
  have e1 : mnF (thF V) 99 (V 0).toNat = thn V := rfl
  rw [e1] at l1
  have e2 : mnF (thF W) 99 (V 0).toNat = thn W := by unfold thn; rw [h0]
  rw [e2] at l2
  rcases Int.lt_or_le (thn V + 1) (thn W) with q | q
  · exfalso
    have h2 := l2.mp q
    apply hn
    refine l1.mpr ⟨by omega, fun i hi => ?_⟩
    have h3 := h2.2 i hi
    have h4 := hs i (by omega)
    unfold thF at h3 ⊢
    rw [h i (by omega)] at h3
    by_cases c : V (21 + i) = 0
    · rw [if_pos c] at h3 ⊢; omega
    · rw [if_neg c] at h3 ⊢; omega
  · exact q
theorem cnt_1 {p q : Nat → Bool} {h : Nat} (hp : ∀ i, i ≠ h → p i = q i) : ∀ n, n ≤ 1000 → smB p (fun _ => 1) n ≤ smB q (fun _ => 1) n + (if h < n then 1 else 0)
  | 0, _ => by
    rw [if_neg (by omega)]
    show (0 : Int) ≤ 0 + 0
    omega
  | n + 1, hn => by
    have ih := cnt_1 hp n (by omega)
    have b1 := (cnt_b p n (by omega)).1
    have b2 := (cnt_b q n (by omega)).1
    rw [smB_s, smB_s]
    by_cases c : n = h
    · subst c
      rw [if_pos (by omega)]
      rw [if_neg (by omega)] at ih
      cases p n <;> cases q n <;> simp only [cond_true, cond_false]
      · omega
      · rw [w32s (by omega)]; omega
      · rw [w32s (by omega)]; omega
      · rw [w32s (by omega), w32s (by omega)]; omega
    · rw [hp n c]
      have e : (if h < n + 1 then (1 : Int) else 0) = if h < n then 1 else 0 := by
        by_cases z : h < n
        · rw [if_pos z, if_pos (by omega)]
        · rw [if_neg z, if_neg (by omega)]
      rw [e]
      cases q n <;> simp only [cond_true, cond_false]
      · exact ih
      · rw [w32s (by omega), w32s (by omega)]; omega
/-- one lesson -/
def vL1 (V : Nat → Int) (h p : Nat) : Nat → Int := up1 V (49 + h) (xor32 (V (49 + h)) (xshl 1 (p : Int)))
theorem who_1 {V : Nat → Int} (hc : Wc V) {h p : Nat} (hh : h < 8) (q : Nat) : sSz (sWho (vL1 V h p) q) ≤ sSz (sWho V q) + 1 := by
  unfold Wc at hc
  have hb : ∀ i, i ≠ h → i < 32 → bt (sWho (vL1 V h p) q) i = bt (sWho V q) i := by
    intro i hi h32
    unfold sWho vL1
    rw [up1_n (j := 1) (by omega), bt_msk (by omega) h32, bt_msk (by omega) h32]
    by_cases c : i < (V 1).toNat
    · rw [up1_n (j := 57 + i) (by omega), up1_n (j := 49 + i) (by omega)]
    · rw [decide_eq_false c, Bool.false_and, Bool.false_and]
  have := cnt_1 (p := fun i => bt (sWho (vL1 V h p) q) i) (q := fun i => bif decide (i < 32) then bt (sWho V q) i else bt (sWho (vL1 V h p) q) i) (h := h) (fun i hi => by
    by_cases z : i < 32
    · rw [decide_eq_true z, cond_true]; exact hb i hi z
    · rw [decide_eq_false z, cond_false]) 8 (by omega)
  rw [if_pos hh] at this
  have e : smB (fun i => bif decide (i < 32) then bt (sWho V q) i else bt (sWho (vL1 V h p) q) i) (fun _ => 1) 8 = sSz (sWho V q) := sm_congr (fun i hi => by rw [decide_eq_true (show i < 32 by omega), cond_true]) (fun _ _ _ => rfl)
  rw [e] at this
  exact this
theorem wf_L1 {V : Nat → Int} (hw : Wf V) {h p : Nat} (hh : (h : Int) < V 1) (hp : p < 6) : Wf (vL1 V h p) := by
  have hc := hw.1
  unfold Wc at hc
  have := or_63 (hw.2.2.2.2.2.2.2.2.1 h hh).2.2.1 (one_63 p hp)
  exact wf_upd hw (by unfold OkAt; omega)
theorem back_L {v : Int} {p : Nat} (hp : p < 32) (hv : rI v) (h : bt v p = false) : xand (xor32 v (xshl 1 (p : Int))) (xxor (xshl 1 (p : Int)) (-1)) = v := by
  refine bt_ext (rI_and _ _) hv fun i hi => ?_
  rw [bt_and, bt_or, bt_not hi, bt_one p hp i hi]
  by_cases c : i = p
  · subst c; rw [h]; simp
  · rw [decide_eq_false c]; simp
theorem put_back {M : Mem} {a k : Nat} {x y : Int} (h : M.1 a k = y) : putI (putI M a k x) a k y = M := by
  refine Prod.ext (funext fun b => funext fun j => ?_) rfl
  show up2 (up2 M.1 a k x) a k y b j = M.1 b j
  unfold up2
  by_cases c : b = a ∧ j = k
  · rw [if_pos c, c.1, c.2, h]
  · rw [if_neg c, if_neg c]
def cnd (V : Nat → Int) (h p : Nat) : Bool := decide (V (57 + h) = 0) && (!bt (V (49 + h)) p && bt (sNow V) p)
def gd (V : Nat → Int) (k : Int) (h p : Nat) : Bool := cnd V h p && (decide (thn V < thn (vL1 V h p)) && !sSold (vL1 V h p) k)
section Lsn
variable {M : Mem} {e : Nat} {V : Nat → Int} (d : Nat)
theorem em_thin (h : Rl M e V) : C2 d j_em_thinnest [vR 1 e] M = some (some (vI (thc V)), M) := by
  have hc := h.1
  have h7 := h.2.1.2.2.2.2.2.2.2.1
  unfold Wc at hc
  rw [q_em_thinnest]
  refine it_loop (P := fun i s => E2 d r_em_thinnest 4 [(0, vR 1 e), (1, vI s), (2, vI (i : Int))] [] M) (r := fun s => some (some (vI s), M)) (f := fun p s => min s (thG V p)) (x := 8) (fun _ s => s ≤ 8) 0 (V 0).toNat (by omega) (Int.le_refl _) (fun i s h1 h2 hq => ⟨?_, by omega⟩) (fun s hq => ?_)
  · rw [q_em_thinnest_4, if_pos (by omega), em_isWritten d h i (by omega), bI_k, em_count d h, bI_k, mn_I, bI_k, w32n (by omega)]
    unfold thG
    by_cases c : V (21 + i) = 1
    · rw [decide_eq_true c, if_neg (by decide), if_pos c, show min s 8 = s by omega]
    · rw [decide_eq_false c, if_pos b01_f, if_neg c]
  · rw [q_em_thinnest_4, if_neg (by omega)]
theorem m_thin (hc : Wc (mV M)) : C2 d j_m_thinnest [vR 12 179] M = some (some (vI (thn (mV M))), M) := by
  have h7 : M.1 184 0 = mV M 0 := rfl
  have hc' := hc
  unfold Wc at hc'
  rw [q_m_thinnest]
  refine it_loop (P := fun i s => E2 d r_m_thinnest 4 [(0, vR 12 179), (1, vI s), (2, vI (i : Int))] [] M) (r := fun s => some (some (vI s), M)) (f := fun p s => min s (thF (mV M) p)) (x := 99) (fun _ s => s ≤ 99) 0 (mV M 0).toNat (by omega) (Int.le_refl _) (fun i s h1 h2 hq => ⟨?_, by omega⟩) (fun s hq => ?_)
  · rw [q_m_thinnest_4, if_pos (by omega), w32s (x := 21 + (i : Int)) (by omega), if_pos (by omega), show (21 + (i : Int)).toNat = 21 + i by omega, m_knowersOf d hc i (by omega), bI_k, m_sizeOf, bI_k, mn_I, bI_k, w32n (by omega), show M.1 184 (21 + i) = mV M (21 + i) from rfl]
    unfold thF
    by_cases c : mV M (21 + i) = 0
    · rw [if_pos c, if_pos c]
    · rw [if_neg c, if_neg c, show min s 99 = s by omega]
  · rw [q_m_thinnest_4, if_neg (by omega)]
theorem em_good (hr : Rl M e V) (hw : Wf V) (k : Int) (h p : Nat) (hh : (h : Int) < V 1) (hp : (p : Int) < V 0) (hb : bt (V (49 + h)) p = false) : C2 d j_em_isGoodLesson [vR 1 e, vR 3 ((e + 2) + 14 + 1 * h), vI (xshl 1 (p : Int)), vI k] M = some (some (vI (b01 (decide (thn V < thn (vL1 V h p)) && !sSold (vL1 V h p) k))), M) := by
  have hc := hr.1
  unfold Wc at hc
  have hk := (hr.2.2.2.1 h hh).2.2.1
  have h63 := (hw.2.2.2.2.2.2.2.2.1 h hh).2.2.1
  have r1 : Rl (putI M ((e + 2) + 14 + 1 * h) 3 (xor32 (V (49 + h)) (xshl 1 (p : Int)))) e (vL1 V h p) := hr.hnd (by omega) hh _
  have wfL := wf_L1 (h := h) (p := p) hw hh (by omega)
  have b1 := thn_b (V := V)
  have b2 := thn_b (V := vL1 V h p)
  have e0 : vL1 V h p 0 = V 0 := up1_n (by omega)
  have e21 : ∀ q : Nat, (q : Int) < V 0 → vL1 V h p (21 + q) = V (21 + q) := fun q hq => up1_n (by omega)
  rw [q_em_isGoodLesson, em_thin d hr, bI_k, hk, em_thin d r1, bI_k, em_sold d r1, bI_k, pI_s, back_L (by omega) (by unfold rI; omega) hb, put_back hk, thc_thn hw, thc_thn wfL]
  by_cases c : thn V < thn (vL1 V h p)
  · rw [decide_eq_true c]
    have h8 : thn V ≤ 8 := by omega
    have h9 := thn_8 e0 e21 h8
    rw [if_pos (by omega)]
    cases sSold (vL1 V h p) k <;> rfl
  · rw [decide_eq_false c, if_neg (by omega)]; rfl
theorem liv_bit (hc : Wc V) {h : Nat} (hh : (h : Int) < V 1) : bt (sLiv V) h = decide (V (57 + h) = 0) := by
  unfold Wc at hc
  unfold sLiv
  rw [bt_msk (by omega) (by omega), decide_eq_true (show h < (V 1).toNat by omega), Bool.true_and]
theorem em_row (hr : Rl M e V) (hw : Wf V) (k : Int) (h p : Nat) (hh : (h : Int) < V 1) (hp : (p : Int) < V 0) : E2 d r_em_bestLesson 15 [(0, vR 1 e), (1, vI k), (2, vI (sLiv V)), (3, vI (sNow V)), (4, vI (h : Int)), (5, vI (p : Int))] [] M = bif gd V k h p then some (some (vI (10 * (h : Int) + p)), M) else E2 d r_em_bestLesson 15 [(0, vR 1 e), (1, vI k), (2, vI (sLiv V)), (3, vI (sNow V)), (4, vI (h : Int)), (5, vI ((p + 1 : Nat) : Int))] [] M := by
  have hc := hr.1
  unfold Wc at hc
  have h7 := hr.2.1.2.2.2.2.2.2.2.1
  have hk := (hr.2.2.2.1 h hh).2.2.1
  rw [q_em_bestLesson_15, if_pos (by omega), bit_is (by omega), liv_bit hr.1 hh, if_pos (show (0 : Int) ≤ h ∧ (h : Int) < 8 by omega), Int.toNat_natCast, hk, bit_is (by omega), bt_and, bt_not (by omega), w32n (by omega), if_pos (show (0 : Int) ≤ h ∧ (h : Int) < 8 by omega), w32s (x := 10 * (h : Int)) (by omega), w32s (x := 10 * (h : Int) + (p : Int)) (by omega)]
  unfold gd cnd
  by_cases c : V (57 + h) = 0
  · rw [decide_eq_true c, if_pos (by decide)]
    cases hb : bt (V (49 + h)) p
    · rw [em_good d hr hw k h p hh hp hb, bI_k]
      cases bt (sNow V) p
      · rfl
      · cases decide (thn V < thn (vL1 V h p)) && !sSold (vL1 V h p) k
        · rfl
        · rfl
    · cases bt (sNow V) p
      · rfl
      · rfl
  · rw [decide_eq_false c, if_neg (by decide)]; rfl
theorem em_lesson (hr : Rl M e V) (hw : Wf V) (k : Int) : C2 d j_em_bestLesson [vR 1 e, vI k] M = E2 d r_em_bestLesson 9 [(0, vR 1 e), (1, vI k), (2, vI (sLiv V)), (3, vI (sNow V)), (4, vI 0)] [] M := by
  rw [q_em_bestLesson, em_living d hr, bI_k, em_knownAfter d hr, bI_k, sAft_0 hw.1]
theorem em_skip (hr : Rl M e V) (hw : Wf V) (k : Int) (h : Nat) (hh : (h : Int) < V 1) (hg : ∀ p : Nat, (p : Int) < V 0 → gd V k h p = false) : E2 d r_em_bestLesson 9 [(0, vR 1 e), (1, vI k), (2, vI (sLiv V)), (3, vI (sNow V)), (4, vI (h : Int))] [] M = E2 d r_em_bestLesson 9 [(0, vR 1 e), (1, vI k), (2, vI (sLiv V)), (3, vI (sNow V)), (4, vI ((h + 1 : Nat) : Int))] [] M := by
  have hc := hr.1
  unfold Wc at hc
  have h7 := hr.2.1.2.2.2.2.2.2.2.1
  have h8 := hr.2.1.2.2.2.2.2.2.2.2.1
  rw [q_em_bestLesson_9, if_pos (by omega)]
  refine up_loop (P := fun i => E2 d r_em_bestLesson 15 [(0, vR 1 e), (1, vI k), (2, vI (sLiv V)), (3, vI (sNow V)), (4, vI (h : Int)), (5, vI (i : Int))] [] M) (n := (V 0).toNat) (fun i hi => ?_) ?_ 0 (by omega)
  · rw [em_row d hr hw k h i hh (by omega), hg i (by omega), cond_false]
  · rw [q_em_bestLesson_15, if_neg (by omega), w32n (by omega)]
theorem em_hit (hr : Rl M e V) (hw : Wf V) (k : Int) (h p : Nat) (hh : (h : Int) < V 1) (hp : (p : Int) < V 0) (hg : ∀ q : Nat, q < p → gd V k h q = false) (hy : gd V k h p = true) : E2 d r_em_bestLesson 9 [(0, vR 1 e), (1, vI k), (2, vI (sLiv V)), (3, vI (sNow V)), (4, vI (h : Int))] [] M = some (some (vI (10 * (h : Int) + p)), M) := by
  have hc := hr.1
  unfold Wc at hc
  have h8 := hr.2.1.2.2.2.2.2.2.2.2.1
  rw [q_em_bestLesson_9, if_pos (by omega)]
  refine up_loop (P := fun i => E2 d r_em_bestLesson 15 [(0, vR 1 e), (1, vI k), (2, vI (sLiv V)), (3, vI (sNow V)), (4, vI (h : Int)), (5, vI (i : Int))] [] M) (n := p) (fun i hi => ?_) ?_ 0 (by omega)
  · rw [em_row d hr hw k h i hh (by omega), hg i hi, cond_false]
  · rw [em_row d hr hw k h p hh hp, hy, cond_true]
/-- the reference: what a lesson would give -/
def nnL (V : Nat → Int) (k : Int) (h p : Nat) : Int := bif sSold (vL1 V h p) k then -1 else thn (vL1 V h p)
theorem m_row (hw : Wf (mV M)) (k b mo : Int) (h p : Nat) (hh : (h : Int) < mV M 1) (hp : (p : Int) < mV M 0) : E2 d r_m_lesson 34 [(0, vR 12 179), (1, vI k), (2, vI b), (3, vI mo), (4, vI (sNow (mV M))), (5, vI (h : Int)), (6, vI (p : Int))] [] M = bif decide (mV M (57 + h) = 0) then (bif cnd (mV M) h p && decide (mo < nnL (mV M) k h p) then E2 d r_m_lesson 34 [(0, vR 12 179), (1, vI k), (2, vI (10 * (h : Int) + p)), (3, vI (nnL (mV M) k h p)), (4, vI (sNow (mV M))), (5, vI (h : Int)), (6, vI ((p + 1 : Nat) : Int))] [] M else E2 d r_m_lesson 34 [(0, vR 12 179), (1, vI k), (2, vI b), (3, vI mo), (4, vI (sNow (mV M))), (5, vI (h : Int)), (6, vI ((p + 1 : Nat) : Int))] [] M) else E2 d r_m_lesson 26 [(0, vR 12 179), (1, vI k), (2, vI b), (3, vI mo), (4, vI (sNow (mV M))), (5, vI ((h + 1 : Nat) : Int))] [] M := by
  have hc := hw.1
  unfold Wc at hc
  have h7 : M.1 184 0 = mV M 0 := rfl
  have h63 := (hw.2.2.2.2.2.2.2.2.1 h hh).2.2.1
  have wfL := wf_L1 (h := h) (p := p) hw hh (by omega)
  rw [q_m_lesson_34, if_pos (by omega), m_lives d h (by omega), bI_k, w32s (x := 49 + (h : Int)) (by omega), show (49 + (h : Int)).toNat = 49 + h by omega, show M.1 184 (49 + h) = mV M (49 + h) from rfl]
  simp only [if_pos (show (0 : Int) ≤ 49 + h ∧ 49 + (h : Int) < 1725 by omega)]
  rw [m_has d _ p (by omega), bI_k, m_has d _ p (by omega), bI_k, w32n (by omega), w32n (by omega), w32s (x := 10 * (h : Int)) (by omega), w32s (x := 10 * (h : Int) + (p : Int)) (by omega)]
  unfold cnd
  by_cases c : mV M (57 + h) = 0
  · rw [decide_eq_true c, if_neg (by decide), cond_true, Bool.true_and]
    cases hb : bt (mV M (49 + h)) p
    · rw [if_pos b01_f]
      cases hn : bt (sNow (mV M)) p
      · rfl
      · rw [if_neg (by decide), put_set0 (k := 49 + h)]
        have eL : setC M (up1 (mV M) (49 + h) (xor32 (M.1 184 (49 + h)) (xshl 1 (p : Int)))) = setC M (vL1 (mV M) h p) := rfl
        rw [eL, m_unsold d (by rw [mV_set]; exact wfL), bI_k, m_thin d (by rw [mV_set]; exact wfL.1), bI_k, mV_set, set_at, put_set]
        have eB : up1 (vL1 (mV M) h p) (49 + h) (xand (vL1 (mV M) h p (49 + h)) (xxor (xshl 1 (p : Int)) (-1))) = mV M := by
          unfold vL1
          rw [up1_s, back_L (by omega) (by unfold rI; omega) hb]
          funext j
          by_cases z : j = 49 + h
          · subst z; rw [up1_s]
          · rw [up1_n z, up1_n z]
        rw [eB, set_self]
        unfold nnL
        cases sSold (vL1 (mV M) h p) k
        · rw [if_neg (by decide), cond_false]
          by_cases z : mo < thn (vL1 (mV M) h p)
          · rw [if_pos z, decide_eq_true z]; rfl
          · rw [if_neg z, decide_eq_false z]; rfl
        · rw [if_pos (show b01 (!true) = 0 from rfl), cond_true]
          by_cases z : mo < -1
          · rw [if_pos z, decide_eq_true z]; rfl
          · rw [if_neg z, decide_eq_false z]; rfl
    · rw [if_neg (by decide)]; rfl
  · rw [decide_eq_false c, if_pos b01_f]; rfl
end Lsn
