/-! who can sell, what is frail -/
theorem it_loop {α : Type} {P : Nat → α → Option Res} {r : α → Option Res} {f : Nat → α → α} {x : α} (Q : Nat → α → Prop) (a n : Nat) (ha : a ≤ n) (h0 : Q a (itr f x a)) (step : ∀ i s, a ≤ i → i < n → Q i s → P i s = P (i + 1) (f i s) ∧ Q (i + 1) (f i s)) (fin : ∀ s, Q n s → P n s = r s) : P a (itr f x a) = r (itr f x n) := by
  have hQ : ∀ k, a + k ≤ n → Q (a + k) (itr f x (a + k)) := by
    intro k
    induction k with
    | zero => exact fun _ => h0
    | succ k ih => exact fun hk => (step (a + k) _ (by omega) (by omega) (ih (by omega))).2
  have hQ' : ∀ i, a ≤ i → i ≤ n → Q i (itr f x i) := by
    intro i h1 h2
    obtain ⟨k, rfl⟩ : ∃ k, i = a + k := ⟨i - a, by omega⟩
    exact hQ k h2
  have key : ∀ k i, a ≤ i → i + k = n → P i (itr f x i) = r (itr f x n) := by
    intro k
    induction k with
    | zero =>
      intro i h1 h2
      have : i = n := by omega
      subst this
      exact fin _ (hQ' _ h1 (Nat.le_refl _))
    | succ k ih =>
      intro i h1 h2
      rw [(step i _ h1 (by omega) (hQ' i h1 (by omega))).1]
      exact ih (i + 1) (by omega) (by omega)
  exact key (n - a) a (Nat.le_refl _) (by omega)
theorem cnt_b (p : Nat → Bool) (n : Nat) (hn : n < 1000) : (0 ≤ smB p (fun _ => 1) n ∧ smB p (fun _ => 1) n ≤ n) ∧ (0 < smB p (fun _ => 1) n ↔ ∃ i, i < n ∧ p i = true) := by
  induction n with
  | zero =>
    refine ⟨⟨Int.le_refl _, Int.le_refl _⟩, ⟨fun h => absurd h (Int.lt_irrefl _), fun ⟨i, hi, _⟩ => by omega⟩⟩
  | succ n ih =>
    have ih := ih (by omega)
    rw [smB_s]
    cases hp : p n with
    | false =>
      refine ⟨⟨ih.1.1, ?_⟩, ?_⟩
      · show smB p (fun _ => 1) n ≤ _
        omega
      · show 0 < smB p (fun _ => 1) n ↔ _
        rw [ih.2]
        constructor
        · rintro ⟨i, hi, h⟩; exact ⟨i, by omega, h⟩
        · rintro ⟨i, hi, h⟩
          by_cases e : i = n
          · subst e; rw [hp] at h; cases h
          · exact ⟨i, by omega, h⟩
    | true =>
      have e : w32 (smB p (fun _ => 1) n + 1) = smB p (fun _ => 1) n + 1 := w32s (by omega)
      show (0 ≤ w32 (smB p (fun _ => 1) n + 1) ∧ w32 (smB p (fun _ => 1) n + 1) ≤ _) ∧ (0 < w32 (smB p (fun _ => 1) n + 1) ↔ _)
      rw [e]
      refine ⟨by omega, ⟨fun _ => ⟨n, by omega, hp⟩, fun _ => by omega⟩⟩
theorem sz_b (x : Int) : 0 ≤ sSz x ∧ sSz x ≤ 8 := (cnt_b _ 8 (by omega)).1
theorem sz_pos {x : Int} : 0 < sSz x ↔ ∃ i, i < 8 ∧ bt x i = true := (cnt_b _ 8 (by omega)).2
theorem msk_b {p : Nat → Bool} {n : Nat} (hn : n ≤ 8) : 0 ≤ unB p (fun h => xshl 1 (h : Int)) n ∧ unB p (fun h => xshl 1 (h : Int)) n < 256 := by
  have := small_of_bt 8 (by omega) (rI_un (p := p) (f := fun h => xshl 1 (h : Int)) (n := n)) (fun i hi h8 => by
    rw [bt_msk (by omega) hi, decide_eq_false (by omega), Bool.false_and])
  exact this
theorem liv_b {V : Nat → Int} (hc : Wc V) : 0 ≤ sLiv V ∧ sLiv V < 256 := by
  unfold Wc at hc
  exact msk_b (by omega)
theorem who_b {V : Nat → Int} (hc : Wc V) (p : Int) : 0 ≤ sWho V p ∧ sWho V p < 256 := by
  unfold Wc at hc
  exact msk_b (by omega)
theorem un_none {p : Nat → Bool} {f : Nat → Int} {n : Nat} (h : ∀ i, i < n → p i = false) : unB p f n = 0 := by
  unfold unB
  refine itr_ind (P := fun _ s => s = 0) rfl _ (fun i s hi hs => ?_)
  rw [h i hi, hs]; rfl
theorem sTo_0 {V : Nat → Int} : sTo V 0 = 0 := un_none fun i _ => bt_0 i
theorem ap_pos : ∀ k : Nat, k < 7 → 0 < k → w32 (xshl 1 (k : Int) - 1) ≠ 0 := by decide +kernel
theorem sSell_0 {V : Nat → Int} (hc : Wc V) : sSell V 0 = false := by
  unfold Wc at hc
  unfold sSell
  rw [sTo_0]
  by_cases c : 0 < V 0
  · have h := ap_pos (V 0).toNat (by omega) (by omega)
    rw [show (((V 0).toNat : Nat) : Int) = V 0 by omega] at h
    rw [decide_eq_false (show ¬ 0 = sAP V from fun q => h q.symm), Bool.and_false]
  · rw [decide_eq_false c, Bool.false_and]
def btr (V : Nat → Int) (c : Bool) (i b : Int) : Bool := bif c then decide (sPr V i < sPr V b) || (decide (sPr V i = sPr V b) && decide (sSz i < sSz b)) else decide (sSz i < sSz b)
def fBst (V : Nat → Int) (c : Bool) (i : Nat) (b : Int) : Int := bif decide (xand (i : Int) (xxor (sLiv V) (-1)) = 0) && (sSell V i && (decide (b < 0) || btr V c i b)) then (i : Int) else b
def sBst (V : Nat → Int) (c : Bool) : Int := itr (fBst V c) (-1) ((sLiv V).toNat + 1)
def qB (b : Int) : Prop := b = -1 ∨ (0 ≤ b ∧ b < 256)
theorem fBst_q {V : Nat → Int} {c : Bool} {i : Nat} {b : Int} (hi : i < 256) (h : qB b) : qB (fBst V c i b) := by
  unfold fBst
  cases decide (xand (i : Int) (xxor (sLiv V) (-1)) = 0) && (sSell V i && (decide (b < 0) || btr V c i b))
  · exact h
  · exact Or.inr ⟨by show (0 : Int) ≤ i; omega, by show (i : Int) < 256; omega⟩
theorem sBst_q {V : Nat → Int} (hc : Wc V) (c : Bool) : qB (sBst V c) := by
  have hl := liv_b hc
  unfold sBst
  exact itr_ind (P := fun _ s => qB s) (Or.inl rfl) _ (fun i s hi hs => fBst_q (by omega) hs)
theorem itr_1 {V : Nat → Int} (hc : Wc V) (c : Bool) : itr (fBst V c) (-1) 1 = -1 := by
  show fBst V c 0 (-1) = -1
  unfold fBst
  rw [show sSell V ((0 : Nat) : Int) = false from sSell_0 hc]
  simp
theorem pr_b {V : Nat → Int} (hw : Wf V) (p : Int) : 0 ≤ sPr V p ∧ sPr V p ≤ 792 := by
  have hc := hw.1
  unfold Wc at hc
  have h := hw.2.2.2.2.2.2.2.2.1
  have : 0 ≤ sPr V p ∧ sPr V p ≤ 99 * (((V 1).toNat : Nat) : Int) := itr_ind (f := fun h s => bif bt p h then w32 (s + V (41 + h)) else s) (x := (0 : Int)) (P := fun n s => 0 ≤ s ∧ s ≤ 99 * (n : Int)) ⟨by omega, by omega⟩ (V 1).toNat (fun i s hi hs => by
    have h1 := h i (by omega)
    cases bt p i
    · show 0 ≤ s ∧ s ≤ _
      omega
    · show 0 ≤ w32 (s + V (41 + i)) ∧ w32 (s + V (41 + i)) ≤ _
      rw [w32s (by omega)]
      omega)
  omega
section Sell
variable {M : Mem} {e : Nat} {V : Nat → Int} (d : Nat)
theorem em_fewest (h : Rl M e V) : C2 d j_em_fewestSellers [vR 1 e] M = some (some (vI (sBst V false)), M) := by
  have hl := liv_b h.1
  rw [q_em_fewestSellers, em_living d h, bI_k, ← itr_1 h.1 false]
  refine it_loop (P := fun i s => E2 d r_em_fewestSellers 7 [(0, vR 1 e), (1, vI (sLiv V)), (2, vI s), (3, vI (i : Int))] [] M) (r := fun s => some (some (vI s), M)) (f := fBst V false) (fun _ s => qB s) 1 ((sLiv V).toNat + 1) (by omega) (by rw [itr_1 h.1]; exact Or.inl rfl) (fun i s h1 h2 hq => ⟨?_, fBst_q (by omega) hq⟩) (fun s hq => ?_)
  · rw [q_em_fewestSellers_7, if_neg (by omega), w32n (by omega), em_canSell d h, bI_k]
    unfold fBst btr b01
    rcases hq with rfl | hq
    · rw [if_pos rfl]
      by_cases c1 : xand (i : Int) (xxor (sLiv V) (-1)) = 0
      · cases hS : sSell V i <;> simp [c1]
      · simp [c1]
    · rw [if_neg (by omega), bitC (i : Int) (by omega) (by omega), bI_k, bitC s hq.1 hq.2, bI_k, decide_eq_false (show ¬ s < 0 by omega)]
      by_cases c1 : xand (i : Int) (xxor (sLiv V) (-1)) = 0
      · by_cases c4 : sSz i < sSz s
        · cases hS : sSell V i <;> simp [c1, c4, em_canSell d h, hS, b01, bI_k]
        · cases hS : sSell V i <;> simp [c1, c4, em_canSell d h, hS, b01, bI_k]
      · by_cases c4 : sSz i < sSz s <;> simp [c1, c4]
  · rw [q_em_fewestSellers_7, if_pos (by omega)]
theorem em_cheaper (h : Rl M e V) (x y : Int) (hx : 0 ≤ x ∧ x < 256) (hy : 0 ≤ y ∧ y < 256) : C2 d j_em_isCheaper [vR 1 e, vI x, vI y] M = some (some (vI (b01 (btr V true x y))), M) := by
  rw [q_em_isCheaper, em_priceOf d h, bI_k, em_priceOf d h, bI_k, bitC x hx.1 hx.2, bI_k, bitC y hy.1 hy.2, bI_k]
  unfold btr b01
  by_cases c1 : sPr V x = sPr V y
  · by_cases c2 : sSz x < sSz y <;> simp [c1, c2]
  · by_cases c2 : sPr V x < sPr V y <;> simp [c1, c2]
theorem em_cheapest (h : Rl M e V) : C2 d j_em_cheapestSellers [vR 1 e] M = some (some (vI (sBst V true)), M) := by
  have hl := liv_b h.1
  rw [q_em_cheapestSellers, em_living d h, bI_k, ← itr_1 h.1 true]
  refine it_loop (P := fun i s => E2 d r_em_cheapestSellers 7 [(0, vR 1 e), (1, vI (sLiv V)), (2, vI s), (3, vI (i : Int))] [] M) (r := fun s => some (some (vI s), M)) (f := fBst V true) (fun _ s => qB s) 1 ((sLiv V).toNat + 1) (by omega) (by rw [itr_1 h.1]; exact Or.inl rfl) (fun i s h1 h2 hq => ⟨?_, fBst_q (by omega) hq⟩) (fun s hq => ?_)
  · rw [q_em_cheapestSellers_7, if_neg (by omega), w32n (by omega), em_canSell d h, bI_k]
    unfold fBst
    rcases hq with rfl | hq
    · by_cases c1 : xand (i : Int) (xxor (sLiv V) (-1)) = 0
      · cases hS : sSell V i <;> simp [c1, b01]
      · simp [c1]
    · rw [if_neg (show ¬ s = -1 by omega), em_cheaper d h i s (by omega) hq, bI_k, decide_eq_false (show ¬ s < 0 by omega)]
      by_cases c1 : xand (i : Int) (xxor (sLiv V) (-1)) = 0
      · cases hS : sSell V i
        · simp [c1, b01]
        · cases hB : btr V true i s <;> simp [c1, b01]
      · simp [c1]
  · rw [q_em_cheapestSellers_7, if_pos (by omega)]
theorem m_best (hw : Wf (mV M)) (c : Bool) : C2 d j_m_bestSellers [vR 12 179, vI (b01 c)] M = some (some (vI (sBst (mV M) c)), M) := by
  have hl := liv_b hw.1
  rw [q_m_bestSellers, m_living d hw.1, bI_k]
  refine it_loop (P := fun i s => E2 d r_m_bestSellers 7 [(0, vR 12 179), (1, vI (b01 c)), (2, vI (sLiv (mV M))), (3, vI s), (4, vI (i : Int))] [] M) (r := fun s => some (some (vI s), M)) (f := fBst (mV M) c) (x := -1) (fun _ s => qB s) 0 ((sLiv (mV M)).toNat + 1) (by omega) (Or.inl rfl) (fun i s h1 h2 hq => ⟨?_, fBst_q (by omega) hq⟩) (fun s hq => ?_)
  · rw [q_m_bestSellers_7, if_neg (by omega), w32n (by omega), m_canSell d hw.1, bI_k, m_sizeOf, bI_k, m_sizeOf, bI_k, m_pricesOf d hw.1, bI_k, m_pricesOf d hw.1, bI_k, w32s (x := sPr (mV M) i - sPr (mV M) s) (by have := pr_b hw i; have := pr_b hw s; omega)]
    unfold fBst btr
    by_cases c1 : xand (i : Int) (xxor (sLiv (mV M)) (-1)) = 0
    · cases hS : sSell (mV M) i
      · simp [c1, b01]
      · rcases hq with rfl | hq
        · simp [c1, b01]
        · cases c
          · by_cases c4 : sSz i < sSz s <;> simp [c1, b01, c4, show ¬ s < 0 by omega]
          · by_cases c2 : sPr (mV M) i < sPr (mV M) s
            · simp [c1, b01, show ¬ s < 0 by omega, c2, show sPr (mV M) i - sPr (mV M) s < 0 by omega]
            · by_cases c3 : sPr (mV M) i = sPr (mV M) s
              · by_cases c4 : sSz i < sSz s <;> simp [c1, b01, show ¬ s < 0 by omega, c3, c4, m_sizeOf, bI_k]
              · simp [c1, b01, show ¬ s < 0 by omega, c2, c3, show ¬ sPr (mV M) i - sPr (mV M) s < 0 by omega, show ¬ sPr (mV M) i - sPr (mV M) s = 0 by omega]
    · simp [c1]
  · rw [q_m_bestSellers_7, if_pos (by omega)]
/-- what is frail -/
def fFr (V : Nat → Int) (p : Nat) (b : Int) : Int := bif (decide (0 < sSz (sWho V p)) && decide (V (21 + p) = 0)) && (decide (b < 0) || decide (sSz (sWho V p) < sSz (sWho V b))) then (p : Int) else b
def sFr (V : Nat → Int) : Int := itr (fFr V) (-1) (V 0).toNat
def qF (n : Nat) (b : Int) : Prop := b = -1 ∨ (0 ≤ b ∧ b < (n : Int))
theorem fFr_q {p : Nat} {b : Int} (h : qF p b) : qF (p + 1) (fFr V p b) := by
  unfold fFr
  cases (decide (0 < sSz (sWho V p)) && decide (V (21 + p) = 0)) && (decide (b < 0) || decide (sSz (sWho V p) < sSz (sWho V b)))
  · rcases h with h | h
    · exact Or.inl h
    · exact Or.inr ⟨h.1, by have := h.2; show b < _; omega⟩
  · exact Or.inr ⟨by show (0 : Int) ≤ p; omega, by show (p : Int) < _; omega⟩
theorem sFr_q : qF (V 0).toNat (sFr V) := itr_ind (P := fun n s => qF n s) (Or.inl rfl) _ (fun _ _ _ hs => fFr_q hs)
theorem em_count (h : Rl M e V) (p : Int) : C2 d j_em_countThatKnow [vR 1 e, vI p] M = some (some (vI (sSz (sWho V p))), M) := by
  have := who_b h.1 p
  rw [q_em_countThatKnow, em_livingThatKnow d h, bI_k, bitC _ this.1 this.2, bI_k]
theorem lost_bit (hw : Wf V) (p : Nat) (hp : (p : Int) < V 0) : bt (sLost V (sLiv V)) p = (decide (0 < sSz (sWho V p)) && decide (V (21 + p) = 0)) := by
  have hc := hw.1
  unfold Wc at hc
  have hz : sTo V (xand (sLiv V) (xxor (sLiv V) (-1))) = 0 := un_none fun i hi => by
    rw [bt_and, bt_not (by omega)]
    cases bt (sLiv V) i <;> rfl
  have hwr : bt (sWr V) p = decide (V (21 + p) = 1) := by
    unfold sWr
    rw [bt_msk (by omega) (by omega), decide_eq_true (show p < (V 0).toNat by omega), Bool.true_and]
  have h21 := (hw.2.2.2.2.2.2.2.1 p hp).2.2.1
  have hk : bt (sTo V (sLiv V)) p = decide (0 < sSz (sWho V p)) := by
    cases hb : decide (0 < sSz (sWho V p)) with
    | true =>
      obtain ⟨i, hi, hi2⟩ := sz_pos.mp (of_decide_eq_true hb)
      unfold sWho at hi2
      rw [bt_msk (by omega) (by omega), Bool.and_eq_true, Bool.and_eq_true, decide_eq_true_eq, decide_eq_true_eq, decide_eq_true_eq, bit_1 (by omega)] at hi2
      refine bt_un.mpr ⟨i, hi2.1, ?_, hi2.2.2⟩
      unfold sLiv
      rw [bt_msk (by omega) (by omega), decide_eq_true hi2.1, decide_eq_true hi2.2.1]; rfl
    | false =>
      have hn := of_decide_eq_false hb
      cases hx : bt (sTo V (sLiv V)) p with
      | false => rfl
      | true =>
        obtain ⟨i, hi, h1, h2⟩ := bt_un.mp hx
        unfold sLiv at h1
        rw [bt_msk (by omega) (by omega), Bool.and_eq_true, decide_eq_true_eq, decide_eq_true_eq] at h1
        exfalso
        apply hn
        refine sz_pos.mpr ⟨i, by omega, ?_⟩
        unfold sWho
        rw [bt_msk (by omega) (by omega), decide_eq_true h1.1, decide_eq_true h1.2, decide_eq_true (show xand (xshr (V (49 + i)) (p : Int)) 1 = 1 by rw [bit_is (by omega), h2]; rfl)]; rfl
  unfold sLost sNow
  rw [hz, bt_and, bt_not (by omega), bt_or, bt_or, bt_0, hwr, hk, Bool.or_false]
  rcases h21 with g | g <;> rw [g] <;> cases decide (0 < sSz (sWho V p)) <;> rfl
theorem em_frailest (h : Rl M e V) (hw : Wf V) : C2 d j_em_frailestPart [vR 1 e] M = some (some (vI (sFr V)), M) := by
  have hc := h.1
  have h7 := h.2.1.2.2.2.2.2.2.2.1
  unfold Wc at hc
  rw [q_em_frailestPart, em_living d h, bI_k, em_lostBy d h, bI_k]
  refine it_loop (P := fun i s => E2 d r_em_frailestPart 9 [(0, vR 1 e), (1, vI (sLost V (sLiv V))), (2, vI s), (3, vI (i : Int))] [] M) (r := fun s => some (some (vI s), M)) (f := fFr V) (x := -1) (fun n s => qF n s) 0 (V 0).toNat (by omega) (Or.inl rfl) (fun i s h1 h2 hq => ⟨?_, fFr_q hq⟩) (fun s hq => ?_)
  · rw [q_em_frailestPart_9, if_pos (by omega), w32n (by omega), em_count d h, bI_k, em_count d h, bI_k, bit_is (by omega), lost_bit hw i (by omega)]
    unfold fFr
    cases decide (0 < sSz (sWho V i)) && decide (V (21 + i) = 0)
    · simp
    · rcases hq with rfl | hq
      · simp
      · by_cases c4 : sSz (sWho V i) < sSz (sWho V s) <;> simp [c4, show ¬ s < 0 by omega, show ¬ s = -1 by omega]
  · rw [q_em_frailestPart_9, if_neg (by omega)]
theorem m_frailest (hw : Wf (mV M)) : C2 d j_m_frailest [vR 12 179] M = some (some (vI (sFr (mV M))), M) := by
  have hc := hw.1
  have h7 : M.1 184 0 = mV M 0 := rfl
  unfold Wc at hc
  rw [q_m_frailest]
  refine it_loop (P := fun i s => E2 d r_m_frailest 4 [(0, vR 12 179), (1, vI s), (2, vI (i : Int))] [] M) (r := fun s => some (some (vI s), M)) (f := fFr (mV M)) (x := -1) (fun n s => qF n s) 0 (mV M 0).toNat (by omega) (Or.inl rfl) (fun i s h1 h2 hq => ⟨?_, fFr_q hq⟩) (fun s hq => ?_)
  · rw [q_m_frailest_4, if_pos (by omega), w32n (by omega), m_knowersOf d hw.1 i (by omega), bI_k, m_sizeOf, bI_k, w32s (x := 21 + (i : Int)) (by omega), if_pos (show (0 : Int) ≤ 21 + i ∧ (21 + (i : Int)) < 1725 by omega), show (21 + (i : Int)).toNat = 21 + i by omega]
    unfold fFr
    show (if 0 < sSz (sWho (mV M) i) then (if mV M (21 + i) = 0 then _ else _) else _) = _
    by_cases c1 : 0 < sSz (sWho (mV M) i)
    · by_cases c2 : mV M (21 + i) = 0
      · rcases hq with rfl | hq
        · simp [c1, c2]
        · obtain ⟨k, rfl⟩ : ∃ k : Nat, s = (k : Int) := ⟨s.toNat, by omega⟩
          rw [m_knowersOf d hw.1 k (by omega), bI_k, m_sizeOf, bI_k]
          by_cases c4 : sSz (sWho (mV M) i) < sSz (sWho (mV M) k) <;> simp [c1, c2, c4, show ¬ (k : Int) < 0 by omega]
      · simp [c1, c2]
    · simp [c1]
  · rw [q_m_frailest_4, if_neg (by omega)]
/-- whether they can be sold by so many -/
def sSold (V : Nat → Int) (k : Int) : Bool := !decide (sBst V false = -1) && !decide (k < sSz (sBst V false))
theorem em_sold (h : Rl M e V) (k : Int) : C2 d j_em_canBeSoldBy [vR 1 e, vI k] M = some (some (vI (b01 (sSold V k))), M) := by
  have hq := sBst_q h.1 false
  rw [q_em_canBeSoldBy, em_fewest d h, bI_k]
  unfold sSold
  rcases hq with hq | hq
  · simp [hq, b01]
  · rw [if_neg (by omega), bitC _ hq.1 hq.2, bI_k, decide_eq_false (show ¬ sBst V false = -1 by omega)]
    by_cases c : k < sSz (sBst V false) <;> simp [c, b01]
theorem m_unsold (hw : Wf (mV M)) (k : Int) : C2 d j_m_isUnsold [vR 12 179, vI k] M = some (some (vI (b01 (!sSold (mV M) k))), M) := by
  have hq := sBst_q hw.1 false
  rw [q_m_isUnsold, show (0 : Int) = b01 false from rfl, m_best d hw, bI_k, m_sizeOf, bI_k]
  unfold sSold
  rcases hq with hq | hq
  · simp [hq, b01]
  · by_cases c : k < sSz (sBst (mV M) false) <;> simp [c, b01, show ¬ sBst (mV M) false < 0 by omega, show ¬ sBst (mV M) false = -1 by omega]
end Sell
