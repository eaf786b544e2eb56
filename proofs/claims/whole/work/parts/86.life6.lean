def Nx (Y : Mem) : Prop := Y.1 179 35 = 0 ∧ Y.1 179 42 = 0 ∧ 0 ≤ Y.1 179 37 ∧ Y.1 179 37 ≤ 300
def LOut (d lf e : Nat) (X Y : Mem) (r r' lo hi : Nat) (a : Int) (Y' : Mem) : Prop := FY Y Y' ∧ Y.1 179 37 ≤ Y'.1 179 37 ∧
  ((Nx Y' ∧ ∃ (X' : Mem) (n : Nat), (∀ mv, mv + n ≤ 900000 → pu d lf e r mv X = pu d lf e r' (mv + n) X') ∧ LR X' Y' lf e ∧ FX lf e X X' ∧ (∀ j, ¬ (lo ≤ j ∧ j < hi) → X'.1 (lf + 1) j = X.1 (lf + 1) j) ∧ (n : Int) + a ≤ 3 * (Y'.1 179 37 - Y.1 179 37)) ∨
   (¬ Y'.1 179 35 = 0 ∧ Y'.1 179 37 ≤ 300 ∧ ∃ (X' : Mem) (n : Nat), (∀ mv, mv + n ≤ 900000 → pu d lf e r mv X = some (none, X')) ∧ LR X' Y' lf e ∧ FX lf e X X' ∧ (n : Int) ≤ 3 * (Y'.1 179 37 - Y.1 179 37) + 1))
section Lf6
variable {X Y : Mem} {lf e : Nat} {d : Nat}
theorem LOut.pre {X1 Y1 Y2 : Mem} {r r1 r' lo hi lo2 hi2 n1 : Nat} {a a1 a2 : Int} (hp : ∀ mv, mv + n1 ≤ 900000 → pu d lf e r mv X = pu d lf e r1 (mv + n1) X1) (hX : FX lf e X X1) (hT : ∀ j, ¬ (lo ≤ j ∧ j < hi) → X1.1 (lf + 1) j = X.1 (lf + 1) j) (hY : FY Y Y1) (h0 : Y.1 179 37 ≤ Y1.1 179 37) (hn : (n1 : Int) + a1 ≤ 3 * (Y1.1 179 37 - Y.1 179 37)) (ha1 : 0 ≤ a1) (hlo : lo ≤ lo2) (hhi : hi2 ≤ hi) (ha : a ≤ a1 + a2) (h : LOut d lf e X1 Y1 r1 r' lo2 hi2 a2 Y2) : LOut d lf e X Y r r' lo hi a Y2 := by
  obtain ⟨g1, g2, g3⟩ := h
  refine ⟨hY.tr g1, by omega, ?_⟩
  rcases g3 with ⟨k1, X', n, k2, k3, k4, k5, k6⟩ | ⟨k1, k0, X', n, k2, k3, k4, k6⟩
  · refine Or.inl ⟨k1, X', n1 + n, fun mv hmv => ?_, k3, hX.tr k4, fun j hj => ?_, by omega⟩
    · rw [hp mv (by omega), k2 (mv + n1) (by omega), Nat.add_assoc]
    · rw [k5 j (by omega), hT j hj]
  · refine Or.inr ⟨k1, k0, X', n1 + n, fun mv hmv => ?_, k3, hX.tr k4, by omega⟩
    rw [hp mv (by omega), k2 (mv + n1) (by omega)]
theorem Seg.keep {X1 Y1 : Mem} (hX : FX lf e X X1) (hY : FY Y Y1) {k D s t r r' : Nat} (h : Seg X (e + 4) (mV Y) k D s t r r') : Seg X1 (e + 4) (mV Y1) k D s t r r' :=
  (h.cong fun a g1 g2 => hX.2.1 a (by omega) (by omega)).view (fun k hk => hY.2.2.2 k (Or.inl hk)) (hY.2.2.2 0 (Or.inr (by decide))) (by rw [hY.2.2.2 1 (Or.inr (by decide))]; exact Int.le_refl _)
theorem StR.keep {X1 Y1 : Mem} (hX : FX lf e X X1) (hY : FY Y Y1) {s r : Nat} (h : StR X (e + 4) (mV Y) s r) : StR X1 (e + 4) (mV Y1) s r :=
  (h.cong fun a g1 g2 => hX.2.1 a (by omega) (by omega)).view (fun k hk => hY.2.2.2 k (Or.inl hk)) (hY.2.2.2 0 (Or.inr (by decide))) (by rw [hY.2.2.2 1 (Or.inr (by decide))]; exact Int.le_refl _)
theorem LR.turn (h : LR X Y lf e) (hl : e + 28 ≤ lf) (r : Nat) (v : Int) : LR (putI X (lf + 1) r v) Y lf e := by
  obtain ⟨a1, a2, a3, a4, a5, a6, a7⟩ := h
  refine ⟨a1.cong fun a g1 g2 => pI_ne (by omega), a2, ?_, ?_, a5, a6, a7⟩
  · rw [pI_ne (by omega)]; exact a3
  · rw [pI_ne (by omega)]; exact a4
theorem FX.t {r : Nat} {v : Int} (hl : e + 28 ≤ lf) : FX lf e X (putI X (lf + 1) r v) := ⟨fun a _ _ g => pI_ne g, fun a g1 g2 => pI_ne (by omega), Eq.refl _⟩
theorem LR.stop (h : LR X Y lf e) (v : Int) : LR X (putI Y 179 35 v) lf e := by
  obtain ⟨a1, a2, a3, a4, a5, a6, a7⟩ := h
  refine ⟨by rw [mV_9]; exact a1, by rw [mV_9]; exact a2, fun j hj => ?_, ?_, ?_, ?_, fun j j2 j4 => ?_⟩
  · rw [pI_nk (by omega)]; exact a3 j hj
  · rw [pI_nk (by decide)]; exact a4
  · rw [pI_nk (by decide)]; exact a5
  · rw [pI_nk (by decide)]; exact a6
  · rw [pI_nk (by omega)]; exact a7 j j2 j4
def x1 (lf : Nat) (X : Mem) : Mem := putI X lf 0 (X.1 lf 0 + 1)
theorem LR.one (h : LR X Y lf e) (hl : e + 28 ≤ lf) : LR (x1 lf X) (y1 Y) lf e := by
  unfold x1 y1
  rw [h.2.2.1 0 (by decide)]
  exact h.put hl 0 (by decide) _ (by omega) (by omega)
theorem kw_26 {k : Int} (h : 0 ≤ k ∧ k ≤ 10) : ¬ kwOf k = 26 := by
  unfold kwOf
  by_cases c : k ≤ 8
  · rw [if_pos c]; omega
  · rw [if_neg c]
    by_cases c2 : k = 9
    · rw [if_pos c2]; decide
    · rw [if_neg c2]; decide
variable {m r mv : Nat} (d)
/-- the class: a deed -/
theorem pu_act (hm : X.1 (e + 4) 5 = (m : Int)) (hr : r < m) (h60 : m ≤ 60) (hv : X.1 lf 5 = 0) (hq : mv ≤ 900000) {k : Int} (hk : 0 ≤ k ∧ k < 8) (hw : X.1 (e + 4 + 1) r = kwOf k) (hd : 0 ≤ X.1 lf 0 ∧ X.1 lf 0 < 300) {b : Bool} {X2 : Mem} (ha : C2 d j_lf_achieve [vR 4 lf, vR 1 e, vI (r : Int)] (x1 lf X) = some (some (vI (b01 b)), X2)) : pu d lf e r mv X = pu d lf e (r + 1) (mv + 1) (putI X2 lf 1 (w32 (X.1 lf 1 + b01 (!b)))) := by
  have e1 : (x1 lf X).1 lf 1 = X.1 lf 1 := pI_nk (by decide)
  have ek : kwOf k = 14 + k := if_pos (by omega)
  rw [pu_go d hm hr h60 hv hq (by rw [hw]; exact kw_26 (by omega)) hd.2, hw, ek, q_lf_isTurning, if_neg (by omega), if_neg (by omega), if_neg (by omega), bI_k, if_pos rfl, w32s (by omega)]
  show (bI (C2 d j_lf_achieve [vR 4 lf, vR 1 e, vI (r : Int)] (x1 lf X)) fun x6 M5 => if x6 = 0 then pu d lf e (r + 1) (mv + 1) (putI M5 lf 1 (w32 ((x1 lf X).1 lf 1 + 1))) else pu d lf e (r + 1) (mv + 1) (putI M5 lf 1 (w32 ((x1 lf X).1 lf 1 + 0)))) = _
  rw [ha, bI_k, e1]
  cases b
  · rw [if_pos b01_f]; rfl
  · rw [if_neg (by decide)]; rfl
/-- the class: a turning -/
theorem pu_turn (hm : X.1 (e + 4) 5 = (m : Int)) (hr : r < m) (h60 : m ≤ 60) (hv : X.1 lf 5 = 0) (hq : mv ≤ 900000) {k : Int} (hk : 8 ≤ k ∧ k ≤ 10) (hw : X.1 (e + 4 + 1) r = kwOf k) (hd : 0 ≤ X.1 lf 0 ∧ X.1 lf 0 < 300) {r1 : Nat} {X2 : Mem} (ha : C2 d j_lf_behindTurning [vR 4 lf, vR 1 e, vI (r : Int)] (x1 lf X) = some (some (vI (r1 : Int)), X2)) : pu d lf e r mv X = pu d lf e r1 (mv + 1) X2 := by
  have et : C2 d j_lf_isTurning [vI (kwOf k)] X = some (some (vI 1), X) := by
    have : k = 8 ∨ k = 9 ∨ k = 10 := by omega
    rcases this with g | g | g
    · rw [g, q_lf_isTurning, if_pos (by decide)]
    · rw [g, q_lf_isTurning, if_neg (by decide), if_pos (by decide)]
    · rw [g, q_lf_isTurning, if_neg (by decide), if_neg (by decide), if_pos (by decide)]
  rw [pu_go d hm hr h60 hv hq (by rw [hw]; exact kw_26 (by omega)) hd.2, hw, et, bI_k, if_neg (by decide), w32s (by omega)]
  show (bI (C2 d j_lf_behindTurning [vR 4 lf, vR 1 e, vI (r : Int)] (x1 lf X)) _) = _
  rw [ha, bI_k]
  rfl
theorem bt_stop (hr : r < 60) (hw : X.1 (e + 4 + 1) r = 27) (hm : X.1 (e + 4) 5 = (m : Int)) : C2 d j_lf_behindTurning [vR 4 lf, vR 1 e, vI (r : Int)] X = some (some (vI (m : Int)), X) := by
  rw [q_lf_behindTurning, if_pos (by omega), if_pos (by omega), Int.toNat_natCast, hw, if_pos rfl, hm]
theorem bt_when (hr : r < 60) (hw : X.1 (e + 4 + 1) r = 22) {E : Nat} (hE : X.1 (e + 4 + 5) r = (E : Int)) (h60 : E < 60) {b : Bool} (hh : C2 d j_lf_holds [vR 1 e, vI (r : Int)] (putI X (lf + 1) r 1) = some (some (vI (b01 b)), putI X (lf + 1) r 1)) : C2 d j_lf_behindTurning [vR 4 lf, vR 1 e, vI (r : Int)] X = some (some (vI ((bif b then r + 1 else E + 1 : Nat) : Int)), putI X (lf + 1) r 1) := by
  rw [q_lf_behindTurning, if_pos (by omega), if_pos (by omega), Int.toNat_natCast, hw, if_neg (by decide), if_pos (by omega), if_pos rfl, if_pos (by omega), hh, bI_k, hE, w32n (i := E) (by omega), w32n (i := r) (by omega)]
  cases b
  · rw [if_pos b01_f]; rfl
  · rw [if_neg (by decide)]; rfl
theorem bt_loop (hr : r < 60) (hw : X.1 (e + 4 + 1) r = 25) {E : Nat} (hE : X.1 (e + 4 + 5) r = (E : Int)) : C2 d j_lf_behindTurning [vR 4 lf, vR 1 e, vI (r : Int)] X = some (some (vI ((r + 1 : Nat) : Int)), putI X (lf + 1) r (if E = r + 1 then 1 else X.1 (e + 4 + 2) r)) := by
  rw [q_lf_behindTurning, if_pos (by omega), if_pos (by omega), Int.toNat_natCast, hw, if_neg (by decide), if_pos (by omega), if_neg (by decide), hE, w32n (i := r) (by omega)]
  by_cases c : E = r + 1
  · rw [if_pos (by omega), if_pos (by omega), if_pos c]
  · rw [if_neg (by omega), if_pos (by omega), if_pos (by omega), if_neg c]
end Lf6
