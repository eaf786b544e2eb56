section Live
theorem Inv.live {M M2 : Mem} (h : Inv M) (hF : ∀ a, Rc a → a ≠ 83 → a ≠ 190 → a ≠ 184 → ¬ (11 ≤ a ∧ a < 39) → M2.1 a = M.1 a) (hL : M2.2.1 = M.2.1) (hW : ∀ k, 73 ≤ k ∨ k < 3 → mV M2 k = mV M k) (hr : Rl M2 11 (mV M2)) (hw : Wf (mV M2)) (hP : ∀ a, 15 ≤ a → a < 21 → M2.1 a = M.1 a) (hH : Hd M2) (h5 : M2.1 0 5 = M.1 0 5) (h14 : M2.1 0 14 = M.1 0 14) (hLv : LvR M2 (M2.1 0 18)) : Inv M2 := by
  obtain ⟨b1, b2, b3, b4, b5, b6⟩ := h.2
  have h3 := h.1.2.2.2.2.2.2.2.2.2.1
  refine ⟨hH, ?_⟩
  rw [h5, h14]
  refine ⟨fun t ht => (b1 t ht).cong fun a ha => ⟨hF a (by unfold Rc; omega) (by omega) (by omega) (by omega) (by omega), by rw [hL]⟩, ?_, ?_, fun i hi => ?_, hLv, ?_⟩
  · unfold TpR
    rw [hF 2 (by unfold Rc; omega) (by omega) (by omega) (by omega) (by omega), hF 183 (by unfold Rc; omega) (by omega) (by omega) (by omega) (by omega)]; exact b2
  · obtain ⟨c1, c2, c3, c4⟩ := b3
    rw [blk_0] at c4
    refine ⟨by rw [blk_0]; exact hr, by rw [blk_0]; exact hw, ?_, ?_⟩
    · unfold NmR at c3 ⊢
      rw [blk_0] at c3 ⊢
      rw [hL, hW 0 (Or.inr (by decide)), hW 1 (Or.inr (by decide))]
      exact c3
    · rw [blk_0]
      exact (c4.view (fun k hk => hW k (Or.inl hk)) (hW 0 (Or.inr (by decide))) (by rw [hW 1 (Or.inr (by decide))]; exact Int.le_refl _)).cong fun a g1 g2 => hP a (by omega) (by omega)
  · have hi3 : (i : Int) < 3 := by omega
    have hE := b4 i hi
    obtain ⟨q7, q8, q9, _, _⟩ := hE.nums
    refine hE.move (CpR.same (fun a r1 r2 => ⟨hF a (by unfold Rc; omega) (by omega) (by omega) (by omega) (by omega), by rw [hL]⟩) q7.2 q8.2 q9.2) (fun k hk => hW (345 * (i + 1) + k) (Or.inl (by omega))) (fun k hk => by rw [hL])
  · unfold KyR
    rw [hL]; exact b6
variable {lf e : Nat} (d0 d : Nat)
def lfX (lf : Nat) (p : Int) (X : Mem) : Mem := putI (putI (putI (putI (putI (putI (putI X lf 0 0) lf 1 0) lf 2 0) lf 3 0) lf 4 0) lf 5 0) lf 6 p
def lfY (p : Int) (Y : Mem) : Mem := putI (putI (putI (putI (putI (putI (putI (putI Y 179 36 p) 179 37 0) 179 38 0) 179 39 0) 179 40 0) 179 41 0) 179 42 0) 179 35 0
theorem fx_lf {X : Mem} {p : Int} (hl : e + 28 ≤ lf) : FX lf e X (lfX lf p X) := ((((((FX.p hl).tr (FX.p hl)).tr (FX.p hl)).tr (FX.p hl)).tr (FX.p hl)).tr (FX.p hl)).tr (FX.p hl)
theorem fy_lf {Y : Mem} {p : Int} : FY Y (lfY p Y) := (((((((FY.p (by decide)).tr (FY.p (by decide))).tr (FY.p (by decide))).tr (FY.p (by decide))).tr (FY.p (by decide))).tr (FY.p (by decide))).tr (FY.p (by decide))).tr (FY.p (by decide))
theorem mV_lf {Y : Mem} {p : Int} : mV (lfY p Y) = mV Y := by
  unfold lfY
  rw [mV_9, mV_9, mV_9, mV_9, mV_9, mV_9, mV_9, mV_9]
theorem lfY_0 {Y : Mem} {p : Int} {k : Nat} (h : 35 ≤ k ∧ k ≤ 42 ∧ k ≠ 36) : (lfY p Y).1 179 k = 0 := by
  unfold lfY
  have : k = 35 ∨ k = 37 ∨ k = 38 ∨ k = 39 ∨ k = 40 ∨ k = 41 ∨ k = 42 := by omega
  rcases this with g | g | g | g | g | g | g <;> subst g <;> simp [up2]
theorem lfY_p {Y : Mem} {p : Int} : (lfY p Y).1 179 36 = p := by
  unfold lfY
  simp [up2]
theorem lfX_0 {X : Mem} {p : Int} {k : Nat} (h : k < 6) : (lfX lf p X).1 lf k = 0 := by
  unfold lfX
  have : k = 0 ∨ k = 1 ∨ k = 2 ∨ k = 3 ∨ k = 4 ∨ k = 5 := by omega
  rcases this with g | g | g | g | g | g <;> subst g <;> simp [up2]
/-- a life, lived by both -/
theorem run_life {X Y : Mem} (hl : e + 28 ≤ lf) (hr : Rl X e (mV Y)) (hw : Wf (mV Y)) (hp : PlR X e (mV Y)) (h73 : mV Y 73 = 1) (p : Int) (hp0 : 0 ≤ p ∧ p ≤ 65535) (hd : 3 ≤ d) : ∃ X' Y', C2 d0 j_lf_pursue [vR 4 lf, vR 1 e, vI p] X = some (none, X') ∧ C2 d j_m_runsSteps [vR 12 179, vI p] Y = some (none, Y') ∧ LR X' Y' lf e ∧ FX lf e X X' ∧ FY Y Y' := by
  obtain ⟨h1, h2, h3, h4⟩ := hp
  obtain ⟨b1, n, m, b2, b3, b4, b5, b6⟩ := h4 h73
  have fx : FX lf e X (lfX lf p X) := fx_lf hl
  have fy : FY Y (lfY p Y) := fy_lf
  have L0 : LR (lfX lf p X) (lfY p Y) lf e := by
    refine ⟨?_, by rw [mV_lf]; exact hw, fun j hj => ?_, ?_, ?_, ?_, fun j j2 j4 => ?_⟩
    · rw [mV_lf]
      refine hr.cong fun a g1 g2 => ?_
      unfold lfX
      rw [pI_ne (by omega), pI_ne (by omega), pI_ne (by omega), pI_ne (by omega), pI_ne (by omega), pI_ne (by omega), pI_ne (by omega)]
    · rw [lfX_0 hj, lfY_0 (by omega)]
    · rw [lfY_p]; exact pI_s
    · rw [lfY_p]; exact hp0
    · rw [lfY_0 (by decide)]; exact Or.inl rfl
    · rw [lfY_0 (by omega)]; exact rI_0
  have N0 : Nx (lfY p Y) := ⟨lfY_0 (by decide), lfY_0 (by decide), by rw [lfY_0 (by decide)]; decide, by rw [lfY_0 (by decide)]; decide⟩
  have m0 : (lfX lf p X).1 (e + 4) 5 = (m : Int) := by rw [fx.2.1 (e + 4) (by omega) (by omega)]; exact b4
  obtain ⟨Y', c1, c2, c3, c4⟩ := run_seg (m := m) d0 hl b5 100 3 0 n 0 m d _ _ L0 (b6.keep fx fy) b3 (Nat.le_refl _) m0 N0 hd
  have e74 : (lfY p Y).1 184 74 = (n : Int) := by
    show mV (lfY p Y) 74 = _
    rw [mV_lf]; exact b2
  have em : C2 d j_m_runsSteps [vR 12 179, vI p] Y = some (none, Y') := by
    rw [q_m_runsSteps]
    show (bV (C2 d j_m_doAll [vR 12 179, vI 0, vI ((lfY p Y).1 184 74)] (lfY p Y)) fun M1 => some (none, M1)) = _
    rw [e74, show (0 : Int) = ((0 : Nat) : Int) from rfl, c1, bV_k]
  have ex : C2 d0 j_lf_pursue [vR 4 lf, vR 1 e, vI p] X = pu d0 lf e 0 0 (lfX lf p X) := q_lf_pursue lf e p d0 X
  rw [lfY_0 (by decide)] at c3 c4
  have nb : (0 : Int) ≤ (if 0 < n then 1 else 0) := (@ite_b (0 < n) _).1
  rcases c4 with ⟨k1, X3, q, k2, k3, k4, k5, k6⟩ | ⟨k1, k0, X3, q, k2, k3, k4, k6⟩
  · have := k1.2.2.2
    refine ⟨X3, Y', ?_, em, k3, fx.tr k4, fy.tr c2⟩
    rw [ex, k2 0 (by omega), pu_fin d0 (by rw [k4.2.1 (e + 4) (by omega) (by omega)]; exact m0) (Nat.le_refl _)]
  · refine ⟨X3, Y', ?_, em, k3, fx.tr k4, fy.tr c2⟩
    rw [ex, k2 0 (by omega)]
end Live
