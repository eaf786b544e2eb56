section Lf7
variable {lf e m : Nat} (d0 : Nat)
theorem Seg.lt {M : Mem} {q : Nat} {P : Nat → Int} {k D s t r r' : Nat} (h : Seg M q P k D s t r r') : (s = t ∧ r = r') ∨ (s < t ∧ r < r') := by
  cases k with
  | zero => exact h.elim
  | succ k =>
    rcases h with h | ⟨g1, g2, h3⟩
    · exact Or.inl h
    · rcases h3 with ⟨hk, E, D', u, a1, a2, a3, a4, a5, a6, a7, a8, a9⟩ | ⟨hk, a1, a2⟩
      · have := Seg.up a8
        have := Seg.up a9
        omega
      · have := Seg.up a2
        omega
/-- turn after turn -/
theorem run_loop (hl : e + 28 ≤ lf) (h60 : m ≤ 60) {d s u r E kk D' : Nat} (hs : s < 30) (hr : r < E) (hE : E < m)
    (body : ∀ X Y, LR X Y lf e → Seg X (e + 4) (mV Y) kk D' (s + 1) u (r + 1) E → X.1 (e + 4) 5 = (m : Int) → Nx Y → ∃ Y', C2 d j_m_doAll [vR 12 179, vI ((s + 1 : Nat) : Int), vI (u : Int)] Y = some (none, Y') ∧ LOut d0 lf e X Y (r + 1) E (r + 1) E 1 Y') :
    ∀ (v i : Nat) (X Y : Mem), LR X Y lf e → Seg X (e + 4) (mV Y) kk D' (s + 1) u (r + 1) E → X.1 (e + 4) 5 = (m : Int) → X.1 (e + 4 + 5) E = (r : Int) → X.1 (e + 4 + 1) E = 26 → Nx Y → mV Y (76 + 9 * s) = ((i + v + 1 : Nat) : Int) → i + v + 1 ≤ 99 → mV Y (83 + 9 * s) = (u : Int) → X.1 (lf + 1) r = ((v + 1 : Nat) : Int) → ∃ Y', E2 (d + 1) r_m_doOne 68 [(0, vR 12 179), (1, vI (s : Int)), (2, vI ((75 + 9 * s : Nat) : Int)), (4, vI (i : Int))] [] Y = some (none, Y') ∧ LOut d0 lf e X Y (r + 1) (E + 1) r (E + 1) 0 Y' := by
  intro v
  induction v with
  | zero =>
    intro i X Y h hS hm hp hw hN hn h99 hu ht
    obtain ⟨Y2, b1, b2, b3, b4⟩ := body X Y h hS hm hN
    have g1 := lp_go d hs (i := i) (by omega) (by omega) hN.1 (by rw [hu]; exact b1)
    rcases b4 with ⟨k1, X2, n, k2, k3, k4, k5, k6⟩ | ⟨k1, k0, X2, n, k2, k3, k4, k6⟩
    · have v5 : X2.1 lf 5 = 0 := (k3.2.2.1 5 (by decide)).trans k1.2.1
      refine ⟨Y2, ?_, b2, b3, Or.inl ⟨k1, putI X2 (lf + 1) r 0, n + 1, fun mv hmv => ?_, k3.turn hl r 0, k4.tr (FX.t hl), fun j hj => ?_, by omega⟩⟩
      · rw [g1, lp_end (d + 1) hs (Or.inl ?_)]
        rw [b2.2.2.2 _ (Or.inl (by omega)), hn]; omega
      · have hx := k4.2.1
        rw [k2 mv (by omega), pu_end d0 (m := m) (r := r) (v := 0) (by rw [hx (e + 4) (by omega) (by omega)]; exact hm) hE h60 v5 (by omega) (by rw [hx (e + 4 + 1) (by omega) (by omega)]; exact hw) (by rw [hx (e + 4 + 5) (by omega) (by omega)]; exact hp) (by omega) (by rw [k5 r (by omega)]; exact ht) (by omega), if_neg (by omega)]
        rfl
      · rw [pI_nk (by omega)]; exact k5 j (by omega)
    · refine ⟨Y2, ?_, b2, b3, Or.inr ⟨k1, k0, X2, n, k2, k3, k4, k6⟩⟩
      rw [g1, lp_end (d + 1) hs (Or.inr k1)]
  | succ v ih =>
    intro i X Y h hS hm hp hw hN hn h99 hu ht
    obtain ⟨Y2, b1, b2, b3, b4⟩ := body X Y h hS hm hN
    have g1 := lp_go d hs (i := i) (by omega) (by omega) hN.1 (by rw [hu]; exact b1)
    rcases b4 with ⟨k1, X2, n, k2, k3, k4, k5, k6⟩ | ⟨k1, k0, X2, n, k2, k3, k4, k6⟩
    · have v5 : X2.1 lf 5 = 0 := (k3.2.2.1 5 (by decide)).trans k1.2.1
      have hx := k4.2.1
      have f3 : FX lf e X (putI X2 (lf + 1) r ((v + 1 : Nat) : Int)) := k4.tr (FX.t hl)
      have hx3 := f3.2.1
      obtain ⟨Y', c1, c2⟩ := ih (i + 1) (putI X2 (lf + 1) r ((v + 1 : Nat) : Int)) Y2 (k3.turn hl r _) (hS.keep f3 b2) (by rw [hx3 (e + 4) (by omega) (by omega)]; exact hm) (by rw [hx3 (e + 4 + 5) (by omega) (by omega)]; exact hp) (by rw [hx3 (e + 4 + 1) (by omega) (by omega)]; exact hw) k1 (by rw [b2.2.2.2 _ (Or.inl (by omega)), hn]; omega) (by omega) (by rw [b2.2.2.2 _ (Or.inl (by omega)), hu]) pI_s
      refine ⟨Y', g1.trans c1, LOut.pre (n1 := n + 1) (a1 := 0) (fun mv hmv => ?_) f3 (fun j hj => ?_) b2 b3 (by omega) (by omega) (Nat.le_refl _) (Nat.le_refl _) (by omega) c2⟩
      · rw [k2 mv (by omega), pu_end d0 (m := m) (r := r) (v := v + 1) (by rw [hx (e + 4) (by omega) (by omega)]; exact hm) hE h60 v5 (by omega) (by rw [hx (e + 4 + 1) (by omega) (by omega)]; exact hw) (by rw [hx (e + 4 + 5) (by omega) (by omega)]; exact hp) (by omega) (by rw [k5 r (by omega)]; exact ht) (by omega), if_pos (by omega)]
        rfl
      · rw [pI_nk (by omega)]; exact k5 j (by omega)
    · refine ⟨Y2, ?_, b2, b3, Or.inr ⟨k1, k0, X2, n, k2, k3, k4, k6⟩⟩
      rw [g1, lp_end (d + 1) hs (Or.inr k1)]
end Lf7
