section Lf8
variable {lf e m : Nat} (d0 : Nat)
theorem FX.one {X : Mem} (hl : e + 28 ≤ lf) : FX lf e X (x1 lf X) := FX.p hl
theorem FY.one {Y : Mem} : FY Y (y1 Y) := FY.p (by decide)
theorem y1_37 {Y : Mem} : (y1 Y).1 179 37 = Y.1 179 37 + 1 := pI_s
theorem y1_n {Y : Mem} {k : Nat} (h : k ≠ 37) : (y1 Y).1 179 k = Y.1 179 k := pI_nk h
theorem x1_t {X : Mem} {j : Nat} : (x1 lf X).1 (lf + 1) j = X.1 (lf + 1) j := congrFun (pI_ne (by omega)) _
theorem ite_b {p : Prop} [Decidable p] : (0 : Int) ≤ (if p then 1 else 0) ∧ ((if p then 1 else 0) : Int) ≤ 1 := by
  by_cases h : p
  · rw [if_pos h]; decide
  · rw [if_neg h]; decide
theorem run_seg (hl : e + 28 ≤ lf) (h60 : m ≤ 60) : ∀ (k D s t r r' d : Nat) (X Y : Mem), LR X Y lf e → Seg X (e + 4) (mV Y) k D s t r r' → t ≤ 30 → r' ≤ m → X.1 (e + 4) 5 = (m : Int) → Nx Y → D ≤ d → ∃ Y', C2 d j_m_doAll [vR 12 179, vI (s : Int), vI (t : Int)] Y = some (none, Y') ∧ LOut d0 lf e X Y r r' r r' (if s < t then 1 else 0) Y' := by
  intro k
  induction k with
  | zero => intro D s t r r' d X Y _ hS; exact hS.elim
  | succ k ih =>
    intro D s t r r' d X Y h hS ht hr' hm hN hD
    have hS0 := hS
    rcases hS with hS | ⟨g1, g2, g3⟩
    · refine ⟨Y, da_end d (by omega), FY.rfl, Int.le_refl _, Or.inl ⟨hN, X, 0, fun mv _ => ?_, h, FX.rfl, fun _ _ => rfl, ?_⟩⟩
      · rw [hS.2]; rfl
      · rw [if_neg (by omega)]; omega
    · have hrr : r < r' := by
        rcases hS0.lt with q | q
        · omega
        · exact q.2
      have hs30 : s < 30 := by omega
      have hr60 : r < 60 := by omega
      rw [if_pos g1]
      have hkw := g2.2.1
      have hk0 := g2.1
      have v5 : X.1 lf 5 = 0 := (h.2.2.1 5 (by decide)).trans hN.2.1
      have v0 : X.1 lf 0 = Y.1 179 37 := h.2.2.1 0 (by decide)
      have v1 : X.1 lf 1 = Y.1 179 38 := h.2.2.1 1 (by decide)
      obtain ⟨n35, n42, n0, n300⟩ := hN
      by_cases c300 : Y.1 179 37 = 300
      · have hY : FY Y (putI (putI Y 179 35 1) 179 42 1) := (FY.p (by decide)).tr (FY.p (by decide))
        have h37 : (putI (putI Y 179 35 1) 179 42 1).1 179 37 = Y.1 179 37 := by rw [pI_nk (by decide), pI_nk (by decide)]
        have h35 : (putI (putI Y 179 35 1) 179 42 1).1 179 35 = 1 := by rw [pI_nk (by decide), pI_s]
        refine ⟨_, ?_, hY, by omega, Or.inr ⟨by omega, by omega, putI X lf 5 1, 1, fun mv hmv => pu_300 d0 hm (by omega) h60 v5 (by omega) (by rw [hkw]; exact kw_26 hk0) (by omega), ?_, FX.p hl, by omega⟩⟩
        · rw [da_go d g1 hs30 n35, do_300 d c300, bV_k, da_stop d (by omega)]
        · exact (h.stop 1).put hl 5 (by decide) 1 (fun _ => Or.inr rfl) (by omega)
      · have hdn : 0 ≤ Y.1 179 37 ∧ Y.1 179 37 < 300 := by omega
        have hdx : 0 ≤ X.1 lf 0 ∧ X.1 lf 0 < 300 := by omega
        have h1 := h.one hl
        have N1 : Nx (y1 Y) := ⟨by rw [y1_n (by decide)]; exact n35, by rw [y1_n (by decide)]; exact n42, by rw [y1_37]; omega, by rw [y1_37]; omega⟩
        have m1 : (x1 lf X).1 (e + 4) 5 = (m : Int) := by rw [(FX.one hl).2.1 (e + 4) (by omega) (by omega)]; exact hm
        have S1' := g2.keep (FX.one (X := X) hl) (FY.one (Y := Y))
        have ek : mV (y1 Y) (75 + 9 * s) = mV Y (75 + 9 * s) := FY.one.2.2.2 _ (Or.inl (by omega))
        rcases g3 with ⟨hk, E, D', u, a1, a2, a3, a4, a5, a6, a7, a8, a9⟩ | ⟨hk, a1, a2⟩
        · have u8 := a8.up
          have u9 := a9.up
          obtain ⟨d1, rfl⟩ : ∃ d1, d = d1 + 1 := ⟨d - 1, by omega⟩
          rcases hk with hk | hk
          · -- when
            rw [hk] at hkw
            have f2 : FX lf e X (putI (x1 lf X) (lf + 1) r 1) := (FX.one hl).tr (FX.t hl)
            have L2 : LR (putI (x1 lf X) (lf + 1) r 1) (y1 Y) lf e := h1.turn hl r 1
            have m2 : (putI (x1 lf X) (lf + 1) r 1).1 (e + 4) 5 = (m : Int) := by rw [f2.2.1 (e + 4) (by omega) (by omega)]; exact hm
            have hT2 : ∀ j, ¬ (r ≤ j ∧ j < r') → (putI (x1 lf X) (lf + 1) r 1).1 (lf + 1) j = X.1 (lf + 1) j := fun j hj => by rw [pI_nk (by omega), x1_t]
            have bd : ∃ b'', C2 (d1 + 1) j_m_isSo [vR 12 179, vI ((75 + 9 * s : Nat) : Int)] (y1 Y) = some (some (vI (b01 b'')), y1 Y) ∧ C2 d0 j_lf_holds [vR 1 e, vI (r : Int)] (putI (x1 lf X) (lf + 1) r 1) = some (some (vI (b01 b'')), putI (x1 lf X) (lf + 1) r 1) := st_holds2 d0 (d1 + 1) L2 hs30 hr60 (g2.keep f2 FY.one) (by rw [ek]; exact hk)
            obtain ⟨bb, bs, bh⟩ := bd
            have btn := bt_when (e := e) (lf := lf) d0 (X := x1 lf X) hr60 (by rw [(FX.one hl).2.1 (e + 4 + 1) (by omega) (by omega), hkw]; rfl) (E := E) (by rw [(FX.one hl).2.1 (e + 4 + 5) (by omega) (by omega)]; exact a5) a4 bh
            cases bb
            · -- it is not so
              have dn := do_no (d1 + 1) hs30 hdn hk bs
              obtain ⟨Y', c1, c2⟩ := ih D u t (E + 1) r' (d1 + 1) _ _ L2 (a9.keep f2 FY.one) ht hr' m2 N1 hD
              refine ⟨Y', ?_, LOut.pre (n1 := 1) (a1 := 2) (fun mv hmv => pu_turn d0 hm (by omega) h60 v5 (by omega) (by omega) hkw hdx btn) f2 hT2 FY.one (by rw [y1_37]; omega) (by rw [y1_37]; omega) (by omega) (by omega) (Nat.le_refl _) (by have := @ite_b (u < t) _; omega) c2⟩
              rw [da_go (d1 + 1) g1 hs30 n35, dn, bV_k, FY.one.2.2.2 (83 + 9 * s) (Or.inl (by omega)), a2]
              exact c1
            · -- it is so
              obtain ⟨Y2, c1, c2, c3, c4⟩ := ih D' (s + 1) u (r + 1) E d1 _ _ L2 (a8.keep f2 FY.one) (by omega) (by omega) m2 N1 (by omega)
              have dy := do_yes d1 hs30 hdn hk bs (by rw [a2]; exact c1)
              have e1 := @ite_b (s + 1 < u) _
              rcases c4 with ⟨k1, X3, n, k2, k3, k4, k5, k6⟩ | ⟨k1, k0, X3, n, k2, k3, k4, k6⟩
              · have w5 : X3.1 lf 5 = 0 := (k3.2.2.1 5 (by decide)).trans k1.2.1
                have f3 := f2.tr k4
                have f4 : FX lf e X (putI X3 (lf + 1) r 0) := f3.tr (FX.t hl)
                have hx := f3.2.1
                have y2 := FY.one.tr c2
                obtain ⟨Y', q1, q2⟩ := ih D u t (E + 1) r' (d1 + 1) (putI X3 (lf + 1) r 0) Y2 (k3.turn hl r 0) (a9.keep f4 y2) ht hr' (by rw [f4.2.1 (e + 4) (by omega) (by omega)]; exact hm) k1 hD
                have t3 : X3.1 (lf + 1) r = ((0 + 1 : Nat) : Int) := by rw [k5 r (by omega), pI_s]; rfl
                rw [y1_37] at k6 c3
                refine ⟨Y', ?_, LOut.pre (n1 := 1 + n + 1) (a1 := 1) (fun mv hmv => ?_) f4 (fun j hj => ?_) y2 (by omega) (by omega) (by omega) (by omega) (Nat.le_refl _) (by have := @ite_b (u < t) _; omega) q2⟩
                · rw [da_go (d1 + 1) g1 hs30 n35, dy, bV_k, y2.2.2.2 (83 + 9 * s) (Or.inl (by omega)), a2]
                  exact q1
                · rw [pu_turn d0 hm (by omega) h60 v5 (by omega) (by omega) hkw hdx btn]
                  show pu d0 lf e (r + 1) (mv + 1) _ = _
                  rw [k2 (mv + 1) (by omega), pu_end d0 (m := m) (r := r) (v := 0) (by rw [hx (e + 4) (by omega) (by omega)]; exact hm) (by omega) h60 w5 (by omega) (by rw [hx (e + 4 + 1) (by omega) (by omega)]; exact a7) (by rw [hx (e + 4 + 5) (by omega) (by omega)]; exact a6) hr60 t3 (by omega), if_neg (by omega), show mv + 1 + n + 1 = mv + (1 + n + 1) by omega]
                  rfl
                · rw [pI_nk (by omega), k5 j (by omega)]; exact hT2 j hj
              · have y2 := FY.one.tr c2
                rw [y1_37] at k6 c3
                refine ⟨Y2, ?_, y2, by omega, Or.inr ⟨k1, k0, X3, 1 + n, fun mv hmv => ?_, k3, f2.tr k4, by omega⟩⟩
                · rw [da_go (d1 + 1) g1 hs30 n35, dy, bV_k, da_stop (d1 + 1) k1]
                · rw [pu_turn d0 hm (by omega) h60 v5 (by omega) (by omega) hkw hdx btn]
                  show pu d0 lf e (r + 1) (mv + 1) _ = _
                  exact k2 (mv + 1) (by omega)
          · -- a loop
            rw [hk] at hkw
            obtain ⟨l1, l2, l3⟩ := g2.2.2.2.2.2.2.2.2 hk
            have btn := bt_loop (e := e) (lf := lf) d0 (X := x1 lf X) hr60 (by rw [(FX.one hl).2.1 (e + 4 + 1) (by omega) (by omega), hkw]; rfl) (E := E) (by rw [(FX.one hl).2.1 (e + 4 + 5) (by omega) (by omega)]; exact a5)
            rw [(FX.one hl).2.1 (e + 4 + 2) (by omega) (by omega), l1] at btn
            have dl := do_loop (d1 + 1) hs30 hdn hk
            have em : mV (y1 Y) (76 + 9 * s) = mV Y (76 + 9 * s) := FY.one.2.2.2 _ (Or.inl (by omega))
            have eu : mV (y1 Y) (83 + 9 * s) = (u : Int) := by rw [FY.one.2.2.2 _ (Or.inl (by omega))]; exact a2
            obtain ⟨v, hv⟩ : ∃ v : Nat, mV Y (76 + 9 * s) = ((0 + v + 1 : Nat) : Int) := ⟨(mV Y (76 + 9 * s)).toNat - 1, by omega⟩
            have v98 : v + 1 ≤ 99 := by omega
            by_cases cE : E = r + 1
            · -- empty
              have hu : s + 1 = u := by
                rcases a8.lt with q | q
                · exact q.1
                · omega
              rw [if_pos cE] at btn
              have f2 : FX lf e X (putI (x1 lf X) (lf + 1) r 1) := (FX.one hl).tr (FX.t hl)
              have f4 : FX lf e X (putI (putI (x1 lf X) (lf + 1) r 1) (lf + 1) r 0) := f2.tr (FX.t hl)
              have L2 : LR (putI (x1 lf X) (lf + 1) r 1) (y1 Y) lf e := h1.turn hl r 1
              have hx := f2.2.1
              have lp : ∀ j i, i + j = v + 1 → E2 (d1 + 1) r_m_doOne 68 [(0, vR 12 179), (1, vI (s : Int)), (2, vI ((75 + 9 * s : Nat) : Int)), (4, vI (i : Int))] [] (y1 Y) = some (none, y1 Y) := by
                intro j
                induction j with
                | zero => intro i hi; exact lp_end (d1 + 1) hs30 (Or.inl (by rw [em, hv]; omega))
                | succ j ihj =>
                  intro i hi
                  rw [lp_go d1 hs30 (by omega) (by rw [em, hv]; omega) N1.1 (by rw [eu]; exact da_end d1 (by omega))]
                  exact ihj (i + 1) (by omega)
              obtain ⟨Y', q1, q2⟩ := ih D u t (E + 1) r' (d1 + 1) _ (y1 Y) (L2.turn hl r 0) (a9.keep f4 FY.one) ht hr' (by rw [f4.2.1 (e + 4) (by omega) (by omega)]; exact hm) N1 hD
              refine ⟨Y', ?_, LOut.pre (n1 := 2) (a1 := 1) (fun mv hmv => ?_) f4 (fun j hj => by rw [pI_nk (by omega), pI_nk (by omega), x1_t]) FY.one (by rw [y1_37]; omega) (by rw [y1_37]; omega) (by omega) (by omega) (Nat.le_refl _) (by have := @ite_b (u < t) _; omega) q2⟩
              · rw [da_go (d1 + 1) g1 hs30 n35, dl, show (0 : Int) = ((0 : Nat) : Int) from rfl, lp (v + 1) 0 (by omega), bV_k, eu]
                exact q1
              · rw [pu_turn d0 hm (by omega) h60 v5 (by omega) (by omega) hkw hdx btn, ← cE, pu_end d0 (m := m) (r := r) (v := 0) (by rw [hx (e + 4) (by omega) (by omega)]; exact hm) (by omega) h60 ((L2.2.2.1 5 (by decide)).trans N1.2.1) (by omega) (by rw [hx (e + 4 + 1) (by omega) (by omega)]; exact a7) (by rw [hx (e + 4 + 5) (by omega) (by omega)]; exact a6) hr60 pI_s (by omega), if_neg (by omega)]
                rfl
            · -- not empty
              have hu : s + 1 < u := by
                rcases a8.lt with q | q
                · omega
                · exact q.1
              rw [if_neg cE, hv] at btn
              have f2 : FX lf e X (putI (x1 lf X) (lf + 1) r ((0 + v + 1 : Nat) : Int)) := (FX.one hl).tr (FX.t hl)
              have hx := f2.2.1
              have L2 : LR (putI (x1 lf X) (lf + 1) r ((0 + v + 1 : Nat) : Int)) (y1 Y) lf e := h1.turn hl r _
              obtain ⟨Y2, c1, c2, c3, c4⟩ := run_loop d0 hl h60 (d := d1) (s := s) (u := u) (r := r) (E := E) (kk := k) (D' := D') hs30 (by omega) (by omega) (fun X Y p1 p2 p3 p4 => by
                have := ih D' (s + 1) u (r + 1) E d1 X Y p1 p2 (by omega) (by omega) p3 p4 (by omega)
                rw [if_pos hu] at this; exact this) v 0 _ (y1 Y) L2 (a8.keep f2 FY.one) (by rw [hx (e + 4) (by omega) (by omega)]; exact hm) (by rw [hx (e + 4 + 5) (by omega) (by omega)]; exact a6) (by rw [hx (e + 4 + 1) (by omega) (by omega)]; exact a7) N1 (by rw [em, hv]) (by omega) eu (by rw [pI_s]; omega)
              have y2 := FY.one.tr c2
              rw [y1_37] at c3
              rcases c4 with ⟨k1, X3, n, k2, k3, k4, k5, k6⟩ | ⟨k1, k0, X3, n, k2, k3, k4, k6⟩
              · have f3 := f2.tr k4
                obtain ⟨Y', q1, q2⟩ := ih D u t (E + 1) r' (d1 + 1) X3 Y2 k3 (a9.keep f3 y2) ht hr' (by rw [f3.2.1 (e + 4) (by omega) (by omega)]; exact hm) k1 hD
                rw [y1_37] at k6
                refine ⟨Y', ?_, LOut.pre (n1 := 1 + n) (a1 := 2) (fun mv hmv => ?_) f3 (fun j hj => ?_) y2 (by omega) (by omega) (by omega) (by omega) (Nat.le_refl _) (by have := @ite_b (u < t) _; omega) q2⟩
                · rw [da_go (d1 + 1) g1 hs30 n35, dl, show (0 : Int) = ((0 : Nat) : Int) from rfl, c1, bV_k, y2.2.2.2 (83 + 9 * s) (Or.inl (by omega)), a2]
                  exact q1
                · rw [pu_turn d0 hm (by omega) h60 v5 (by omega) (by omega) hkw hdx btn, k2 (mv + 1) (by omega), Nat.add_assoc]
                · rw [k5 j (by omega), pI_nk (by omega), x1_t]
              · rw [y1_37] at k6
                refine ⟨Y2, ?_, y2, by omega, Or.inr ⟨k1, k0, X3, 1 + n, fun mv hmv => ?_, k3, f2.tr k4, by omega⟩⟩
                · rw [da_go (d1 + 1) g1 hs30 n35, dl, show (0 : Int) = ((0 : Nat) : Int) from rfl, c1, bV_k, da_stop (d1 + 1) k1]
                · rw [pu_turn d0 hm (by omega) h60 v5 (by omega) (by omega) hkw hdx btn]
                  exact k2 (mv + 1) (by omega)
        · have hk2 : mV Y (75 + 9 * s) < 8 ∨ mV Y (75 + 9 * s) = 10 := by omega
          rcases hk2 with hk2 | hk2
          · -- a deed
            obtain ⟨b, X2, Y2, b1, b2, b3⟩ := step_a2 d0 d h1 hl hs30 hr60 S1' (by rw [ek]; exact hk2)
            obtain ⟨t1, t2, t3, t4, t5, t6, t7, t8⟩ := b3
            have f3 : FX lf e X (putI X2 lf 1 (w32 (X.1 lf 1 + b01 (!b)))) := ((FX.one hl).tr t2).tr (FX.p hl)
            have y3 : FY Y (putI Y2 179 38 (w32 (Y.1 179 38 + b01 (!b)))) := (FY.one.tr t3).tr (FY.p (by decide))
            have L3 : LR (putI X2 lf 1 (w32 (X.1 lf 1 + b01 (!b)))) (putI Y2 179 38 (w32 (Y.1 179 38 + b01 (!b)))) lf e := by
              rw [v1]
              exact t1.put hl 1 (by decide) _ (by omega) (by omega)
            have e37 : (putI Y2 179 38 (w32 (Y.1 179 38 + b01 (!b)))).1 179 37 = Y.1 179 37 + 1 := by rw [pI_nk (by decide), t6, y1_37]
            have N3 : Nx (putI Y2 179 38 (w32 (Y.1 179 38 + b01 (!b)))) := ⟨by rw [pI_nk (by decide), t5]; exact N1.1, by rw [pI_nk (by decide), t8]; exact N1.2.1, by rw [e37]; omega, by rw [e37]; omega⟩
            obtain ⟨Y', c1, c2⟩ := ih D (s + 1) t (r + 1) r' d _ _ L3 (a2.keep f3 y3) ht hr' (by rw [f3.2.1 (e + 4) (by omega) (by omega)]; exact hm) N3 hD
            refine ⟨Y', ?_, LOut.pre (n1 := 1) (a1 := 2) (fun mv hmv => pu_act d0 hm (by omega) h60 v5 (by omega) (by omega) hkw hdx b1) f3 (fun j hj => ?_) y3 (by rw [e37]; omega) (by rw [e37]; omega) (by omega) (by omega) (Nat.le_refl _) (by have := @ite_b (s + 1 < t) _; omega) c2⟩
            · rw [da_go d g1 hs30 n35, do_act d hs30 hdn hk2 b2, bV_k, y3.2.2.2 (83 + 9 * s) (Or.inl (by omega)), a1]
              exact c1
            · rw [pI_ne (by omega), t4, x1_t]
          · -- stop
            rw [hk2] at hkw
            have e35 : (putI (y1 Y) 179 35 1).1 179 35 = 1 := pI_s
            have e37 : (putI (y1 Y) 179 35 1).1 179 37 = Y.1 179 37 + 1 := by rw [pI_nk (by decide), y1_37]
            refine ⟨putI (y1 Y) 179 35 1, ?_, FY.one.tr (FY.p (by decide)), by omega, Or.inr ⟨by omega, by omega, x1 lf X, 1, fun mv hmv => ?_, h1.stop 1, FX.one hl, by omega⟩⟩
            · rw [da_go d g1 hs30 n35, do_stop d hs30 hdn hk2, bV_k, da_stop d (by omega)]
            · rw [pu_turn d0 hm (by omega) h60 v5 (by omega) (by omega) hkw hdx (bt_stop d0 hr60 (by rw [(FX.one hl).2.1 (e + 4 + 1) (by omega) (by omega), hkw]; rfl) m1), pu_fin d0 m1 (Nat.le_refl _)]
end Lf8
