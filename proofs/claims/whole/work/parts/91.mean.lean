section Mean
theorem now_b {V : Nat → Int} (hw : Wf V) : 0 ≤ sNow V ∧ sNow V < 256 := by
  have hc := hw.1
  unfold Wc at hc
  refine small_of_bt 8 (by omega) (rI_or _ _) fun i hi h8 => ?_
  unfold sNow
  rw [bt_or, bt_wr hw.1 hi, decide_eq_false (by omega), Bool.false_and, Bool.false_or]
  cases hb : bt (sTo V (sLiv V)) i
  · rfl
  · exfalso
    unfold sTo at hb
    obtain ⟨j, j1, j2, j3⟩ := bt_un.mp hb
    have hk := (hw.2.2.2.2.2.2.2.2.1 j (by omega)).2.2.1
    rw [bt_of_small (n := 8) (by omega) hk.1 (by have := hk.2; omega) h8] at j3
    cases j3
variable (d0 d : Nat)
/-- what the class may change in a trial -/
def FD (X X' : Mem) : Prop := ∀ a, ¬ (39 ≤ a ∧ a < 67) → a ≠ 85 → a ≠ 86 → X'.1 a = X.1 a ∧ X'.2.1 a = X.2.1 a
theorem FD.tr {A B C : Mem} (h : FD A B) (g : FD B C) : FD A C := fun a h1 h2 h3 => ⟨(g a h1 h2 h3).1.trans (h a h1 h2 h3).1, (g a h1 h2 h3).2.trans (h a h1 h2 h3).2⟩
/-- what the reference may change in a trial -/
def FM (Y Y' : Mem) : Prop := (∀ a, a ≠ 179 → a ≠ 184 → Y'.1 a = Y.1 a) ∧ Y'.2 = Y.2 ∧ (∀ k, ¬ (35 ≤ k ∧ k ≤ 42) → Y'.1 179 k = Y.1 179 k) ∧ mV Y' = mV Y
theorem FM.tr {A B C : Mem} (h : FM A B) (g : FM B C) : FM A C := ⟨fun a h1 h2 => (g.1 a h1 h2).trans (h.1 a h1 h2), g.2.1.trans h.2.1, fun k hk => (g.2.2.1 k hk).trans (h.2.2.1 k hk), g.2.2.2.trans h.2.2.2⟩
/-- the numbers are put back -/
theorem m_restore (p1 p2 s : Int) (i : Nat) {Y : Mem} : E2 d r_m_mean 70 [(0, vR 12 179), (1, vI p1), (2, vI p2), (3, vL s), (5, vI (i : Int)), (6, vI 0)] [] Y = E2 d r_m_mean 53 [(0, vR 12 179), (1, vI p1), (2, vI p2), (3, vL s), (5, vI (w32 ((i : Int) + 1)))] [] (fI Y 184 0 73 (fun k => Y.1 186 k)) := by
  refine ex_loop (P := fun j M' => E2 d r_m_mean 70 [(0, vR 12 179), (1, vI p1), (2, vI p2), (3, vL s), (5, vI (i : Int)), (6, vI (j : Int))] [] M') (R := fun r => r = E2 d r_m_mean 53 [(0, vR 12 179), (1, vI p1), (2, vI p2), (3, vL s), (5, vI (w32 ((i : Int) + 1)))] [] (fI Y 184 0 73 (fun k => Y.1 186 k))) (fun j M' => M' = fI Y 184 0 j (fun k => Y.1 186 k)) 73 (fun j M' hj hq => ?_) (fun M' hq => ?_) Y fI_0.symm
  · refine ⟨_, ?_, rfl⟩
    show E2 d r_m_mean 70 _ _ M' = _
    rw [hq, q_m_mean_70, if_pos (by omega), if_pos (by omega), if_pos (by omega), Int.toNat_natCast, w32n (by omega), fI_na (b := 186) (by decide), ← fI_s, Nat.zero_add]
  · show E2 d r_m_mean 70 _ _ M' = _
    rw [hq, q_m_mean_70, if_neg (by omega)]
/-- one trial, by both -/
theorem trial {X Y : Mem} {V : Nat → Int} (hr : Rl X 11 V) (hw : Wf V) (hp : PlR X 11 V) (h73 : V 73 = 1) (hY : mV Y = V) (hB : ∀ k, k < 73 → Y.1 186 k = V k) (p1 p2 s : Int) (hp1 : 0 ≤ p1 ∧ p1 ≤ 9999) (hp2 : 1 ≤ p2 ∧ p2 ≤ 20) (i : Nat) (hi : (i : Int) < p2) (hs : 0 ≤ s ∧ s ≤ 8 * (i : Int)) (hd : 3 ≤ d) :
    ∃ s' X' Y', (0 ≤ s' ∧ s' ≤ 8 * ((i + 1 : Nat) : Int)) ∧ E2 d0 r_x_mean 36 [(0, vR 11 0), (1, vI p1), (2, vI p2), (3, vI s), (4, vI (i : Int))] [] X = E2 d0 r_x_mean 36 [(0, vR 11 0), (1, vI p1), (2, vI p2), (3, vI s'), (4, vI ((i + 1 : Nat) : Int))] [] X' ∧ E2 d r_m_mean 53 [(0, vR 12 179), (1, vI p1), (2, vI p2), (3, vL s), (5, vI (i : Int))] [] Y = E2 d r_m_mean 53 [(0, vR 12 179), (1, vI p1), (2, vI p2), (3, vL s'), (5, vI ((i + 1 : Nat) : Int))] [] Y' ∧ FD X X' ∧ FM Y Y' := by
  have hc := hr.1
  unfold Wc at hc
  have n7 := hr.2.1.2.2.2.2.2.2.2.1
  have n8 := hr.2.1.2.2.2.2.2.2.2.2.1
  have n9 := hr.2.1.2.2.2.2.2.2.2.2.2
  obtain ⟨X1, x1, x2, x3⟩ := em_copy (M := X) (p0 := 39) (p1 := 11) d0 (by unfold Dj; omega) (by omega) (by omega) (by omega) hp.2.2.1 (by rw [hp.1]; exact hp.2.1)
  have hpi : w32 (p1 + (i : Int)) = p1 + i := w32s (by omega)
  obtain ⟨X2, Y1, r1, r2, r3, r4, r5⟩ := run_life (lf := 85) (e := 39) (X := X1) (Y := Y) d0 d (by omega) (by rw [hY]; exact hr.move x3) (by rw [hY]; exact hw) (by rw [hY]; exact hp.move x3 (fun _ _ => rfl)) (by rw [hY]; exact h73) (p1 + i) (by omega) hd
  have hb := now_b r3.2.1
  have hz := sz_b (sNow (mV Y1))
  have hx := q_x_mean_36 p1 p2 s (i : Int) d0 X
  rw [if_pos hi, x1, bV_k, hpi, r1, bV_k, em_knownAfter d0 r3.1, bI_k, sAft_0 r3.2.1.1, bitC _ hb.1 hb.2, bI_k, w32s (x := s + sSz (sNow (mV Y1))) (by omega), w32n (by omega)] at hx
  have hm := q_m_mean_53 p1 p2 s (i : Int) d Y
  rw [if_pos hi, hpi, r2, bV_k, m_knownNow d r3.2.1.1, bI_k, m_sizeOf, bI_k, w64s (x := s + sSz (sNow (mV Y1))) (by omega), m_restore, w32n (by omega)] at hm
  refine ⟨_, _, _, ⟨by omega, by omega⟩, hx, hm, fun a g1 g2 g3 => ⟨?_, ?_⟩, ?_, ?_, ?_, ?_⟩
  · rw [r4.1 a (by omega) g2 g3, (x2 a (by omega)).1]
  · rw [r4.2.2, (x2 a (by omega)).2]
  · intro a g1 g2
    rw [fI_na g2, r5.1 a g1 g2]
  · rw [fI_L, r5.2.1]
  · intro k hk
    rw [fI_na (by decide), r5.2.2.1 k hk]
  · funext k
    show (fI Y1 184 0 73 (fun k => Y1.1 186 k)).1 184 k = mV Y k
    by_cases c : k < 73
    · rw [fI_at (by omega), Nat.sub_zero, r5.1 186 (by decide) (by decide), hB k c, hY]
    · rw [fI_nj (by omega)]
      exact r5.2.2.2 k (Or.inl (by omega))
theorem Rl.fd {X X' : Mem} {V : Nat → Int} (h : FD X X') (hr : Rl X 11 V) : Rl X' 11 V := hr.cong fun a g1 g2 => (h a (by omega) (by omega) (by omega)).1
theorem PlR.fd {X X' : Mem} {V : Nat → Int} (h : FD X X') (hr : PlR X 11 V) : PlR X' 11 V := hr.cong fun a g1 g2 => (h a (by omega) (by omega) (by omega)).1
/-- all trials -/
theorem trials {V : Nat → Int} (hw : Wf V) (h73 : V 73 = 1) (p1 p2 : Int) (hp1 : 0 ≤ p1 ∧ p1 ≤ 9999) (hp2 : 1 ≤ p2 ∧ p2 ≤ 20) (hd : 3 ≤ d) : ∀ (j i : Nat) (s : Int) (X Y : Mem), ((i + j : Nat) : Int) = p2 → Rl X 11 V → PlR X 11 V → mV Y = V → (∀ k, k < 73 → Y.1 186 k = V k) → 0 ≤ s ∧ s ≤ 8 * (i : Int) →
    ∃ t b X' Y', E2 d r_x_mean 36 [(0, vR 11 0), (1, vI p1), (2, vI p2), (3, vI s), (4, vI (i : Int))] [] X = some (some (vI 1), putI (putL (putL X' 0 1 t) 0 2 b) 0 0 0) ∧ E2 d r_m_mean 53 [(0, vR 12 179), (1, vI p1), (2, vI p2), (3, vL s), (5, vI (i : Int))] [] Y = some (some (vI 1), putL (putL Y' 179 2 t) 179 3 b) ∧ FD X X' ∧ FM Y Y' := by
  intro j
  induction j with
  | zero =>
    intro i s X Y hi hr hp hY hB hs
    obtain ⟨t, b, f1, f2⟩ := frac_both d s p2 (by omega) (by omega)
    refine ⟨t, b, X, Y, ?_, ?_, fun a _ _ _ => ⟨rfl, rfl⟩, fun _ _ _ => rfl, rfl, fun _ _ => rfl, rfl⟩
    · rw [q_x_mean_36, if_neg (by omega), f1, bV_k, x_graR]
    · rw [q_m_mean_53, if_neg (by omega), f2, bI_k, if_pos (Or.inr rfl)]
  | succ j ih =>
    intro i s X Y hi hr hp hY hB hs
    obtain ⟨s', X1, Y1, a1, a2, a3, a4, a5⟩ := trial d d hr hw hp h73 hY hB p1 p2 s hp1 hp2 i (by omega) hs hd
    obtain ⟨t, b, X', Y', b1, b2, b3, b4⟩ := ih (i + 1) s' X1 Y1 (by omega) (hr.fd a4) (hp.fd a4) (a5.2.2.2.trans hY) (fun k hk => by rw [a5.1 186 (by decide) (by decide)]; exact hB k hk) a1
    exact ⟨t, b, X', Y', a2.trans b1, a3.trans b2, a4.tr b3, a5.tr b4⟩
end Mean
