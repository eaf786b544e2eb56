/-! trays laid, poured; what is known copied -/
theorem fL_I {M : Mem} {a o n : Nat} {f : Nat → Int} : (fL M a o n f).1 = M.1 := rfl
theorem KpH.of {M M2 : Mem} (h0 : ∀ k, 2 ≤ k → M2.1 0 k = M.1 0 k) (h1 : ∀ k, 2 ≤ k → M2.1 179 k = M.1 179 k) (g0 : M2.2.1 0 = M.2.1 0) (g1 : M2.2.1 179 = M.2.1 179) : KpH M M2 := by
  unfold KpH
  rw [g0, g1, h0 5 (by omega), h0 9 (by omega), h0 10 (by omega), h0 14 (by omega), h0 18 (by omega), h1 8 (by omega), h1 10 (by omega), h1 11 (by omega), h1 24 (by omega), h1 34 (by omega)]
  simp
section Trs2
variable {M : Mem} (d : Nat)
theorem m_noR (s : Int) (N : Mem) : (bI (C2 d j_m_no [vR 12 179, vI s] N) fun x M => if x = 0 ∨ x = 1 then some (some (vI x), M) else none) = some (some (vI 0), putI N 179 0 s) := by
  rw [q_m_no, bI_k, if_pos (by decide)]
theorem m_refR (s : Int) (N : Mem) : (bI (C2 d j_m_refuse [vR 12 179, vI s] N) fun x M => some (some (vI x), M)) = some (some (vI (-1)), putI N 179 0 s) := by
  rw [q_m_refuse, bI_k]
theorem x_denR (s : Int) (N : Mem) : (bI (C2 d j_x_deny [vR 11 0, vI s] N) fun x M => if x = 0 ∨ x = 1 then some (some (vI x), M) else none) = some (some (vI 0), putI N 0 0 s) := by
  rw [q_x_deny, bI_k, if_pos (by decide)]
theorem x_graR (N : Mem) : (bI (C2 d j_x_grant [vR 11 0] N) fun x M => if x = 0 ∨ x = 1 then some (some (vI x), M) else none) = some (some (vI 1), putI N 0 0 0) := by
  rw [q_x_grant, bI_k, if_pos (by decide)]
theorem x_refR (s : Int) (N : Mem) : (bI (C2 d j_x_refuse [vR 11 0, vI s] N) fun x M => some (some (vI x), M)) = some (some (vI (-1)), putI N 0 0 s) := by
  rw [q_x_refuse, bI_k]
theorem x_ansR (v : Int) (N : Mem) : (bI (C2 d j_x_answer [vR 11 0, vI v] N) fun x M => some (some (vI x), M)) = some (some (vI v), putI N 0 0 0) := by
  rw [q_x_answer, bI_k]
theorem ty_lay (a : Nat) (s n : Int) : C2 d j_ty_lay [vR 10 a, vI s, vI n] M = some (none, fL (putI (putI M a 1 s) a 2 n) (a + 1) 0 60 (fun _ => 0)) := by
  rw [q_ty_lay]
  refine ex_loop (P := fun i M' => E2 d r_ty_lay 8 [(0, vR 10 a), (3, vI (i : Int))] [] M') (R := fun r => r = some (none, fL (putI (putI M a 1 s) a 2 n) (a + 1) 0 60 (fun _ => 0))) (fun i M' => M' = fL (putI (putI M a 1 s) a 2 n) (a + 1) 0 i (fun _ => 0)) 60 (fun i M' hi hq => ?_) (fun M' hq => ?_) _ fL_0.symm
  · subst hq
    refine ⟨_, ?_, rfl⟩
    rw [q_ty_lay_8, if_pos (by omega), if_pos (by omega), w32n (by omega), Int.toNat_natCast, ← fL_s, Nat.zero_add]
  · subst hq
    rw [q_ty_lay_8, if_neg (by decide)]
theorem m_tray45 (p : Nat) (hp : p < 4) (n : Int) (hn : 0 ≤ n ∧ n ≤ 60) : E2 d r_m_tray 45 [(0, vR 12 179), (1, vI (p : Int)), (3, vI n), (4, vI 0)] [] M = some (some (vI 1), fL M 182 (60 * p) n.toNat (fun _ => 0)) := by
  refine ex_loop (P := fun i M' => E2 d r_m_tray 45 [(0, vR 12 179), (1, vI (p : Int)), (3, vI n), (4, vI (i : Int))] [] M') (R := fun r => r = some (some (vI 1), fL M 182 (60 * p) n.toNat (fun _ => 0))) (fun i M' => M' = fL M 182 (60 * p) i (fun _ => 0)) n.toNat (fun i M' hi hq => ?_) (fun M' hq => ?_) M fL_0.symm
  · subst hq
    refine ⟨_, ?_, rfl⟩
    rw [q_m_tray_45, if_pos (by omega), w32s (x := 60 * (p : Int)) (by omega), w32s (x := 60 * (p : Int) + (i : Int)) (by omega), if_pos (by omega), show (60 * (p : Int) + (i : Int)).toNat = 60 * p + i by omega, w32n (by omega), ← fL_s]
  · subst hq
    rw [q_m_tray_45, if_neg (by omega)]
theorem x_tray_ok (t : Nat) (ht : t < 4) (s n : Int) (hs : 0 ≤ s ∧ s ≤ 3) (hn : 0 ≤ n ∧ n ≤ 60) : ∃ M1, C2 d j_x_tray [vR 11 0, vI (t : Int), vI s, vI n] M = some (some (vI 1), M1) ∧ (∀ a, a ≠ 0 → a ≠ 87 + 2 * t → M1.1 a = M.1 a) ∧ M1.1 (87 + 2 * t) 1 = s ∧ M1.1 (87 + 2 * t) 2 = n ∧ (∀ a, a ≠ 88 + 2 * t → M1.2.1 a = M.2.1 a) ∧ (∀ k, k < 60 → M1.2.1 (88 + 2 * t) k = 0) ∧ (∀ k, k ≠ 0 → M1.1 0 k = M.1 0 k) ∧ M1.1 0 0 = 0 := by
  refine ⟨putI (fL (putI (putI M (87 + 2 * t) 1 s) (87 + 2 * t) 2 n) (88 + 2 * t) 0 60 (fun _ => 0)) 0 0 0, ?_, ?_, ?_, ?_, ?_, ?_, ?_, ?_⟩
  · rw [q_x_tray, x_isTray, bI_k, if_pos (show (0 : Int) ≤ t ∧ (t : Int) ≤ 3 by omega), if_neg (by decide), x_within, bI_k, if_pos hs, if_neg (by decide), if_neg (by omega), if_neg (by omega), if_pos (by omega), Int.toNat_natCast, ty_lay, bV_k, q_x_grant, bI_k, if_pos (by decide), show 1 + 86 + 2 * t = 87 + 2 * t by omega, show 87 + 2 * t + 1 = 88 + 2 * t by omega]
  · intro a h1 h2
    rw [pI_ne h1, fL_I, pI_ne h2, pI_ne h2]
  · rw [pI_ne (by omega), fL_I, pI_nk (by omega), pI_s]
  · rw [pI_ne (by omega), fL_I, pI_s]
  · intro a h1
    rw [pI_L, fL_na h1]
  · intro k hk
    rw [pI_L, fL_at (by omega)]
  · intro k hk
    rw [pI_nk hk, fL_I, pI_ne (by omega), pI_ne (by omega)]
  · rw [pI_s]
theorem m_tray_ok (t : Nat) (ht : t < 4) (s n : Int) (hs : 0 ≤ s ∧ s ≤ 3) (hn : 0 ≤ n ∧ n ≤ 60) : ∃ M2, C2 d j_m_tray [vR 12 179, vI (t : Int), vI s, vI n] M = some (some (vI 1), M2) ∧ (∀ a, a ≠ 179 → a ≠ 180 → a ≠ 181 → M2.1 a = M.1 a) ∧ M2.1 180 t = s ∧ M2.1 181 t = n ∧ (∀ u, u ≠ t → M2.1 180 u = M.1 180 u ∧ M2.1 181 u = M.1 181 u) ∧ (∀ a, a ≠ 182 → M2.2.1 a = M.2.1 a) ∧ (∀ k : Nat, (k : Int) < n → M2.2.1 182 (60 * t + k) = 0) ∧ (∀ j, ¬ (60 * t ≤ j ∧ j < 60 * t + 60) → M2.2.1 182 j = M.2.1 182 j) ∧ (∀ k, 2 ≤ k → M2.1 179 k = M.1 179 k) ∧ M2.1 179 0 = 0 := by
  refine ⟨fL (putI (putI (putI (putI M 179 1 0) 179 0 0) 180 t s) 181 t n) 182 (60 * t) n.toNat (fun _ => 0), ?_, ?_, ?_, ?_, ?_, ?_, ?_, ?_, ?_, ?_⟩
  · rw [q_m_tray, if_neg (by omega), if_pos (by omega), if_neg (by omega), if_neg (by omega), if_neg (by omega), if_neg (by omega), if_pos (by omega), if_pos (by omega), Int.toNat_natCast, m_tray45 d t (by omega) n (by omega)]
  · intro a h1 h2 h3
    rw [fL_I, pI_ne h3, pI_ne h2, pI_ne h1, pI_ne h1]
  · rw [fL_I, pI_ne (by decide), pI_s]
  · rw [fL_I, pI_s]
  · intro u hu
    constructor
    · rw [fL_I, pI_ne (by decide), pI_nk hu, pI_ne (by decide), pI_ne (by decide)]
    · rw [fL_I, pI_nk hu, pI_ne (by decide), pI_ne (by decide), pI_ne (by decide)]
  · intro a h1
    rw [fL_na h1]
  · intro k hk
    rw [fL_at (by omega)]
  · intro j hj
    rw [fL_nj (by omega)]
  · intro k hk
    rw [fL_I, pI_ne (by decide), pI_ne (by decide), pI_nk (by omega), pI_nk (by omega)]
  · rw [fL_I, pI_ne (by decide), pI_ne (by decide), pI_s]
theorem o_tray (h : Inv M) (p s n : Int) : OpI d j_x_tray j_m_tray [vI p, vI s, vI n] M := by
  by_cases c1 : 0 ≤ p ∧ p ≤ 3
  · by_cases c2 : 0 ≤ s ∧ s ≤ 3
    · by_cases c3 : 60 < n
      · refine opR h 0 5 ?_ ?_
        · rw [q_x_tray, x_isTray, bI_k, if_pos c1, if_neg (by decide), x_within, bI_k, if_pos c2, if_neg (by decide), if_pos c3, q_x_deny, bI_k, if_pos (by decide)]
        · rw [q_m_tray, if_neg (by omega), if_pos (by omega), if_neg (by omega), if_neg (by omega), if_pos c3, q_m_no, bI_k, if_pos (by decide)]
      · by_cases c4 : n < 0
        · refine opR h 0 6 ?_ ?_
          · rw [q_x_tray, x_isTray, bI_k, if_pos c1, if_neg (by decide), x_within, bI_k, if_pos c2, if_neg (by decide), if_neg c3, if_pos c4, q_x_deny, bI_k, if_pos (by decide)]
          · rw [q_m_tray, if_neg (by omega), if_pos (by omega), if_neg (by omega), if_neg (by omega), if_neg c3, if_pos c4, q_m_no, bI_k, if_pos (by decide)]
        · obtain ⟨t, rfl⟩ : ∃ t : Nat, p = (t : Int) := ⟨p.toNat, by omega⟩
          obtain ⟨M1, hx, f1, f2, f3, f4, f5, f6, f7⟩ := x_tray_ok (M := M) d t (by omega) s n c2 (by omega)
          obtain ⟨M2, hm, g1, g2, g3, g4, g5, g6, g7, g8, g9⟩ := m_tray_ok (M := M1) d t (by omega) s n c2 (by omega)
          refine ⟨1, M1, M2, hx, hm, h.trs ?_ ?_ ?_ ?_⟩
          · intro a q1 q2 q3 q4 q5
            unfold Rc at q1
            rw [g1 a (by omega) q3 q4, f1 a (by omega) (by omega), g5 a q5, f4 a (by omega)]
            exact ⟨rfl, rfl⟩
          · intro u hu
            by_cases c : u = t
            · subst c
              refine Or.inr ?_
              rw [g1 _ (by omega) (by omega) (by omega), f2, f3, g2, g3]
              refine ⟨c2, rfl, rfl, by omega, fun k hk => ?_⟩
              rw [g5 _ (by omega), f5 k (by omega), g6 k hk]
            · have hu' := h.2.1 u hu
              unfold TrR at hu' ⊢
              rw [g1 _ (by omega) (by omega) (by omega), f1 _ (by omega) (by omega), (g4 u c).1, (g4 u c).2, f1 180 (by omega) (by omega), f1 181 (by omega) (by omega)]
              rcases hu' with q | ⟨q1, q2, q3, q4, q5⟩
              · exact Or.inl q
              · refine Or.inr ⟨q1, q2, q3, q4, fun k hk => ?_⟩
                rw [g5 _ (by omega), f4 _ (by omega), g7 _ (by omega), f4 _ (by omega)]
                exact q5 k hk
          · rw [g1 0 (by omega) (by omega) (by omega), f7, g9]
          · refine KpH.of (fun k hk => ?_) (fun k hk => ?_) ?_ ?_
            · rw [g1 0 (by omega) (by omega) (by omega), f6 k (by omega)]
            · rw [g8 k hk, f1 179 (by omega) (by omega)]
            · rw [g5 0 (by omega), f4 0 (by omega)]
            · rw [g5 179 (by omega), f4 179 (by omega)]
    · refine opR h 0 1 ?_ ?_
      · rw [q_x_tray, x_isTray, bI_k, if_pos c1, if_neg (by decide), x_within, bI_k, if_neg c2, if_pos rfl, q_x_deny, bI_k, if_pos (by decide)]
      · rw [q_m_tray, if_neg (by omega), if_pos (by omega), m_noR]
        by_cases c3 : s < 0
        · rw [if_pos c3]
        · rw [if_neg c3, if_pos (by omega)]
  · refine opR h 0 1 ?_ ?_
    · rw [q_x_tray, x_isTray, bI_k, if_neg c1, if_pos rfl, q_x_deny, bI_k, if_pos (by decide)]
    · rw [q_m_tray, m_noR]
      by_cases c3 : p < 0
      · rw [if_pos c3]
      · rw [if_neg c3, if_neg (by omega)]
/-- poured -/
theorem ty_run (a : Nat) (p n : Int) (hl : 0 ≤ M.1 a 2 ∧ M.1 a 2 ≤ 60) : C2 d j_ty_hasRun [vR 10 a, vI p, vI n] M = some (some (vI (if (0 ≤ p ∧ p ≤ M.1 a 2) ∧ n ≤ M.1 a 2 - p then 1 else 0)), M) := by
  rw [q_ty_hasRun, x_within, bI_k]
  by_cases c : 0 ≤ p ∧ p ≤ M.1 a 2
  · rw [if_pos c, if_neg (by decide), w32s (by omega)]
    by_cases c2 : M.1 a 2 - p < n
    · rw [if_pos c2, if_neg (by omega)]
    · rw [if_neg c2, if_pos (by omega)]
  · rw [if_neg c, if_pos rfl, if_neg (by omega)]
theorem m_pour94 (p q : Nat) (hp : p < 4) (hq : q < 4) (i j n : Int) (hi : 0 ≤ i) (hj : 0 ≤ j) (hn : 0 ≤ n) (h1 : i + n ≤ 60) (h2 : j + n ≤ 60) : E2 d r_m_pour 94 [(0, vR 12 179), (1, vI (p : Int)), (2, vI i), (3, vI (q : Int)), (4, vI j), (5, vI n), (6, vI (if i < j then 1 else 0)), (7, vI 0)] [] M = some (some (vI 1), fL M 182 (60 * q + j.toNat) n.toNat (fun x => M.2.1 182 (60 * p + i.toNat + x))) := by
  by_cases c : i < j
  · rw [if_pos c]
    refine ex_loop (P := fun k M' => E2 d r_m_pour 94 [(0, vR 12 179), (1, vI (p : Int)), (2, vI i), (3, vI (q : Int)), (4, vI j), (5, vI n), (6, vI 1), (7, vI (k : Int))] [] M') (R := fun r => r = some (some (vI 1), fL M 182 (60 * q + j.toNat) n.toNat (fun x => M.2.1 182 (60 * p + i.toNat + x)))) (fun k M' => M' = fL M 182 (60 * q + j.toNat + (n.toNat - k)) k (fun x => M.2.1 182 (60 * p + i.toNat + (n.toNat - k + x)))) n.toNat (fun k M' hk hq' => ?_) (fun M' hq' => ?_) M fL_0.symm
    · subst hq'
      refine ⟨_, ?_, rfl⟩
      have e1 : w32 (w32 (w32 (60 * (p : Int)) + i) + w32 (w32 (n - 1) - (k : Int))) = 60 * (p : Int) + i + (n - 1 - k) := by
        rw [w32s (x := n - 1) (by omega), w32s (x := n - 1 - (k : Int)) (by omega), w32s (x := 60 * (p : Int)) (by omega), w32s (x := 60 * (p : Int) + i) (by omega), w32s (by omega)]
      have e2 : w32 (w32 (w32 (60 * (q : Int)) + j) + w32 (w32 (n - 1) - (k : Int))) = 60 * (q : Int) + j + (n - 1 - k) := by
        rw [w32s (x := n - 1) (by omega), w32s (x := n - 1 - (k : Int)) (by omega), w32s (x := 60 * (q : Int)) (by omega), w32s (x := 60 * (q : Int) + j) (by omega), w32s (by omega)]
      rw [q_m_pour_94, if_pos (by omega), if_neg (by decide), e1, e2, if_pos (by omega), if_pos (by omega), show (60 * (p : Int) + i + (n - 1 - k)).toNat = 60 * p + i.toNat + (n.toNat - 1 - k) by omega, show (60 * (q : Int) + j + (n - 1 - k)).toNat = 60 * q + j.toNat + (n.toNat - 1 - k) by omega, w32n (by omega), fL_nj (by omega)]
      rw [fL_d (f := fun x => M.2.1 182 (60 * p + i.toNat + x)) hk]
    · subst hq'
      rw [q_m_pour_94, if_neg (by omega), Nat.sub_self, Nat.add_zero]
      simp only [Nat.zero_add]
  · rw [if_neg c]
    refine ex_loop (P := fun k M' => E2 d r_m_pour 94 [(0, vR 12 179), (1, vI (p : Int)), (2, vI i), (3, vI (q : Int)), (4, vI j), (5, vI n), (6, vI 0), (7, vI (k : Int))] [] M') (R := fun r => r = some (some (vI 1), fL M 182 (60 * q + j.toNat) n.toNat (fun x => M.2.1 182 (60 * p + i.toNat + x)))) (fun k M' => M' = fL M 182 (60 * q + j.toNat) k (fun x => M.2.1 182 (60 * p + i.toNat + x))) n.toNat (fun k M' hk hq' => ?_) (fun M' hq' => ?_) M fL_0.symm
    · subst hq'
      refine ⟨_, ?_, rfl⟩
      have e1 : w32 (w32 (w32 (60 * (p : Int)) + i) + (k : Int)) = 60 * (p : Int) + i + k := by
        rw [w32s (x := 60 * (p : Int)) (by omega), w32s (x := 60 * (p : Int) + i) (by omega), w32s (by omega)]
      have e2 : w32 (w32 (w32 (60 * (q : Int)) + j) + (k : Int)) = 60 * (q : Int) + j + k := by
        rw [w32s (x := 60 * (q : Int)) (by omega), w32s (x := 60 * (q : Int) + j) (by omega), w32s (by omega)]
      rw [q_m_pour_94, if_pos (by omega), if_pos rfl, e1, e2, if_pos (by omega), if_pos (by omega), show (60 * (p : Int) + i + k).toNat = 60 * p + i.toNat + k by omega, show (60 * (q : Int) + j + k).toNat = 60 * q + j.toNat + k by omega, w32n (by omega), fL_nj (by omega)]
      rw [fL_s (f := fun x => M.2.1 182 (60 * p + i.toNat + x))]
    · subst hq'
      rw [q_m_pour_94, if_neg (by omega)]
theorem o_pour (h : Inv M) (p i q j n : Int) (ri : rI i) (rj : rI j) (rn : rI n) : OpI d j_x_pour j_m_pour [vI p, vI i, vI q, vI j, vI n] M := by
  unfold rI at ri rj rn
  by_cases c1 : 0 ≤ p ∧ p ≤ 3
  · by_cases c2 : 0 ≤ q ∧ q ≤ 3
    · obtain ⟨t, rfl⟩ : ∃ t : Nat, p = (t : Int) := ⟨p.toNat, by omega⟩
      obtain ⟨u, rfl⟩ : ∃ t : Nat, q = (t : Int) := ⟨q.toNat, by omega⟩
      have ht := h.2.1 t (by omega)
      have hu := h.2.1 u (by omega)
      have hx := q_x_pour (t : Int) i (u : Int) j n d M
      rw [x_isTray, bI_k, if_pos c1, if_neg (by decide), x_isTray, bI_k, if_pos c2, if_neg (by decide), if_pos (by omega), if_pos (by omega), Int.toNat_natCast, Int.toNat_natCast, x_missing, bI_k, x_missing, bI_k, show 1 + 86 + 2 * t = 87 + 2 * t by omega, show 1 + 86 + 2 * u = 87 + 2 * u by omega] at hx
      have hm : ∀ N : Mem, (∀ k, (putI (putI N 179 1 0) 179 0 0).1 180 k = M.1 180 k) → (∀ k, (putI (putI N 179 1 0) 179 0 0).1 181 k = M.1 181 k) → C2 d j_m_pour [vR 12 179, vI (t : Int), vI i, vI (u : Int), vI j, vI n] N = if M.1 181 t < 0 then some (some (vI 0), putI (putI (putI N 179 1 0) 179 0 0) 179 0 3) else if M.1 181 u < 0 then some (some (vI 0), putI (putI (putI N 179 1 0) 179 0 0) 179 0 3) else if M.1 180 t = M.1 180 u then (if n < 0 then some (some (vI 0), putI (putI (putI N 179 1 0) 179 0 0) 179 0 6) else if i < 0 then some (some (vI 0), putI (putI (putI N 179 1 0) 179 0 0) 179 0 4) else if j < 0 then some (some (vI 0), putI (putI (putI N 179 1 0) 179 0 0) 179 0 4) else if M.1 181 t < w64 (i + n) then some (some (vI 0), putI (putI (putI N 179 1 0) 179 0 0) 179 0 4) else if M.1 181 u < w64 (j + n) then some (some (vI 0), putI (putI (putI N 179 1 0) 179 0 0) 179 0 4) else E2 d r_m_pour 94 [(0, vR 12 179), (1, vI (t : Int)), (2, vI i), (3, vI (u : Int)), (4, vI j), (5, vI n), (6, vI (if i < j then 1 else 0)), (7, vI 0)] [] (putI (putI N 179 1 0) 179 0 0)) else some (some (vI 0), putI (putI (putI N 179 1 0) 179 0 0) 179 0 11) := by
        intro N h1' h2'
        have h1 : ∀ k, up2 (up2 N.1 179 1 0) 179 0 0 180 k = M.1 180 k := h1'
        have h2 : ∀ k, up2 (up2 N.1 179 1 0) 179 0 0 181 k = M.1 181 k := h2'
        rw [q_m_pour, if_neg (by omega), if_pos (by omega), if_neg (by omega), if_pos (by omega)]
        simp only [if_pos (show (0 : Int) ≤ t ∧ (t : Int) < 4 by omega), if_pos (show (0 : Int) ≤ u ∧ (u : Int) < 4 by omega), Int.toNat_natCast, h1, h2, m_noR, ycmp_gt]
        by_cases c : i < j
        · rw [if_pos c, if_pos c]
        · rw [if_neg c, if_neg c]
      have hI : ∀ (s : Int) (k : Nat), (putI (putI (putI M 0 0 s) 179 1 0) 179 0 0).1 180 k = M.1 180 k := fun s k => by simp [up2]
      have hJ : ∀ (s : Int) (k : Nat), (putI (putI (putI M 0 0 s) 179 1 0) 179 0 0).1 181 k = M.1 181 k := fun s k => by simp [up2]
      rcases ht with ht | ⟨t1, t2, t3, t4, t5⟩
      · refine opR h 0 3 ?_ ?_
        · rw [hx, if_pos ht.1, if_neg (by decide), q_x_deny, bI_k, if_pos (by decide)]
        · rw [hm _ (hI 3) (hJ 3), if_pos (by omega)]
      · rw [if_neg (show ¬ M.1 (87 + 2 * t) 1 = -1 by omega), if_pos rfl] at hx
        rcases hu with hu | ⟨u1, u2, u3, u4, u5⟩
        · refine opR h 0 3 ?_ ?_
          · rw [hx, if_pos hu.1, if_neg (by decide), q_x_deny, bI_k, if_pos (by decide)]
          · rw [hm _ (hI 3) (hJ 3), if_neg (by omega), if_pos (by omega)]
        · rw [if_neg (show ¬ M.1 (87 + 2 * u) 1 = -1 by omega), if_pos rfl] at hx
          by_cases c3 : M.1 (87 + 2 * t) 1 = M.1 (87 + 2 * u) 1
          · rw [if_pos c3] at hx
            by_cases c4 : n < 0
            · refine opR h 0 6 ?_ ?_
              · rw [hx, if_pos c4, q_x_deny, bI_k, if_pos (by decide)]
              · rw [hm _ (hI 6) (hJ 6), if_neg (by omega), if_neg (by omega), if_pos (by omega), if_pos c4]
            · rw [if_neg c4, ty_run d _ i n t4, bI_k, ty_run d _ j n u4, bI_k] at hx
              by_cases c5 : (0 ≤ i ∧ i ≤ M.1 (87 + 2 * t) 2) ∧ n ≤ M.1 (87 + 2 * t) 2 - i
              · by_cases c6 : (0 ≤ j ∧ j ≤ M.1 (87 + 2 * u) 2) ∧ n ≤ M.1 (87 + 2 * u) 2 - j
                · rw [if_pos c5, if_neg (by decide), if_pos c6, if_neg (by decide), if_pos (by omega), q_x_grant, bI_k, if_pos (by decide)] at hx
                  have hx2 : C2 d j_x_pour [vR 11 0, vI (t : Int), vI i, vI (u : Int), vI j, vI n] M = some (some (vI 1), putI (fL M (87 + 2 * u + 1) j.toNat n.toNat (fun x => M.2.1 (87 + 2 * t + 1) (i.toNat + x))) 0 0 0) := hx
                  have hy := hm (putI (fL M (87 + 2 * u + 1) j.toNat n.toNat (fun x => M.2.1 (87 + 2 * t + 1) (i.toNat + x))) 0 0 0) (fun k => by simp [up2, fL]) (fun k => by simp [up2, fL])
                  rw [if_neg (by omega), if_neg (by omega), if_pos (by omega), if_neg c4, if_neg (by omega), if_neg (by omega), w64s (x := i + n) (by omega), if_neg (by omega), w64s (x := j + n) (by omega), if_neg (by omega), m_pour94 d t u (by omega) (by omega) i j n (by omega) (by omega) (by omega) (by omega) (by omega)] at hy
                  refine ⟨1, _, _, hx2, hy, ?_⟩
                  have hL : ∀ a, a ≠ 182 → a ≠ 88 + 2 * u → (fL (putI (putI (putI (fL M (87 + 2 * u + 1) j.toNat n.toNat (fun x => M.2.1 (87 + 2 * t + 1) (i.toNat + x))) 0 0 0) 179 1 0) 179 0 0) 182 (60 * u + j.toNat) n.toNat (fun x => (putI (putI (putI (fL M (87 + 2 * u + 1) j.toNat n.toNat (fun x => M.2.1 (87 + 2 * t + 1) (i.toNat + x))) 0 0 0) 179 1 0) 179 0 0).2.1 182 (60 * t + i.toNat + x))).2.1 a = M.2.1 a := by
                    intro a g1 g2
                    rw [fL_na g1, pI_L, pI_L, pI_L, fL_na (by omega)]
                  have hA2 : ∀ a, a ≠ 0 → a ≠ 179 → (fL (putI (putI (putI (fL M (87 + 2 * u + 1) j.toNat n.toNat (fun x => M.2.1 (87 + 2 * t + 1) (i.toNat + x))) 0 0 0) 179 1 0) 179 0 0) 182 (60 * u + j.toNat) n.toNat (fun x => (putI (putI (putI (fL M (87 + 2 * u + 1) j.toNat n.toNat (fun x => M.2.1 (87 + 2 * t + 1) (i.toNat + x))) 0 0 0) 179 1 0) 179 0 0).2.1 182 (60 * t + i.toNat + x))).1 a = M.1 a := fun a h1 h2 => (up2_ne h2).trans ((up2_ne h2).trans (up2_ne h1))
                  refine h.trs ?_ (tr_put (t := u) (by omega) h.2.1 hA2 hL ?_ ?_) ?_ ?_
                  · intro a g1 g2 g3 g4 g5
                    unfold Rc at g1
                    exact ⟨hA2 a (by omega) (by omega), hL a g5 (by omega)⟩
                  · intro k hk
                    rw [fL_nj (by omega), pI_L, pI_L, pI_L, fL_na (by omega)]
                  · intro _ k hk _
                    by_cases c7 : j.toNat ≤ k ∧ k < j.toNat + n.toNat
                    · rw [fL_na (by omega), fL_at (a := 182) (by omega), pI_L, pI_L, pI_L, show 88 + 2 * u = 87 + 2 * u + 1 by omega, fL_at c7, fL_na (b := 182) (by omega), show 60 * t + i.toNat + (60 * u + k - (60 * u + j.toNat)) = 60 * t + (i.toNat + (k - j.toNat)) by omega, ← t5 (i.toNat + (k - j.toNat)) (by omega), show 88 + 2 * t = 87 + 2 * t + 1 by omega]
                    · rw [fL_na (b := 88 + 2 * u) (by omega), fL_nj (a := 182) (by omega), pI_L, pI_L, pI_L, fL_nj c7, fL_na (b := 182) (by omega)]
                      exact u5 k hk
                  · simp [fL, up2]
                  · refine KpH.of (fun k hk => ?_) (fun k hk => ?_) (hL 0 (by omega) (by omega)) (hL 179 (by omega) (by omega))
                    · rw [fL_I, pI_ne (by decide), pI_ne (by decide), pI_nk (by omega), fL_I]
                    · rw [fL_I, pI_nk (by omega), pI_nk (by omega), pI_ne (by decide), fL_I]
                · refine opR h 0 4 ?_ ?_
                  · rw [hx, if_pos c5, if_neg (by decide), if_neg c6, if_pos rfl, q_x_deny, bI_k, if_pos (by decide)]
                  · rw [hm _ (hI 4) (hJ 4), if_neg (by omega), if_neg (by omega), if_pos (by omega), if_neg c4, if_neg (by omega), w64s (x := i + n) (by omega), if_neg (show ¬ M.1 181 t < i + n by omega)]
                    by_cases c7 : j < 0
                    · rw [if_pos c7]
                    · rw [if_neg c7, w64s (x := j + n) (by omega), if_pos (by omega)]
              · refine opR h 0 4 ?_ ?_
                · rw [hx, if_neg c5, if_pos rfl, q_x_deny, bI_k, if_pos (by decide)]
                · rw [hm _ (hI 4) (hJ 4), if_neg (by omega), if_neg (by omega), if_pos (by omega), if_neg c4]
                  by_cases c7 : i < 0
                  · rw [if_pos c7]
                  · rw [if_neg c7]
                    by_cases c8 : j < 0
                    · rw [if_pos c8]
                    · rw [if_neg c8, w64s (x := i + n) (by omega), if_pos (by omega)]
          · refine opR h 0 11 ?_ ?_
            · rw [hx, if_neg c3, q_x_deny, bI_k, if_pos (by decide)]
            · rw [hm _ (hI 11) (hJ 11), if_neg (by omega), if_neg (by omega), if_neg (by omega)]
    · refine opR h 0 1 ?_ ?_
      · rw [q_x_pour, x_isTray, bI_k, if_pos c1, if_neg (by decide), x_isTray, bI_k, if_neg c2, if_pos rfl, q_x_deny, bI_k, if_pos (by decide)]
      · rw [q_m_pour, if_neg (by omega), if_pos (by omega), m_noR]
        by_cases c3 : q < 0
        · rw [if_pos c3]
        · rw [if_neg c3, if_neg (by omega)]
  · refine opR h 0 1 ?_ ?_
    · rw [q_x_pour, x_isTray, bI_k, if_neg c1, if_pos rfl, q_x_deny, bI_k, if_pos (by decide)]
    · rw [q_m_pour, m_noR]
      by_cases c3 : p < 0
      · rw [if_pos c3]
      · rw [if_neg c3, if_neg (by omega)]
end Trs2
