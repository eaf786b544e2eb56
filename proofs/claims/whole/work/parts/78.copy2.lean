section Cpy2
variable {p0 p1 : Nat} {M : Mem} (d : Nat)
theorem cp_1 (hd : Dj p0 p1) {n : Nat} (hn : M.1 p1 7 = (n : Int)) (h6 : n ≤ 6) {N : Mem} (hN : Cq p0 p1 M N S1 (fun _ => False)) : ∃ N', E2 d r_em_copyFrom 42 [(0, vR 1 p0), (1, vR 1 p1), (2, vI 0)] [] N = E2 d r_em_copyFrom 59 [(0, vR 1 p0), (1, vR 1 p1), (2, vI 0)] [] N' ∧ Cq p0 p1 M N' (S2 n) (T2 n) := by
  refine ex_loop (P := fun i M' => E2 d r_em_copyFrom 42 [(0, vR 1 p0), (1, vR 1 p1), (2, vI (i : Int))] [] M') (R := fun r => ∃ N', r = E2 d r_em_copyFrom 59 [(0, vR 1 p0), (1, vR 1 p1), (2, vI 0)] [] N' ∧ Cq p0 p1 M N' (S2 n) (T2 n)) (fun i M' => Cq p0 p1 M M' (S2 i) (T2 i)) n (fun i M' hi hq => ?_) (fun M' hq => ?_) N (hN.w (fun x y h => by unfold S2 at h; rcases h with h | h; exact h; omega) (fun x h => by unfold T2 at h; omega))
  · have e7 : M'.1 p0 7 = (n : Int) := by
      rw [← hn]; exact hq.2.1 0 7 (by decide) (Or.inl ⟨rfl, by decide⟩)
    have hx := q_em_copyFrom_42 p0 p1 (i : Int) d M'
    rw [e7, if_pos (by omega), if_pos (by omega), if_pos (by omega), q_pt_copyFrom, bV_k, Int.toNat_natCast, w32n (by omega)] at hx
    refine ⟨_, hx, ?_⟩
    · refine ((((hq.l hd (10 + i) (by omega) (a := p0 + 1 + 9 + 1 * i) (b := p1 + 1 + 9 + 1 * i) (by omega) (by omega)).i hd (10 + i) 1 (by omega) (a := p0 + 1 + 9 + 1 * i) (b := p1 + 1 + 9 + 1 * i) (by omega) (by omega)).i hd (10 + i) 2 (by omega) (a := p0 + 1 + 9 + 1 * i) (b := p1 + 1 + 9 + 1 * i) (by omega) (by omega)).i hd (10 + i) 3 (by omega) (a := p0 + 1 + 9 + 1 * i) (b := p1 + 1 + 9 + 1 * i) (by omega) (by omega)).w (fun x y h => ?_) (fun x h => ?_)
      · unfold S2 at h ⊢
        rcases h with h | h
        · exact Or.inl (Or.inl (Or.inl (Or.inl h)))
        · by_cases c : x = 10 + i
          · have : y = 1 ∨ y = 2 ∨ y = 3 := by omega
            rcases this with g | g | g
            · exact Or.inl (Or.inl (Or.inr ⟨c, g⟩))
            · exact Or.inl (Or.inr ⟨c, g⟩)
            · exact Or.inr ⟨c, g⟩
          · exact Or.inl (Or.inl (Or.inl (Or.inr (by omega))))
      · unfold T2 at h ⊢
        omega
  · refine ⟨M', ?_, hq⟩
    have e7 : M'.1 p0 7 = (n : Int) := by
      rw [← hn]; exact hq.2.1 0 7 (by decide) (Or.inl ⟨rfl, by decide⟩)
    show E2 d r_em_copyFrom 42 _ _ M' = _
    rw [q_em_copyFrom_42, e7, if_neg (by omega)]
theorem cp_2 (hd : Dj p0 p1) {n m : Nat} (hm : M.1 p1 8 = (m : Int)) (h6 : m ≤ 8) {N : Mem} (hN : Cq p0 p1 M N (S2 n) (T2 n)) : ∃ N', E2 d r_em_copyFrom 59 [(0, vR 1 p0), (1, vR 1 p1), (2, vI 0)] [] N = E2 d r_em_copyFrom 76 [(0, vR 1 p0), (1, vR 1 p1), (2, vI 0)] [] N' ∧ Cq p0 p1 M N' (S3 n m) (T3 n m) := by
  refine ex_loop (P := fun i M' => E2 d r_em_copyFrom 59 [(0, vR 1 p0), (1, vR 1 p1), (2, vI (i : Int))] [] M') (R := fun r => ∃ N', r = E2 d r_em_copyFrom 76 [(0, vR 1 p0), (1, vR 1 p1), (2, vI 0)] [] N' ∧ Cq p0 p1 M N' (S3 n m) (T3 n m)) (fun i M' => Cq p0 p1 M M' (S3 n i) (T3 n i)) m (fun i M' hi hq => ?_) (fun M' hq => ?_) N (hN.w (fun x y h => by unfold S3 at h; rcases h with h | h; exact h; omega) (fun x h => by unfold T3 at h; rcases h with h | h; exact h; omega))
  · have e7 : M'.1 p0 8 = (m : Int) := by
      rw [← hm]; exact hq.2.1 0 8 (by decide) (Or.inl (Or.inl ⟨rfl, by decide⟩))
    have hx := q_em_copyFrom_59 p0 p1 (i : Int) d M'
    rw [e7, if_pos (by omega), if_pos (by omega), if_pos (by omega), q_hd_copyFrom, bV_k, Int.toNat_natCast, w32n (by omega)] at hx
    refine ⟨_, hx, ?_⟩
    · refine (((((hq.l hd (16 + i) (by omega) (a := p0 + 2 + 14 + 1 * i) (b := p1 + 2 + 14 + 1 * i) (by omega) (by omega)).i hd (16 + i) 1 (by omega) (a := p0 + 2 + 14 + 1 * i) (b := p1 + 2 + 14 + 1 * i) (by omega) (by omega)).i hd (16 + i) 2 (by omega) (a := p0 + 2 + 14 + 1 * i) (b := p1 + 2 + 14 + 1 * i) (by omega) (by omega)).i hd (16 + i) 3 (by omega) (a := p0 + 2 + 14 + 1 * i) (b := p1 + 2 + 14 + 1 * i) (by omega) (by omega)).i hd (16 + i) 4 (by omega) (a := p0 + 2 + 14 + 1 * i) (b := p1 + 2 + 14 + 1 * i) (by omega) (by omega)).w (fun x y h => ?_) (fun x h => ?_)
      · unfold S3 at h ⊢
        rcases h with h | h
        · exact Or.inl (Or.inl (Or.inl (Or.inl (Or.inl h))))
        · by_cases c : x = 16 + i
          · have : y = 1 ∨ y = 2 ∨ y = 3 ∨ y = 4 := by omega
            rcases this with g | g | g | g
            · exact Or.inl (Or.inl (Or.inl (Or.inr ⟨c, g⟩)))
            · exact Or.inl (Or.inl (Or.inr ⟨c, g⟩))
            · exact Or.inl (Or.inr ⟨c, g⟩)
            · exact Or.inr ⟨c, g⟩
          · exact Or.inl (Or.inl (Or.inl (Or.inl (Or.inr (by omega)))))
      · unfold T3 at h ⊢
        rcases h with h | h
        · exact Or.inl (Or.inl h)
        · by_cases c : x = 16 + i
          · exact Or.inr c
          · exact Or.inl (Or.inr (by omega))
  · refine ⟨M', ?_, hq⟩
    have e7 : M'.1 p0 8 = (m : Int) := by
      rw [← hm]; exact hq.2.1 0 8 (by decide) (Or.inl (Or.inl ⟨rfl, by decide⟩))
    show E2 d r_em_copyFrom 59 _ _ M' = _
    rw [q_em_copyFrom_59, e7, if_neg (by omega)]
theorem cp_3 (hd : Dj p0 p1) {n m s : Nat} (hs : M.1 p1 9 = (s : Int)) (h6 : s ≤ 4) {N : Mem} (hN : Cq p0 p1 M N (S3 n m) (T3 n m)) : ∃ N', E2 d r_em_copyFrom 76 [(0, vR 1 p0), (1, vR 1 p1), (2, vI 0)] [] N = (bV (C2 d j_pl_copyFrom [vR 6 (p0 + 4), vR 6 (p1 + 4)] N') fun M2 => some (none, M2)) ∧ Cq p0 p1 M N' (S4 n m s) (T3 n m) := by
  refine ex_loop (P := fun i M' => E2 d r_em_copyFrom 76 [(0, vR 1 p0), (1, vR 1 p1), (2, vI (i : Int))] [] M') (R := fun r => ∃ N', r = (bV (C2 d j_pl_copyFrom [vR 6 (p0 + 4), vR 6 (p1 + 4)] N') fun M2 => some (none, M2)) ∧ Cq p0 p1 M N' (S4 n m s) (T3 n m)) (fun i M' => Cq p0 p1 M M' (S4 n m i) (T3 n m)) s (fun i M' hi hq => ?_) (fun M' hq => ?_) N (hN.w (fun x y h => by unfold S4 at h; rcases h with h | h; exact h; omega) (fun x h => h))
  · have e7 : M'.1 p0 9 = (s : Int) := by
      rw [← hs]; exact hq.2.1 0 9 (by decide) (Or.inl (Or.inl (Or.inl ⟨rfl, by decide⟩)))
    have hx := q_em_copyFrom_76 p0 p1 (i : Int) d M'
    rw [e7, if_pos (by omega), if_pos (by omega), if_pos (by omega), q_sp_copyFrom, bV_k, Int.toNat_natCast, w32n (by omega)] at hx
    refine ⟨_, hx, ?_⟩
    · refine (((hq.l hd (24 + i) (by omega) (a := p0 + 3 + 21 + 1 * i) (b := p1 + 3 + 21 + 1 * i) (by omega) (by omega)).i hd (24 + i) 1 (by omega) (a := p0 + 3 + 21 + 1 * i) (b := p1 + 3 + 21 + 1 * i) (by omega) (by omega)).i hd (24 + i) 2 (by omega) (a := p0 + 3 + 21 + 1 * i) (b := p1 + 3 + 21 + 1 * i) (by omega) (by omega)).w (fun x y h => ?_) (fun x h => Or.inl h)
      unfold S4 at h ⊢
      rcases h with h | h
      · exact Or.inl (Or.inl (Or.inl h))
      · by_cases c : x = 24 + i
        · have : y = 1 ∨ y = 2 := by omega
          rcases this with g | g
          · exact Or.inl (Or.inr ⟨c, g⟩)
          · exact Or.inr ⟨c, g⟩
        · exact Or.inl (Or.inl (Or.inr (by omega)))
  · refine ⟨M', ?_, hq⟩
    have e7 : M'.1 p0 9 = (s : Int) := by
      rw [← hs]; exact hq.2.1 0 9 (by decide) (Or.inl (Or.inl (Or.inl ⟨rfl, by decide⟩)))
    show E2 d r_em_copyFrom 76 _ _ M' = _
    rw [q_em_copyFrom_76, e7, if_neg (by omega)]
def S5 (S : Nat → Nat → Prop) (i r : Nat) : Nat → Nat → Prop := fun x y => S x y ∨ (x = 4 ∧ 5 ≤ y ∧ y ≤ 7) ∨ (5 ≤ x ∧ x < 5 + i ∧ y < r)
theorem S5_s {S : Nat → Nat → Prop} {i r x y : Nat} (h : S5 S (i + 1) r x y) : S5 S i r x y ∨ (x = 5 + i ∧ y < r) := by
  unfold S5 at h ⊢
  rcases h with h | h | h
  · exact Or.inl (Or.inl h)
  · exact Or.inl (Or.inr (Or.inl h))
  · by_cases c : x = 5 + i
    · exact Or.inr ⟨c, h.2.2⟩
    · exact Or.inl (Or.inr (Or.inr (by omega)))
theorem cp_pl (hd : Dj p0 p1) {S : Nat → Nat → Prop} {T : Nat → Prop} {r : Nat} (hr : M.1 (p1 + 4) 5 = (r : Int)) (h6 : r ≤ 60) (hb : M.1 (p1 + 4) 7 = 0 ∨ M.1 (p1 + 4) 7 = 1) {N : Mem} (hN : Cq p0 p1 M N S T) : ∃ N', C2 d j_pl_copyFrom [vR 6 (p0 + 4), vR 6 (p1 + 4)] N = some (none, N') ∧ Cq p0 p1 M N' (S5 S 5 r) T := by
  have g1 := (hN.i hd 4 5 (by decide) (a := p0 + 4) (b := p1 + 4) rfl rfl).i hd 4 6 (by decide) (a := p0 + 4) (b := p1 + 4) rfl rfl
  have hb' := hb
  rw [← (g1.src hd (o := 4) (by decide)).1] at hb'
  have g2 := g1.i hd 4 7 (by decide) (a := p0 + 4) (b := p1 + 4) rfl rfl
  rw [q_pl_copyFrom, if_pos hb']
  have g3 := g2.w (S' := S5 S 0 r) (T' := T) (fun x y h => by
    unfold S5 at h
    rcases h with h | h | h
    · exact Or.inl (Or.inl (Or.inl h))
    · have : y = 5 ∨ y = 6 ∨ y = 7 := by omega
      rcases this with g | g | g
      · exact Or.inl (Or.inl (Or.inr ⟨h.1, g⟩))
      · exact Or.inl (Or.inr ⟨h.1, g⟩)
      · exact Or.inr ⟨h.1, g⟩
    · omega) (fun _ h => h)
  have e5 : ∀ {K : Mem} {i : Nat}, Cq p0 p1 M K (S5 S i r) T → K.1 (p0 + 4) 5 = (r : Int) := fun hK => by
    rw [← hr]; exact hK.2.1 4 5 (by decide) (Or.inr (Or.inl ⟨rfl, by decide, by decide⟩))
  generalize (putI (putI (putI N (p0 + 4) 5 (N.1 (p1 + 4) 5)) (p0 + 4) 6 ((putI N (p0 + 4) 5 (N.1 (p1 + 4) 5)).1 (p1 + 4) 6)) (p0 + 4) 7 ((putI (putI N (p0 + 4) 5 (N.1 (p1 + 4) 5)) (p0 + 4) 6 ((putI N (p0 + 4) 5 (N.1 (p1 + 4) 5)).1 (p1 + 4) 6)).1 (p1 + 4) 7)) = K0 at g3 ⊢
  have k1 := (g3.r hd 5 r (by decide) (a := p0 + 4 + 1) (b := p1 + 4 + 1) (by omega) (by omega)).w (S' := S5 S 1 r) (T' := T) (fun x y h => S5_s h) (fun _ h => h)
  rw [q_pl_copyFrom_12, e5 g3, if_pos (by omega), Int.toNat_natCast]
  generalize ((fun x j => if x = p0 + 4 + 1 ∧ 0 ≤ j ∧ j < 0 + r then K0.1 (p1 + 4 + 1) (0 + (j - 0)) else K0.1 x j, K0.2) : Mem) = K1 at k1 ⊢
  have k2 := (k1.r hd 6 r (by decide) (a := p0 + 4 + 2) (b := p1 + 4 + 2) (by omega) (by omega)).w (S' := S5 S 2 r) (T' := T) (fun x y h => S5_s h) (fun _ h => h)
  rw [q_pl_copyFrom_21, e5 k1, if_pos (by omega), Int.toNat_natCast]
  generalize ((fun x j => if x = p0 + 4 + 2 ∧ 0 ≤ j ∧ j < 0 + r then K1.1 (p1 + 4 + 2) (0 + (j - 0)) else K1.1 x j, K1.2) : Mem) = K2 at k2 ⊢
  have k3 := (k2.r hd 7 r (by decide) (a := p0 + 4 + 3) (b := p1 + 4 + 3) (by omega) (by omega)).w (S' := S5 S 3 r) (T' := T) (fun x y h => S5_s h) (fun _ h => h)
  rw [q_pl_copyFrom_30, e5 k2, if_pos (by omega), Int.toNat_natCast]
  generalize ((fun x j => if x = p0 + 4 + 3 ∧ 0 ≤ j ∧ j < 0 + r then K2.1 (p1 + 4 + 3) (0 + (j - 0)) else K2.1 x j, K2.2) : Mem) = K3 at k3 ⊢
  have k4 := (k3.r hd 8 r (by decide) (a := p0 + 4 + 4) (b := p1 + 4 + 4) (by omega) (by omega)).w (S' := S5 S 4 r) (T' := T) (fun x y h => S5_s h) (fun _ h => h)
  rw [q_pl_copyFrom_39, e5 k3, if_pos (by omega), Int.toNat_natCast]
  generalize ((fun x j => if x = p0 + 4 + 4 ∧ 0 ≤ j ∧ j < 0 + r then K3.1 (p1 + 4 + 4) (0 + (j - 0)) else K3.1 x j, K3.2) : Mem) = K4 at k4 ⊢
  have k5 := (k4.r hd 9 r (by decide) (a := p0 + 4 + 5) (b := p1 + 4 + 5) (by omega) (by omega)).w (S' := S5 S 5 r) (T' := T) (fun x y h => S5_s h) (fun _ h => h)
  rw [q_pl_copyFrom_48, e5 k4, if_pos (by omega), Int.toNat_natCast, q_pl_copyFrom_57]
  exact ⟨_, rfl, k5⟩
/-- copied whole -/
theorem em_copy (hd : Dj p0 p1) (h7 : 0 ≤ M.1 p1 7 ∧ M.1 p1 7 ≤ 6) (h8 : 0 ≤ M.1 p1 8 ∧ M.1 p1 8 ≤ 8) (h9 : 0 ≤ M.1 p1 9 ∧ M.1 p1 9 ≤ 4) (h5 : 0 ≤ M.1 (p1 + 4) 5 ∧ M.1 (p1 + 4) 5 ≤ 60) (hb : M.1 (p1 + 4) 7 = 0 ∨ M.1 (p1 + 4) 7 = 1) : ∃ N, C2 d j_em_copyFrom [vR 1 p0, vR 1 p1] M = some (none, N) ∧ Fo p0 M N ∧ CpR p0 p1 M N := by
  obtain ⟨n, hn⟩ : ∃ n : Nat, M.1 p1 7 = (n : Int) := ⟨(M.1 p1 7).toNat, by omega⟩
  obtain ⟨m, hm⟩ : ∃ n : Nat, M.1 p1 8 = (n : Int) := ⟨(M.1 p1 8).toNat, by omega⟩
  obtain ⟨s, hs⟩ : ∃ n : Nat, M.1 p1 9 = (n : Int) := ⟨(M.1 p1 9).toNat, by omega⟩
  obtain ⟨r, hr⟩ : ∃ n : Nat, M.1 (p1 + 4) 5 = (n : Int) := ⟨(M.1 (p1 + 4) 5).toNat, by omega⟩
  obtain ⟨N0, a0, b0⟩ := cp_0 (M := M) hd d
  obtain ⟨N1, a1, b1⟩ := cp_1 d hd hn (by omega) b0
  obtain ⟨N2, a2, b2⟩ := cp_2 d hd hm (by omega) b1
  obtain ⟨N3, a3, b3⟩ := cp_3 d hd hs (by omega) b2
  obtain ⟨N4, a4, b4⟩ := cp_pl d hd hr (by omega) hb b3
  refine ⟨N4, ?_, b4.1, ?_, ?_, ?_, ?_, ?_, ?_⟩
  · rw [a0, a1, a2, a3, a4, bV_k]
  · intro k hk
    exact b4.2.1 0 k (by decide) (Or.inl (Or.inl (Or.inl (Or.inl ⟨rfl, hk⟩))))
  · intro p hp
    rw [show p0 + 1 + 9 + 1 * p = p0 + (10 + p) by omega, show p1 + 1 + 9 + 1 * p = p1 + (10 + p) by omega]
    refine ⟨fun k k1 k3 => b4.2.1 (10 + p) k (by omega) (Or.inl (Or.inl (Or.inl (Or.inr (by omega))))), b4.2.2 (10 + p) (by omega) (Or.inl (by unfold T2; omega))⟩
  · intro p hp
    rw [show p0 + 2 + 14 + 1 * p = p0 + (16 + p) by omega, show p1 + 2 + 14 + 1 * p = p1 + (16 + p) by omega]
    refine ⟨fun k k1 k3 => b4.2.1 (16 + p) k (by omega) (Or.inl (Or.inl (Or.inr (by omega)))), b4.2.2 (16 + p) (by omega) (Or.inr (by omega))⟩
  · intro p hp k k1 k2
    rw [show p0 + 3 + 21 + 1 * p = p0 + (24 + p) by omega, show p1 + 3 + 21 + 1 * p = p1 + (24 + p) by omega]
    exact b4.2.1 (24 + p) k (by omega) (Or.inl (Or.inr (by omega)))
  · intro k k5 k7
    exact b4.2.1 4 k (by decide) (Or.inr (Or.inl ⟨rfl, k5, k7⟩))
  · intro i r' i1 i5 hr'
    rw [show p0 + 4 + i = p0 + (4 + i) by omega, show p1 + 4 + i = p1 + (4 + i) by omega]
    exact b4.2.1 (4 + i) r' (by omega) (Or.inr (Or.inr (by omega)))
end Cpy2
