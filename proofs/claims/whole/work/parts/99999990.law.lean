/-! the law's loop -/
def Gd (X : Option Res) : Prop := ∃ M', X = some (some (vI 1), M')
theorem tb_all {P : Option Res → Prop} {x dflt : Int} {f : Int → Option Res} (hd : P (f dflt)) : ∀ (l : List Int) (lo : Int), (∀ t ∈ l, P (f t)) → P (tbk x dflt lo l f)
  | [], _, _ => hd
  | q :: l, lo, h => by
    show P (if x = lo then f q else tbk x dflt (lo + 1) l f)
    by_cases e : x = lo
    · rw [if_pos e]; exact h q List.mem_cons_self
    · rw [if_neg e]; exact tb_all hd l (lo + 1) fun t ht => h t (List.mem_cons_of_mem _ ht)
theorem ycmp_xx (x : Int) : ycmp x x = 0 := by unfold ycmp; rw [if_neg (Int.lt_irrefl x), if_neg (Int.lt_irrefl x)]
theorem C2_S {d j : Nat} {args : List mv} {M M' : Mem} {r : Option mv} (hj : j < 384) (h : C2 d j args M = some (r, M')) : M'.2.2.2.2.2 = M.2.2.2.2.2 := by
  obtain ⟨n, hn⟩ := (DD_some GR2 MT).mp h
  have e := run_S (gr := GR2) (mt := MT) M.2.2.2.2.2 (fun j hj => MT_S hj) n d (MT j).1 (MT j).1 (ent 0 args) [] M (MT_S hj) (MT_S hj)
  have e2 : run GR2 MT n d (MT j).1 (MT j).1 (ent 0 args) [] M = (run GR2 MT n d (MT j).1 (MT j).1 (ent 0 args) [] M).map (mapR M.2.2.2.2.2) := e
  rw [hn] at e2
  have e3 : (r, M') = mapR M.2.2.2.2.2 (r, M') := Option.some.inj e2
  have e4 : M' = setS M' M.2.2.2.2.2 := congrArg Prod.snd e3
  have e5 := congrArg (fun q : Mem => q.2.2.2.2.2) e4
  exact e5
def LH (d : Nat) (M : Mem) (s : (Nat → Int) × Nat) (i : Int) : Prop := Inv M ∧ M.2.2.2.2.2 = s ∧ 0 ≤ i ∧ i + 6 ≤ (s.2 : Int) ∧ (s.2 : Int) ≤ 2147483647 ∧ (∀ k, rI (s.1 k)) ∧ 3 ≤ d ∧ ∀ M2, Inv M2 → M2.2.2.2.2.2 = s → Gd (E2 d r_law_law 10 [(0, vR 90 0), (1, vR 11 0), (2, vR 12 179), (3, vI (i + 6))] [] M2)
section LawLoop
variable {d : Nat} {M : Mem} {s : (Nat → Int) × Nat} {i : Int}
theorem LH.inv (H : LH d M s i) : Inv M := H.1
theorem LH.hM (H : LH d M s i) : M.2.2.2.2.2 = s := H.2.1
theorem LH.h0 (H : LH d M s i) : 0 ≤ i := H.2.2.1
theorem LH.h6 (H : LH d M s i) : i + 6 ≤ (s.2 : Int) := H.2.2.2.1
theorem LH.hn (H : LH d M s i) : (s.2 : Int) ≤ 2147483647 := H.2.2.2.2.1
theorem LH.hr (H : LH d M s i) : ∀ k, rI (s.1 k) := H.2.2.2.2.2.1
theorem LH.hd (H : LH d M s i) : 3 ≤ d := H.2.2.2.2.2.2.1
theorem LH.go (H : LH d M s i) : ∀ M2, Inv M2 → M2.2.2.2.2.2 = s → Gd (E2 d r_law_law 10 [(0, vR 90 0), (1, vR 11 0), (2, vR 12 179), (3, vI (i + 6))] [] M2) := H.2.2.2.2.2.2.2
theorem LH.w (H : LH d M s i) (k : Int) (h : 0 ≤ k ∧ k ≤ 6) : w32 (i + k) = i + k := by
  have a := H.h0; have b := H.h6; have c := H.hn
  exact w32s (by omega)
theorem LH.c (H : LH d M s i) (k : Int) (h : 0 ≤ k ∧ k ≤ 5) : 0 ≤ i + k ∧ i + k < (s.2 : Int) := by
  have a := H.h0; have b := H.h6
  omega
theorem LH.w1 (H : LH d M s i) : w32 (i + 1) = i + 1 := H.w 1 (by omega)
theorem LH.w2 (H : LH d M s i) : w32 (i + 2) = i + 2 := H.w 2 (by omega)
theorem LH.w3 (H : LH d M s i) : w32 (i + 3) = i + 3 := H.w 3 (by omega)
theorem LH.w4 (H : LH d M s i) : w32 (i + 4) = i + 4 := H.w 4 (by omega)
theorem LH.w5 (H : LH d M s i) : w32 (i + 5) = i + 5 := H.w 5 (by omega)
theorem LH.w6 (H : LH d M s i) : w32 (i + 6) = i + 6 := H.w 6 (by omega)
theorem LH.c1 (H : LH d M s i) : 0 ≤ i + 1 ∧ i + 1 < (s.2 : Int) := H.c 1 (by omega)
theorem LH.c2 (H : LH d M s i) : 0 ≤ i + 2 ∧ i + 2 < (s.2 : Int) := H.c 2 (by omega)
theorem LH.c3 (H : LH d M s i) : 0 ≤ i + 3 ∧ i + 3 < (s.2 : Int) := H.c 3 (by omega)
theorem LH.c4 (H : LH d M s i) : 0 ≤ i + 4 ∧ i + 4 < (s.2 : Int) := H.c 4 (by omega)
theorem LH.c5 (H : LH d M s i) : 0 ≤ i + 5 ∧ i + 5 < (s.2 : Int) := H.c 5 (by omega)
set_option maxRecDepth 100000 in
set_option maxHeartbeats 4000000 in
theorem q_law (p3 : Int) (d : Nat) (M : Mem) : E2 d r_law_law 10 [(0, vR 90 0), (1, vR 11 0), (2, vR 12 179), (3, vI p3)] [] M = (if w32 ((M.2.2.2.2.2.2 : Int) - 6) < p3 then some (some (vI 1), M) else if 0 ≤ p3 ∧ p3 < M.2.2.2.2.2.2 then tbk (xand (M.2.2.2.2.2.1 (p3).toNat) 63) 1280 0 [22, 29, 37, 45, 82, 143, 171, 228, 285, 302, 319, 336, 353, 380, 407, 434, 451, 468, 485, 492, 529, 564, 581, 608, 635, 670, 705, 722, 739, 756, 773, 780, 787, 794, 801, 808, 815, 842, 859, 876, 883, 900, 917, 924, 941, 958, 1005, 1052, 1099, 1117, 1124, 1151, 1178, 1205, 1222, 1239, 1266, 1273] (fun t => E2 d r_law_law t.toNat [(0, vR 90 0), (1, vR 11 0), (2, vR 12 179), (3, vI p3)] [] M) else none) :=
  (DD_ex GR2 MT 11 d r_law_law (r_law_law.drop 10) [(0, vR 90 0), (1, vR 11 0), (2, vR 12 179), (3, vI p3)] [] M).trans rfl
set_option maxRecDepth 100000 in
set_option maxHeartbeats 4000000 in
theorem q_law_22 (p3 : Int) (d : Nat) (M : Mem) : E2 d r_law_law 22 [(0, vR 90 0), (1, vR 11 0), (2, vR 12 179), (3, vI p3)] [] M = (bI (C2 d j_x_status [vR 11 0] M) fun x2 M1 => bI (C2 d j_m_status [vR 12 179] M1) fun x4 M3 => if x2 = x4 then (E2 d r_law_law 10 [(0, vR 90 0), (1, vR 11 0), (2, vR 12 179), (3, vI (w32 (p3 + 6)))] [] M3) else (some (some (vI 0), M3))) :=
  (DD_ex GR2 MT 9 d r_law_law (r_law_law.drop 22) [(0, vR 90 0), (1, vR 11 0), (2, vR 12 179), (3, vI p3)] [] M).trans rfl
theorem l_22 (H : LH d M s i) : Gd (E2 d r_law_law 22 [(0, vR 90 0), (1, vR 11 0), (2, vR 12 179), (3, vI i)] [] M) := by
  rw [q_law_22]
  have oo : OpI d j_x_status j_m_status [] M := by
    first
      | exact o_status H.inv
      | exact o_status _ H.inv
      | exact o_status _ _ H.inv
  obtain ⟨x, M1, M2, h1, h2, h3⟩ := oo
  have s1 := (C2_S (by decide) h1).trans H.hM
  rw [h1, bI_k, h2, bI_k, if_pos rfl, H.w6]
  exact H.go M2 h3 ((C2_S (by decide) h2).trans s1)
set_option maxRecDepth 100000 in
set_option maxHeartbeats 4000000 in
theorem q_law_29 (p3 : Int) (d : Nat) (M : Mem) : E2 d r_law_law 29 [(0, vR 90 0), (1, vR 11 0), (2, vR 12 179), (3, vI p3)] [] M = (bL (C2 d j_x_top [vR 11 0] M) fun x2 M1 => bL (C2 d j_m_top [vR 12 179] M1) fun x4 M3 => if (ycmp x2 x4) = 0 then (E2 d r_law_law 10 [(0, vR 90 0), (1, vR 11 0), (2, vR 12 179), (3, vI (w32 (p3 + 6)))] [] M3) else (some (some (vI 0), M3))) :=
  (DD_ex GR2 MT 10 d r_law_law (r_law_law.drop 29) [(0, vR 90 0), (1, vR 11 0), (2, vR 12 179), (3, vI p3)] [] M).trans rfl
theorem l_29 (H : LH d M s i) : Gd (E2 d r_law_law 29 [(0, vR 90 0), (1, vR 11 0), (2, vR 12 179), (3, vI i)] [] M) := by
  rw [q_law_29]
  have oo : OpL d j_x_top j_m_top [] M := by
    first
      | exact o_top H.inv
      | exact o_top _ H.inv
      | exact o_top _ _ H.inv
  obtain ⟨x, M1, M2, h1, h2, h3⟩ := oo
  have s1 := (C2_S (by decide) h1).trans H.hM
  rw [h1, bL_k, h2, bL_k, ycmp_xx, if_pos rfl, H.w6]
  exact H.go M2 h3 ((C2_S (by decide) h2).trans s1)
set_option maxRecDepth 100000 in
set_option maxHeartbeats 4000000 in
theorem q_law_37 (p3 : Int) (d : Nat) (M : Mem) : E2 d r_law_law 37 [(0, vR 90 0), (1, vR 11 0), (2, vR 12 179), (3, vI p3)] [] M = (bL (C2 d j_x_bottom [vR 11 0] M) fun x2 M1 => bL (C2 d j_m_bottom [vR 12 179] M1) fun x4 M3 => if (ycmp x2 x4) = 0 then (E2 d r_law_law 10 [(0, vR 90 0), (1, vR 11 0), (2, vR 12 179), (3, vI (w32 (p3 + 6)))] [] M3) else (some (some (vI 0), M3))) :=
  (DD_ex GR2 MT 10 d r_law_law (r_law_law.drop 37) [(0, vR 90 0), (1, vR 11 0), (2, vR 12 179), (3, vI p3)] [] M).trans rfl
theorem l_37 (H : LH d M s i) : Gd (E2 d r_law_law 37 [(0, vR 90 0), (1, vR 11 0), (2, vR 12 179), (3, vI i)] [] M) := by
  rw [q_law_37]
  have oo : OpL d j_x_bottom j_m_bottom [] M := by
    first
      | exact o_bottom H.inv
      | exact o_bottom _ H.inv
      | exact o_bottom _ _ H.inv
  obtain ⟨x, M1, M2, h1, h2, h3⟩ := oo
  have s1 := (C2_S (by decide) h1).trans H.hM
  rw [h1, bL_k, h2, bL_k, ycmp_xx, if_pos rfl, H.w6]
  exact H.go M2 h3 ((C2_S (by decide) h2).trans s1)
set_option maxRecDepth 100000 in
set_option maxHeartbeats 4000000 in
theorem q_law_45 (p3 : Int) (d : Nat) (M : Mem) : E2 d r_law_law 45 [(0, vR 90 0), (1, vR 11 0), (2, vR 12 179), (3, vI p3)] [] M = (if 0 ≤ (w32 (p3 + 1)) ∧ (w32 (p3 + 1)) < M.2.2.2.2.2.2 then (if 0 ≤ (w32 (p3 + 2)) ∧ (w32 (p3 + 2)) < M.2.2.2.2.2.2 then (if 0 ≤ (w32 (p3 + 3)) ∧ (w32 (p3 + 3)) < M.2.2.2.2.2.2 then (bI (C2 d j_x_tray [vR 11 0, vI (M.2.2.2.2.2.1 (w32 (p3 + 1)).toNat), vI (M.2.2.2.2.2.1 (w32 (p3 + 2)).toNat), vI (M.2.2.2.2.2.1 (w32 (p3 + 3)).toNat)] M) fun x2 M1 => if 0 ≤ (w32 (p3 + 1)) ∧ (w32 (p3 + 1)) < M1.2.2.2.2.2.2 then (if 0 ≤ (w32 (p3 + 2)) ∧ (w32 (p3 + 2)) < M1.2.2.2.2.2.2 then (if 0 ≤ (w32 (p3 + 3)) ∧ (w32 (p3 + 3)) < M1.2.2.2.2.2.2 then (bI (C2 d j_m_tray [vR 12 179, vI (M1.2.2.2.2.2.1 (w32 (p3 + 1)).toNat), vI (M1.2.2.2.2.2.1 (w32 (p3 + 2)).toNat), vI (M1.2.2.2.2.2.1 (w32 (p3 + 3)).toNat)] M1) fun x4 M3 => if x2 = x4 then (E2 d r_law_law 10 [(0, vR 90 0), (1, vR 11 0), (2, vR 12 179), (3, vI (w32 (p3 + 6)))] [] M3) else (some (some (vI 0), M3))) else none) else none) else none) else none) else none) else none) :=
  (DD_ex GR2 MT 39 d r_law_law (r_law_law.drop 45) [(0, vR 90 0), (1, vR 11 0), (2, vR 12 179), (3, vI p3)] [] M).trans rfl
theorem l_45 (H : LH d M s i) : Gd (E2 d r_law_law 45 [(0, vR 90 0), (1, vR 11 0), (2, vR 12 179), (3, vI i)] [] M) := by
  rw [q_law_45, H.hM, H.w1, H.w2, H.w3, if_pos H.c1, if_pos H.c2, if_pos H.c3]
  have oo : OpI d j_x_tray j_m_tray [vI (s.1 (i + 1).toNat), vI (s.1 (i + 2).toNat), vI (s.1 (i + 3).toNat)] M := by
    first
      | exact o_tray H.inv (s.1 (i + 1).toNat) (s.1 (i + 2).toNat) (s.1 (i + 3).toNat)
      | exact o_tray _ H.inv (s.1 (i + 1).toNat) (s.1 (i + 2).toNat) (s.1 (i + 3).toNat)
      | exact o_tray _ _ H.inv (s.1 (i + 1).toNat) (s.1 (i + 2).toNat) (s.1 (i + 3).toNat)
  obtain ⟨x, M1, M2, h1, h2, h3⟩ := oo
  have s1 := (C2_S (by decide) h1).trans H.hM
  rw [h1, bI_k, s1, if_pos H.c1, if_pos H.c2, if_pos H.c3, h2, bI_k, if_pos rfl, H.w6]
  exact H.go M2 h3 ((C2_S (by decide) h2).trans s1)
set_option maxRecDepth 100000 in
set_option maxHeartbeats 4000000 in
theorem q_law_82 (p3 : Int) (d : Nat) (M : Mem) : E2 d r_law_law 82 [(0, vR 90 0), (1, vR 11 0), (2, vR 12 179), (3, vI p3)] [] M = (if 0 ≤ (w32 (p3 + 1)) ∧ (w32 (p3 + 1)) < M.2.2.2.2.2.2 then (if 0 ≤ (w32 (p3 + 2)) ∧ (w32 (p3 + 2)) < M.2.2.2.2.2.2 then (if 0 ≤ (w32 (p3 + 3)) ∧ (w32 (p3 + 3)) < M.2.2.2.2.2.2 then (if 0 ≤ (w32 (p3 + 4)) ∧ (w32 (p3 + 4)) < M.2.2.2.2.2.2 then (bI (C2 d j_x_write [vR 11 0, vI (M.2.2.2.2.2.1 (w32 (p3 + 1)).toNat), vI (M.2.2.2.2.2.1 (w32 (p3 + 2)).toNat), vL (yor (yshl (M.2.2.2.2.2.1 (w32 (p3 + 3)).toNat) 32) (yand (M.2.2.2.2.2.1 (w32 (p3 + 4)).toNat) 4294967295))] M) fun x2 M1 => if 0 ≤ (w32 (p3 + 1)) ∧ (w32 (p3 + 1)) < M1.2.2.2.2.2.2 then (if 0 ≤ (w32 (p3 + 2)) ∧ (w32 (p3 + 2)) < M1.2.2.2.2.2.2 then (if 0 ≤ (w32 (p3 + 3)) ∧ (w32 (p3 + 3)) < M1.2.2.2.2.2.2 then (if 0 ≤ (w32 (p3 + 4)) ∧ (w32 (p3 + 4)) < M1.2.2.2.2.2.2 then (bI (C2 d j_m_write [vR 12 179, vI (M1.2.2.2.2.2.1 (w32 (p3 + 1)).toNat), vI (M1.2.2.2.2.2.1 (w32 (p3 + 2)).toNat), vL (yor (yshl (M1.2.2.2.2.2.1 (w32 (p3 + 3)).toNat) 32) (yand (M1.2.2.2.2.2.1 (w32 (p3 + 4)).toNat) 4294967295))] M1) fun x4 M3 => if x2 = x4 then (E2 d r_law_law 10 [(0, vR 90 0), (1, vR 11 0), (2, vR 12 179), (3, vI (w32 (p3 + 6)))] [] M3) else (some (some (vI 0), M3))) else none) else none) else none) else none) else none) else none) else none) else none) :=
  (DD_ex GR2 MT 63 d r_law_law (r_law_law.drop 82) [(0, vR 90 0), (1, vR 11 0), (2, vR 12 179), (3, vI p3)] [] M).trans rfl
theorem l_82 (H : LH d M s i) : Gd (E2 d r_law_law 82 [(0, vR 90 0), (1, vR 11 0), (2, vR 12 179), (3, vI i)] [] M) := by
  rw [q_law_82, H.hM, H.w1, H.w2, H.w3, H.w4, if_pos H.c1, if_pos H.c2, if_pos H.c3, if_pos H.c4]
  have oo : OpI d j_x_write j_m_write [vI (s.1 (i + 1).toNat), vI (s.1 (i + 2).toNat), vL (yor (yshl (s.1 (i + 3).toNat) 32) (yand (s.1 (i + 4).toNat) 4294967295))] M := by
    first
      | exact o_write H.inv (s.1 (i + 1).toNat) (s.1 (i + 2).toNat) (yor (yshl (s.1 (i + 3).toNat) 32) (yand (s.1 (i + 4).toNat) 4294967295))
      | exact o_write _ H.inv (s.1 (i + 1).toNat) (s.1 (i + 2).toNat) (yor (yshl (s.1 (i + 3).toNat) 32) (yand (s.1 (i + 4).toNat) 4294967295))
      | exact o_write _ _ H.inv (s.1 (i + 1).toNat) (s.1 (i + 2).toNat) (yor (yshl (s.1 (i + 3).toNat) 32) (yand (s.1 (i + 4).toNat) 4294967295))
  obtain ⟨x, M1, M2, h1, h2, h3⟩ := oo
  have s1 := (C2_S (by decide) h1).trans H.hM
  rw [h1, bI_k, s1, if_pos H.c1, if_pos H.c2, if_pos H.c3, if_pos H.c4, h2, bI_k, if_pos rfl, H.w6]
  exact H.go M2 h3 ((C2_S (by decide) h2).trans s1)
set_option maxRecDepth 100000 in
set_option maxHeartbeats 4000000 in
theorem q_law_143 (p3 : Int) (d : Nat) (M : Mem) : E2 d r_law_law 143 [(0, vR 90 0), (1, vR 11 0), (2, vR 12 179), (3, vI p3)] [] M = (if 0 ≤ (w32 (p3 + 1)) ∧ (w32 (p3 + 1)) < M.2.2.2.2.2.2 then (if 0 ≤ (w32 (p3 + 2)) ∧ (w32 (p3 + 2)) < M.2.2.2.2.2.2 then (bL (C2 d j_x_read [vR 11 0, vI (M.2.2.2.2.2.1 (w32 (p3 + 1)).toNat), vI (M.2.2.2.2.2.1 (w32 (p3 + 2)).toNat)] M) fun x2 M1 => if 0 ≤ (w32 (p3 + 1)) ∧ (w32 (p3 + 1)) < M1.2.2.2.2.2.2 then (if 0 ≤ (w32 (p3 + 2)) ∧ (w32 (p3 + 2)) < M1.2.2.2.2.2.2 then (bL (C2 d j_m_read [vR 12 179, vI (M1.2.2.2.2.2.1 (w32 (p3 + 1)).toNat), vI (M1.2.2.2.2.2.1 (w32 (p3 + 2)).toNat)] M1) fun x4 M3 => if (ycmp x2 x4) = 0 then (E2 d r_law_law 10 [(0, vR 90 0), (1, vR 11 0), (2, vR 12 179), (3, vI (w32 (p3 + 6)))] [] M3) else (some (some (vI 0), M3))) else none) else none) else none) else none) :=
  (DD_ex GR2 MT 30 d r_law_law (r_law_law.drop 143) [(0, vR 90 0), (1, vR 11 0), (2, vR 12 179), (3, vI p3)] [] M).trans rfl
theorem l_143 (H : LH d M s i) : Gd (E2 d r_law_law 143 [(0, vR 90 0), (1, vR 11 0), (2, vR 12 179), (3, vI i)] [] M) := by
  rw [q_law_143, H.hM, H.w1, H.w2, if_pos H.c1, if_pos H.c2]
  have oo : OpL d j_x_read j_m_read [vI (s.1 (i + 1).toNat), vI (s.1 (i + 2).toNat)] M := by
    first
      | exact o_read H.inv (s.1 (i + 1).toNat) (s.1 (i + 2).toNat)
      | exact o_read _ H.inv (s.1 (i + 1).toNat) (s.1 (i + 2).toNat)
      | exact o_read _ _ H.inv (s.1 (i + 1).toNat) (s.1 (i + 2).toNat)
  obtain ⟨x, M1, M2, h1, h2, h3⟩ := oo
  have s1 := (C2_S (by decide) h1).trans H.hM
  rw [h1, bL_k, s1, if_pos H.c1, if_pos H.c2, h2, bL_k, ycmp_xx, if_pos rfl, H.w6]
  exact H.go M2 h3 ((C2_S (by decide) h2).trans s1)
set_option maxRecDepth 100000 in
set_option maxHeartbeats 4000000 in
theorem q_law_171 (p3 : Int) (d : Nat) (M : Mem) : E2 d r_law_law 171 [(0, vR 90 0), (1, vR 11 0), (2, vR 12 179), (3, vI p3)] [] M = (if 0 ≤ (w32 (p3 + 1)) ∧ (w32 (p3 + 1)) < M.2.2.2.2.2.2 then (if 0 ≤ (w32 (p3 + 2)) ∧ (w32 (p3 + 2)) < M.2.2.2.2.2.2 then (if 0 ≤ (w32 (p3 + 3)) ∧ (w32 (p3 + 3)) < M.2.2.2.2.2.2 then (if 0 ≤ (w32 (p3 + 4)) ∧ (w32 (p3 + 4)) < M.2.2.2.2.2.2 then (if 0 ≤ (w32 (p3 + 5)) ∧ (w32 (p3 + 5)) < M.2.2.2.2.2.2 then (bI (C2 d j_x_pour [vR 11 0, vI (M.2.2.2.2.2.1 (w32 (p3 + 1)).toNat), vI (M.2.2.2.2.2.1 (w32 (p3 + 2)).toNat), vI (M.2.2.2.2.2.1 (w32 (p3 + 3)).toNat), vI (M.2.2.2.2.2.1 (w32 (p3 + 4)).toNat), vI (M.2.2.2.2.2.1 (w32 (p3 + 5)).toNat)] M) fun x2 M1 => if 0 ≤ (w32 (p3 + 1)) ∧ (w32 (p3 + 1)) < M1.2.2.2.2.2.2 then (if 0 ≤ (w32 (p3 + 2)) ∧ (w32 (p3 + 2)) < M1.2.2.2.2.2.2 then (if 0 ≤ (w32 (p3 + 3)) ∧ (w32 (p3 + 3)) < M1.2.2.2.2.2.2 then (if 0 ≤ (w32 (p3 + 4)) ∧ (w32 (p3 + 4)) < M1.2.2.2.2.2.2 then (if 0 ≤ (w32 (p3 + 5)) ∧ (w32 (p3 + 5)) < M1.2.2.2.2.2.2 then (bI (C2 d j_m_pour [vR 12 179, vI (M1.2.2.2.2.2.1 (w32 (p3 + 1)).toNat), vI (M1.2.2.2.2.2.1 (w32 (p3 + 2)).toNat), vI (M1.2.2.2.2.2.1 (w32 (p3 + 3)).toNat), vI (M1.2.2.2.2.2.1 (w32 (p3 + 4)).toNat), vI (M1.2.2.2.2.2.1 (w32 (p3 + 5)).toNat)] M1) fun x4 M3 => if x2 = x4 then (E2 d r_law_law 10 [(0, vR 90 0), (1, vR 11 0), (2, vR 12 179), (3, vI (w32 (p3 + 6)))] [] M3) else (some (some (vI 0), M3))) else none) else none) else none) else none) else none) else none) else none) else none) else none) else none) :=
  (DD_ex GR2 MT 59 d r_law_law (r_law_law.drop 171) [(0, vR 90 0), (1, vR 11 0), (2, vR 12 179), (3, vI p3)] [] M).trans rfl
theorem l_171 (H : LH d M s i) : Gd (E2 d r_law_law 171 [(0, vR 90 0), (1, vR 11 0), (2, vR 12 179), (3, vI i)] [] M) := by
  rw [q_law_171, H.hM, H.w1, H.w2, H.w3, H.w4, H.w5, if_pos H.c1, if_pos H.c2, if_pos H.c3, if_pos H.c4, if_pos H.c5]
  have oo : OpI d j_x_pour j_m_pour [vI (s.1 (i + 1).toNat), vI (s.1 (i + 2).toNat), vI (s.1 (i + 3).toNat), vI (s.1 (i + 4).toNat), vI (s.1 (i + 5).toNat)] M := by
    first
      | exact o_pour H.inv (s.1 (i + 1).toNat) (s.1 (i + 2).toNat) (s.1 (i + 3).toNat) (s.1 (i + 4).toNat) (s.1 (i + 5).toNat) (H.hr _) (H.hr _) (H.hr _)
      | exact o_pour _ H.inv (s.1 (i + 1).toNat) (s.1 (i + 2).toNat) (s.1 (i + 3).toNat) (s.1 (i + 4).toNat) (s.1 (i + 5).toNat) (H.hr _) (H.hr _) (H.hr _)
      | exact o_pour _ _ H.inv (s.1 (i + 1).toNat) (s.1 (i + 2).toNat) (s.1 (i + 3).toNat) (s.1 (i + 4).toNat) (s.1 (i + 5).toNat) (H.hr _) (H.hr _) (H.hr _)
  obtain ⟨x, M1, M2, h1, h2, h3⟩ := oo
  have s1 := (C2_S (by decide) h1).trans H.hM
  rw [h1, bI_k, s1, if_pos H.c1, if_pos H.c2, if_pos H.c3, if_pos H.c4, if_pos H.c5, h2, bI_k, if_pos rfl, H.w6]
  exact H.go M2 h3 ((C2_S (by decide) h2).trans s1)
set_option maxRecDepth 100000 in
set_option maxHeartbeats 4000000 in
theorem q_law_228 (p3 : Int) (d : Nat) (M : Mem) : E2 d r_law_law 228 [(0, vR 90 0), (1, vR 11 0), (2, vR 12 179), (3, vI p3)] [] M = (if 0 ≤ (w32 (p3 + 1)) ∧ (w32 (p3 + 1)) < M.2.2.2.2.2.2 then (if 0 ≤ (w32 (p3 + 2)) ∧ (w32 (p3 + 2)) < M.2.2.2.2.2.2 then (if 0 ≤ (w32 (p3 + 3)) ∧ (w32 (p3 + 3)) < M.2.2.2.2.2.2 then (if 0 ≤ (w32 (p3 + 4)) ∧ (w32 (p3 + 4)) < M.2.2.2.2.2.2 then (if 0 ≤ (w32 (p3 + 5)) ∧ (w32 (p3 + 5)) < M.2.2.2.2.2.2 then (bI (C2 d j_x_feed [vR 11 0, vI (M.2.2.2.2.2.1 (w32 (p3 + 1)).toNat), vI (M.2.2.2.2.2.1 (w32 (p3 + 2)).toNat), vI (M.2.2.2.2.2.1 (w32 (p3 + 3)).toNat), vI (M.2.2.2.2.2.1 (w32 (p3 + 4)).toNat), vI (M.2.2.2.2.2.1 (w32 (p3 + 5)).toNat)] M) fun x2 M1 => if 0 ≤ (w32 (p3 + 1)) ∧ (w32 (p3 + 1)) < M1.2.2.2.2.2.2 then (if 0 ≤ (w32 (p3 + 2)) ∧ (w32 (p3 + 2)) < M1.2.2.2.2.2.2 then (if 0 ≤ (w32 (p3 + 3)) ∧ (w32 (p3 + 3)) < M1.2.2.2.2.2.2 then (if 0 ≤ (w32 (p3 + 4)) ∧ (w32 (p3 + 4)) < M1.2.2.2.2.2.2 then (if 0 ≤ (w32 (p3 + 5)) ∧ (w32 (p3 + 5)) < M1.2.2.2.2.2.2 then (bI (C2 d j_m_feed [vR 12 179, vI (M1.2.2.2.2.2.1 (w32 (p3 + 1)).toNat), vI (M1.2.2.2.2.2.1 (w32 (p3 + 2)).toNat), vI (M1.2.2.2.2.2.1 (w32 (p3 + 3)).toNat), vI (M1.2.2.2.2.2.1 (w32 (p3 + 4)).toNat), vI (M1.2.2.2.2.2.1 (w32 (p3 + 5)).toNat)] M1) fun x4 M3 => if x2 = x4 then (E2 d r_law_law 10 [(0, vR 90 0), (1, vR 11 0), (2, vR 12 179), (3, vI (w32 (p3 + 6)))] [] M3) else (some (some (vI 0), M3))) else none) else none) else none) else none) else none) else none) else none) else none) else none) else none) :=
  (DD_ex GR2 MT 59 d r_law_law (r_law_law.drop 228) [(0, vR 90 0), (1, vR 11 0), (2, vR 12 179), (3, vI p3)] [] M).trans rfl
theorem l_228 (H : LH d M s i) : Gd (E2 d r_law_law 228 [(0, vR 90 0), (1, vR 11 0), (2, vR 12 179), (3, vI i)] [] M) := by
  rw [q_law_228, H.hM, H.w1, H.w2, H.w3, H.w4, H.w5, if_pos H.c1, if_pos H.c2, if_pos H.c3, if_pos H.c4, if_pos H.c5]
  have oo : OpI d j_x_feed j_m_feed [vI (s.1 (i + 1).toNat), vI (s.1 (i + 2).toNat), vI (s.1 (i + 3).toNat), vI (s.1 (i + 4).toNat), vI (s.1 (i + 5).toNat)] M := by
    first
      | exact o_feed (s.1 (i + 1).toNat) (s.1 (i + 2).toNat) (s.1 (i + 3).toNat) (s.1 (i + 4).toNat) (s.1 (i + 5).toNat) H.inv
      | exact o_feed _ (s.1 (i + 1).toNat) (s.1 (i + 2).toNat) (s.1 (i + 3).toNat) (s.1 (i + 4).toNat) (s.1 (i + 5).toNat) H.inv
      | exact o_feed _ _ (s.1 (i + 1).toNat) (s.1 (i + 2).toNat) (s.1 (i + 3).toNat) (s.1 (i + 4).toNat) (s.1 (i + 5).toNat) H.inv
  obtain ⟨x, M1, M2, h1, h2, h3⟩ := oo
  have s1 := (C2_S (by decide) h1).trans H.hM
  rw [h1, bI_k, s1, if_pos H.c1, if_pos H.c2, if_pos H.c3, if_pos H.c4, if_pos H.c5, h2, bI_k, if_pos rfl, H.w6]
  exact H.go M2 h3 ((C2_S (by decide) h2).trans s1)
set_option maxRecDepth 100000 in
set_option maxHeartbeats 4000000 in
theorem q_law_285 (p3 : Int) (d : Nat) (M : Mem) : E2 d r_law_law 285 [(0, vR 90 0), (1, vR 11 0), (2, vR 12 179), (3, vI p3)] [] M = (if 0 ≤ (w32 (p3 + 1)) ∧ (w32 (p3 + 1)) < M.2.2.2.2.2.2 then (bI (C2 d j_x_empire [vR 11 0, vI (M.2.2.2.2.2.1 (w32 (p3 + 1)).toNat)] M) fun x2 M1 => if 0 ≤ (w32 (p3 + 1)) ∧ (w32 (p3 + 1)) < M1.2.2.2.2.2.2 then (bI (C2 d j_m_empire [vR 12 179, vI (M1.2.2.2.2.2.1 (w32 (p3 + 1)).toNat)] M1) fun x4 M3 => if x2 = x4 then (E2 d r_law_law 10 [(0, vR 90 0), (1, vR 11 0), (2, vR 12 179), (3, vI (w32 (p3 + 6)))] [] M3) else (some (some (vI 0), M3))) else none) else none) :=
  (DD_ex GR2 MT 19 d r_law_law (r_law_law.drop 285) [(0, vR 90 0), (1, vR 11 0), (2, vR 12 179), (3, vI p3)] [] M).trans rfl
theorem l_285 (H : LH d M s i) : Gd (E2 d r_law_law 285 [(0, vR 90 0), (1, vR 11 0), (2, vR 12 179), (3, vI i)] [] M) := by
  rw [q_law_285, H.hM, H.w1, if_pos H.c1]
  have oo : OpI d j_x_empire j_m_empire [vI (s.1 (i + 1).toNat)] M := by
    first
      | exact o_empire H.inv (s.1 (i + 1).toNat)
      | exact o_empire _ H.inv (s.1 (i + 1).toNat)
      | exact o_empire _ _ H.inv (s.1 (i + 1).toNat)
  obtain ⟨x, M1, M2, h1, h2, h3⟩ := oo
  have s1 := (C2_S (by decide) h1).trans H.hM
  rw [h1, bI_k, s1, if_pos H.c1, h2, bI_k, if_pos rfl, H.w6]
  exact H.go M2 h3 ((C2_S (by decide) h2).trans s1)
set_option maxRecDepth 100000 in
set_option maxHeartbeats 4000000 in
theorem q_law_302 (p3 : Int) (d : Nat) (M : Mem) : E2 d r_law_law 302 [(0, vR 90 0), (1, vR 11 0), (2, vR 12 179), (3, vI p3)] [] M = (if 0 ≤ (w32 (p3 + 1)) ∧ (w32 (p3 + 1)) < M.2.2.2.2.2.2 then (bI (C2 d j_x_empires [vR 11 0, vI (M.2.2.2.2.2.1 (w32 (p3 + 1)).toNat)] M) fun x2 M1 => if 0 ≤ (w32 (p3 + 1)) ∧ (w32 (p3 + 1)) < M1.2.2.2.2.2.2 then (bI (C2 d j_m_empires [vR 12 179, vI (M1.2.2.2.2.2.1 (w32 (p3 + 1)).toNat)] M1) fun x4 M3 => if x2 = x4 then (E2 d r_law_law 10 [(0, vR 90 0), (1, vR 11 0), (2, vR 12 179), (3, vI (w32 (p3 + 6)))] [] M3) else (some (some (vI 0), M3))) else none) else none) :=
  (DD_ex GR2 MT 19 d r_law_law (r_law_law.drop 302) [(0, vR 90 0), (1, vR 11 0), (2, vR 12 179), (3, vI p3)] [] M).trans rfl
theorem l_302 (H : LH d M s i) : Gd (E2 d r_law_law 302 [(0, vR 90 0), (1, vR 11 0), (2, vR 12 179), (3, vI i)] [] M) := by
  rw [q_law_302, H.hM, H.w1, if_pos H.c1]
  have oo : OpI d j_x_empires j_m_empires [vI (s.1 (i + 1).toNat)] M := by
    first
      | exact o_empires H.hd H.inv (s.1 (i + 1).toNat)
      | exact o_empires _ H.hd H.inv (s.1 (i + 1).toNat)
      | exact o_empires _ _ H.hd H.inv (s.1 (i + 1).toNat)
  obtain ⟨x, M1, M2, h1, h2, h3⟩ := oo
  have s1 := (C2_S (by decide) h1).trans H.hM
  rw [h1, bI_k, s1, if_pos H.c1, h2, bI_k, if_pos rfl, H.w6]
  exact H.go M2 h3 ((C2_S (by decide) h2).trans s1)
set_option maxRecDepth 100000 in
set_option maxHeartbeats 4000000 in
theorem q_law_319 (p3 : Int) (d : Nat) (M : Mem) : E2 d r_law_law 319 [(0, vR 90 0), (1, vR 11 0), (2, vR 12 179), (3, vI p3)] [] M = (if 0 ≤ (w32 (p3 + 1)) ∧ (w32 (p3 + 1)) < M.2.2.2.2.2.2 then (bI (C2 d j_x_fault [vR 11 0, vI (M.2.2.2.2.2.1 (w32 (p3 + 1)).toNat)] M) fun x2 M1 => if 0 ≤ (w32 (p3 + 1)) ∧ (w32 (p3 + 1)) < M1.2.2.2.2.2.2 then (bI (C2 d j_m_fault [vR 12 179, vI (M1.2.2.2.2.2.1 (w32 (p3 + 1)).toNat)] M1) fun x4 M3 => if x2 = x4 then (E2 d r_law_law 10 [(0, vR 90 0), (1, vR 11 0), (2, vR 12 179), (3, vI (w32 (p3 + 6)))] [] M3) else (some (some (vI 0), M3))) else none) else none) :=
  (DD_ex GR2 MT 19 d r_law_law (r_law_law.drop 319) [(0, vR 90 0), (1, vR 11 0), (2, vR 12 179), (3, vI p3)] [] M).trans rfl
theorem l_319 (H : LH d M s i) : Gd (E2 d r_law_law 319 [(0, vR 90 0), (1, vR 11 0), (2, vR 12 179), (3, vI i)] [] M) := by
  rw [q_law_319, H.hM, H.w1, if_pos H.c1]
  have oo : OpI d j_x_fault j_m_fault [vI (s.1 (i + 1).toNat)] M := by
    first
      | exact o_fault H.inv (s.1 (i + 1).toNat)
      | exact o_fault _ H.inv (s.1 (i + 1).toNat)
      | exact o_fault _ _ H.inv (s.1 (i + 1).toNat)
  obtain ⟨x, M1, M2, h1, h2, h3⟩ := oo
  have s1 := (C2_S (by decide) h1).trans H.hM
  rw [h1, bI_k, s1, if_pos H.c1, h2, bI_k, if_pos rfl, H.w6]
  exact H.go M2 h3 ((C2_S (by decide) h2).trans s1)
set_option maxRecDepth 100000 in
set_option maxHeartbeats 4000000 in
theorem q_law_336 (p3 : Int) (d : Nat) (M : Mem) : E2 d r_law_law 336 [(0, vR 90 0), (1, vR 11 0), (2, vR 12 179), (3, vI p3)] [] M = (if 0 ≤ (w32 (p3 + 1)) ∧ (w32 (p3 + 1)) < M.2.2.2.2.2.2 then (bI (C2 d j_x_many [vR 11 0, vI (M.2.2.2.2.2.1 (w32 (p3 + 1)).toNat)] M) fun x2 M1 => if 0 ≤ (w32 (p3 + 1)) ∧ (w32 (p3 + 1)) < M1.2.2.2.2.2.2 then (bI (C2 d j_m_many [vR 12 179, vI (M1.2.2.2.2.2.1 (w32 (p3 + 1)).toNat)] M1) fun x4 M3 => if x2 = x4 then (E2 d r_law_law 10 [(0, vR 90 0), (1, vR 11 0), (2, vR 12 179), (3, vI (w32 (p3 + 6)))] [] M3) else (some (some (vI 0), M3))) else none) else none) :=
  (DD_ex GR2 MT 19 d r_law_law (r_law_law.drop 336) [(0, vR 90 0), (1, vR 11 0), (2, vR 12 179), (3, vI p3)] [] M).trans rfl
theorem l_336 (H : LH d M s i) : Gd (E2 d r_law_law 336 [(0, vR 90 0), (1, vR 11 0), (2, vR 12 179), (3, vI i)] [] M) := by
  rw [q_law_336, H.hM, H.w1, if_pos H.c1]
  have oo : OpI d j_x_many j_m_many [vI (s.1 (i + 1).toNat)] M := by
    first
      | exact o_many H.inv (s.1 (i + 1).toNat)
      | exact o_many _ H.inv (s.1 (i + 1).toNat)
      | exact o_many _ _ H.inv (s.1 (i + 1).toNat)
  obtain ⟨x, M1, M2, h1, h2, h3⟩ := oo
  have s1 := (C2_S (by decide) h1).trans H.hM
  rw [h1, bI_k, s1, if_pos H.c1, h2, bI_k, if_pos rfl, H.w6]
  exact H.go M2 h3 ((C2_S (by decide) h2).trans s1)
set_option maxRecDepth 100000 in
set_option maxHeartbeats 4000000 in
theorem q_law_353 (p3 : Int) (d : Nat) (M : Mem) : E2 d r_law_law 353 [(0, vR 90 0), (1, vR 11 0), (2, vR 12 179), (3, vI p3)] [] M = (if 0 ≤ (w32 (p3 + 1)) ∧ (w32 (p3 + 1)) < M.2.2.2.2.2.2 then (if 0 ≤ (w32 (p3 + 2)) ∧ (w32 (p3 + 2)) < M.2.2.2.2.2.2 then (bI (C2 d j_x_part [vR 11 0, vI (M.2.2.2.2.2.1 (w32 (p3 + 1)).toNat), vI (M.2.2.2.2.2.1 (w32 (p3 + 2)).toNat)] M) fun x2 M1 => if 0 ≤ (w32 (p3 + 1)) ∧ (w32 (p3 + 1)) < M1.2.2.2.2.2.2 then (if 0 ≤ (w32 (p3 + 2)) ∧ (w32 (p3 + 2)) < M1.2.2.2.2.2.2 then (bI (C2 d j_m_part [vR 12 179, vI (M1.2.2.2.2.2.1 (w32 (p3 + 1)).toNat), vI (M1.2.2.2.2.2.1 (w32 (p3 + 2)).toNat)] M1) fun x4 M3 => if x2 = x4 then (E2 d r_law_law 10 [(0, vR 90 0), (1, vR 11 0), (2, vR 12 179), (3, vI (w32 (p3 + 6)))] [] M3) else (some (some (vI 0), M3))) else none) else none) else none) else none) :=
  (DD_ex GR2 MT 29 d r_law_law (r_law_law.drop 353) [(0, vR 90 0), (1, vR 11 0), (2, vR 12 179), (3, vI p3)] [] M).trans rfl
theorem l_353 (H : LH d M s i) : Gd (E2 d r_law_law 353 [(0, vR 90 0), (1, vR 11 0), (2, vR 12 179), (3, vI i)] [] M) := by
  rw [q_law_353, H.hM, H.w1, H.w2, if_pos H.c1, if_pos H.c2]
  have oo : OpI d j_x_part j_m_part [vI (s.1 (i + 1).toNat), vI (s.1 (i + 2).toNat)] M := by
    first
      | exact o_part H.inv (s.1 (i + 1).toNat) (s.1 (i + 2).toNat)
      | exact o_part _ H.inv (s.1 (i + 1).toNat) (s.1 (i + 2).toNat)
      | exact o_part _ _ H.inv (s.1 (i + 1).toNat) (s.1 (i + 2).toNat)
  obtain ⟨x, M1, M2, h1, h2, h3⟩ := oo
  have s1 := (C2_S (by decide) h1).trans H.hM
  rw [h1, bI_k, s1, if_pos H.c1, if_pos H.c2, h2, bI_k, if_pos rfl, H.w6]
  exact H.go M2 h3 ((C2_S (by decide) h2).trans s1)
set_option maxRecDepth 100000 in
set_option maxHeartbeats 4000000 in
theorem q_law_380 (p3 : Int) (d : Nat) (M : Mem) : E2 d r_law_law 380 [(0, vR 90 0), (1, vR 11 0), (2, vR 12 179), (3, vI p3)] [] M = (if 0 ≤ (w32 (p3 + 1)) ∧ (w32 (p3 + 1)) < M.2.2.2.2.2.2 then (if 0 ≤ (w32 (p3 + 2)) ∧ (w32 (p3 + 2)) < M.2.2.2.2.2.2 then (bI (C2 d j_x_hand [vR 11 0, vI (M.2.2.2.2.2.1 (w32 (p3 + 1)).toNat), vI (M.2.2.2.2.2.1 (w32 (p3 + 2)).toNat)] M) fun x2 M1 => if 0 ≤ (w32 (p3 + 1)) ∧ (w32 (p3 + 1)) < M1.2.2.2.2.2.2 then (if 0 ≤ (w32 (p3 + 2)) ∧ (w32 (p3 + 2)) < M1.2.2.2.2.2.2 then (bI (C2 d j_m_hand [vR 12 179, vI (M1.2.2.2.2.2.1 (w32 (p3 + 1)).toNat), vI (M1.2.2.2.2.2.1 (w32 (p3 + 2)).toNat)] M1) fun x4 M3 => if x2 = x4 then (E2 d r_law_law 10 [(0, vR 90 0), (1, vR 11 0), (2, vR 12 179), (3, vI (w32 (p3 + 6)))] [] M3) else (some (some (vI 0), M3))) else none) else none) else none) else none) :=
  (DD_ex GR2 MT 29 d r_law_law (r_law_law.drop 380) [(0, vR 90 0), (1, vR 11 0), (2, vR 12 179), (3, vI p3)] [] M).trans rfl
theorem l_380 (H : LH d M s i) : Gd (E2 d r_law_law 380 [(0, vR 90 0), (1, vR 11 0), (2, vR 12 179), (3, vI i)] [] M) := by
  rw [q_law_380, H.hM, H.w1, H.w2, if_pos H.c1, if_pos H.c2]
  have oo : OpI d j_x_hand j_m_hand [vI (s.1 (i + 1).toNat), vI (s.1 (i + 2).toNat)] M := by
    first
      | exact o_hand H.inv (s.1 (i + 1).toNat) (s.1 (i + 2).toNat)
      | exact o_hand _ H.inv (s.1 (i + 1).toNat) (s.1 (i + 2).toNat)
      | exact o_hand _ _ H.inv (s.1 (i + 1).toNat) (s.1 (i + 2).toNat)
  obtain ⟨x, M1, M2, h1, h2, h3⟩ := oo
  have s1 := (C2_S (by decide) h1).trans H.hM
  rw [h1, bI_k, s1, if_pos H.c1, if_pos H.c2, h2, bI_k, if_pos rfl, H.w6]
  exact H.go M2 h3 ((C2_S (by decide) h2).trans s1)
set_option maxRecDepth 100000 in
set_option maxHeartbeats 4000000 in
theorem q_law_407 (p3 : Int) (d : Nat) (M : Mem) : E2 d r_law_law 407 [(0, vR 90 0), (1, vR 11 0), (2, vR 12 179), (3, vI p3)] [] M = (if 0 ≤ (w32 (p3 + 1)) ∧ (w32 (p3 + 1)) < M.2.2.2.2.2.2 then (if 0 ≤ (w32 (p3 + 2)) ∧ (w32 (p3 + 2)) < M.2.2.2.2.2.2 then (bI (C2 d j_x_spring [vR 11 0, vI (M.2.2.2.2.2.1 (w32 (p3 + 1)).toNat), vI (M.2.2.2.2.2.1 (w32 (p3 + 2)).toNat)] M) fun x2 M1 => if 0 ≤ (w32 (p3 + 1)) ∧ (w32 (p3 + 1)) < M1.2.2.2.2.2.2 then (if 0 ≤ (w32 (p3 + 2)) ∧ (w32 (p3 + 2)) < M1.2.2.2.2.2.2 then (bI (C2 d j_m_spring [vR 12 179, vI (M1.2.2.2.2.2.1 (w32 (p3 + 1)).toNat), vI (M1.2.2.2.2.2.1 (w32 (p3 + 2)).toNat)] M1) fun x4 M3 => if x2 = x4 then (E2 d r_law_law 10 [(0, vR 90 0), (1, vR 11 0), (2, vR 12 179), (3, vI (w32 (p3 + 6)))] [] M3) else (some (some (vI 0), M3))) else none) else none) else none) else none) :=
  (DD_ex GR2 MT 29 d r_law_law (r_law_law.drop 407) [(0, vR 90 0), (1, vR 11 0), (2, vR 12 179), (3, vI p3)] [] M).trans rfl
theorem l_407 (H : LH d M s i) : Gd (E2 d r_law_law 407 [(0, vR 90 0), (1, vR 11 0), (2, vR 12 179), (3, vI i)] [] M) := by
  rw [q_law_407, H.hM, H.w1, H.w2, if_pos H.c1, if_pos H.c2]
  have oo : OpI d j_x_spring j_m_spring [vI (s.1 (i + 1).toNat), vI (s.1 (i + 2).toNat)] M := by
    first
      | exact o_spring H.inv (s.1 (i + 1).toNat) (s.1 (i + 2).toNat)
      | exact o_spring _ H.inv (s.1 (i + 1).toNat) (s.1 (i + 2).toNat)
      | exact o_spring _ _ H.inv (s.1 (i + 1).toNat) (s.1 (i + 2).toNat)
  obtain ⟨x, M1, M2, h1, h2, h3⟩ := oo
  have s1 := (C2_S (by decide) h1).trans H.hM
  rw [h1, bI_k, s1, if_pos H.c1, if_pos H.c2, h2, bI_k, if_pos rfl, H.w6]
  exact H.go M2 h3 ((C2_S (by decide) h2).trans s1)
set_option maxRecDepth 100000 in
set_option maxHeartbeats 4000000 in
theorem q_law_434 (p3 : Int) (d : Nat) (M : Mem) : E2 d r_law_law 434 [(0, vR 90 0), (1, vR 11 0), (2, vR 12 179), (3, vI p3)] [] M = (if 0 ≤ (w32 (p3 + 1)) ∧ (w32 (p3 + 1)) < M.2.2.2.2.2.2 then (bI (C2 d j_x_copyKnown [vR 11 0, vI (M.2.2.2.2.2.1 (w32 (p3 + 1)).toNat)] M) fun x2 M1 => if 0 ≤ (w32 (p3 + 1)) ∧ (w32 (p3 + 1)) < M1.2.2.2.2.2.2 then (bI (C2 d j_m_copyKnown [vR 12 179, vI (M1.2.2.2.2.2.1 (w32 (p3 + 1)).toNat)] M1) fun x4 M3 => if x2 = x4 then (E2 d r_law_law 10 [(0, vR 90 0), (1, vR 11 0), (2, vR 12 179), (3, vI (w32 (p3 + 6)))] [] M3) else (some (some (vI 0), M3))) else none) else none) :=
  (DD_ex GR2 MT 19 d r_law_law (r_law_law.drop 434) [(0, vR 90 0), (1, vR 11 0), (2, vR 12 179), (3, vI p3)] [] M).trans rfl
theorem l_434 (H : LH d M s i) : Gd (E2 d r_law_law 434 [(0, vR 90 0), (1, vR 11 0), (2, vR 12 179), (3, vI i)] [] M) := by
  rw [q_law_434, H.hM, H.w1, if_pos H.c1]
  have oo : OpI d j_x_copyKnown j_m_copyKnown [vI (s.1 (i + 1).toNat)] M := by
    first
      | exact o_copyKnown H.inv (s.1 (i + 1).toNat)
      | exact o_copyKnown _ H.inv (s.1 (i + 1).toNat)
      | exact o_copyKnown _ _ H.inv (s.1 (i + 1).toNat)
  obtain ⟨x, M1, M2, h1, h2, h3⟩ := oo
  have s1 := (C2_S (by decide) h1).trans H.hM
  rw [h1, bI_k, s1, if_pos H.c1, h2, bI_k, if_pos rfl, H.w6]
  exact H.go M2 h3 ((C2_S (by decide) h2).trans s1)
set_option maxRecDepth 100000 in
set_option maxHeartbeats 4000000 in
theorem q_law_451 (p3 : Int) (d : Nat) (M : Mem) : E2 d r_law_law 451 [(0, vR 90 0), (1, vR 11 0), (2, vR 12 179), (3, vI p3)] [] M = (if 0 ≤ (w32 (p3 + 1)) ∧ (w32 (p3 + 1)) < M.2.2.2.2.2.2 then (bI (C2 d j_x_year [vR 11 0, vI (M.2.2.2.2.2.1 (w32 (p3 + 1)).toNat)] M) fun x2 M1 => if 0 ≤ (w32 (p3 + 1)) ∧ (w32 (p3 + 1)) < M1.2.2.2.2.2.2 then (bI (C2 d j_m_year [vR 12 179, vI (M1.2.2.2.2.2.1 (w32 (p3 + 1)).toNat)] M1) fun x4 M3 => if x2 = x4 then (E2 d r_law_law 10 [(0, vR 90 0), (1, vR 11 0), (2, vR 12 179), (3, vI (w32 (p3 + 6)))] [] M3) else (some (some (vI 0), M3))) else none) else none) :=
  (DD_ex GR2 MT 19 d r_law_law (r_law_law.drop 451) [(0, vR 90 0), (1, vR 11 0), (2, vR 12 179), (3, vI p3)] [] M).trans rfl
theorem l_451 (H : LH d M s i) : Gd (E2 d r_law_law 451 [(0, vR 90 0), (1, vR 11 0), (2, vR 12 179), (3, vI i)] [] M) := by
  rw [q_law_451, H.hM, H.w1, if_pos H.c1]
  have oo : OpI d j_x_year j_m_year [vI (s.1 (i + 1).toNat)] M := by
    first
      | exact o_year H.inv (s.1 (i + 1).toNat)
      | exact o_year _ H.inv (s.1 (i + 1).toNat)
      | exact o_year _ _ H.inv (s.1 (i + 1).toNat)
  obtain ⟨x, M1, M2, h1, h2, h3⟩ := oo
  have s1 := (C2_S (by decide) h1).trans H.hM
  rw [h1, bI_k, s1, if_pos H.c1, h2, bI_k, if_pos rfl, H.w6]
  exact H.go M2 h3 ((C2_S (by decide) h2).trans s1)
set_option maxRecDepth 100000 in
set_option maxHeartbeats 4000000 in
theorem q_law_468 (p3 : Int) (d : Nat) (M : Mem) : E2 d r_law_law 468 [(0, vR 90 0), (1, vR 11 0), (2, vR 12 179), (3, vI p3)] [] M = (if 0 ≤ (w32 (p3 + 1)) ∧ (w32 (p3 + 1)) < M.2.2.2.2.2.2 then (bI (C2 d j_x_make [vR 11 0, vI (M.2.2.2.2.2.1 (w32 (p3 + 1)).toNat)] M) fun x2 M1 => if 0 ≤ (w32 (p3 + 1)) ∧ (w32 (p3 + 1)) < M1.2.2.2.2.2.2 then (bI (C2 d j_m_make [vR 12 179, vI (M1.2.2.2.2.2.1 (w32 (p3 + 1)).toNat)] M1) fun x4 M3 => if x2 = x4 then (E2 d r_law_law 10 [(0, vR 90 0), (1, vR 11 0), (2, vR 12 179), (3, vI (w32 (p3 + 6)))] [] M3) else (some (some (vI 0), M3))) else none) else none) :=
  (DD_ex GR2 MT 19 d r_law_law (r_law_law.drop 468) [(0, vR 90 0), (1, vR 11 0), (2, vR 12 179), (3, vI p3)] [] M).trans rfl
theorem l_468 (H : LH d M s i) : Gd (E2 d r_law_law 468 [(0, vR 90 0), (1, vR 11 0), (2, vR 12 179), (3, vI i)] [] M) := by
  rw [q_law_468, H.hM, H.w1, if_pos H.c1]
  have oo : OpI d j_x_make j_m_make [vI (s.1 (i + 1).toNat)] M := by
    first
      | exact o_make H.inv (s.1 (i + 1).toNat)
      | exact o_make _ H.inv (s.1 (i + 1).toNat)
      | exact o_make _ _ H.inv (s.1 (i + 1).toNat)
  obtain ⟨x, M1, M2, h1, h2, h3⟩ := oo
  have s1 := (C2_S (by decide) h1).trans H.hM
  rw [h1, bI_k, s1, if_pos H.c1, h2, bI_k, if_pos rfl, H.w6]
  exact H.go M2 h3 ((C2_S (by decide) h2).trans s1)
set_option maxRecDepth 100000 in
set_option maxHeartbeats 4000000 in
theorem q_law_485 (p3 : Int) (d : Nat) (M : Mem) : E2 d r_law_law 485 [(0, vR 90 0), (1, vR 11 0), (2, vR 12 179), (3, vI p3)] [] M = (bI (C2 d j_x_use [vR 11 0] M) fun x2 M1 => bI (C2 d j_m_use [vR 12 179] M1) fun x4 M3 => if x2 = x4 then (E2 d r_law_law 10 [(0, vR 90 0), (1, vR 11 0), (2, vR 12 179), (3, vI (w32 (p3 + 6)))] [] M3) else (some (some (vI 0), M3))) :=
  (DD_ex GR2 MT 9 d r_law_law (r_law_law.drop 485) [(0, vR 90 0), (1, vR 11 0), (2, vR 12 179), (3, vI p3)] [] M).trans rfl
theorem l_485 (H : LH d M s i) : Gd (E2 d r_law_law 485 [(0, vR 90 0), (1, vR 11 0), (2, vR 12 179), (3, vI i)] [] M) := by
  rw [q_law_485]
  have oo : OpI d j_x_use j_m_use [] M := by
    first
      | exact o_use H.inv
      | exact o_use _ H.inv
      | exact o_use _ _ H.inv
  obtain ⟨x, M1, M2, h1, h2, h3⟩ := oo
  have s1 := (C2_S (by decide) h1).trans H.hM
  rw [h1, bI_k, h2, bI_k, if_pos rfl, H.w6]
  exact H.go M2 h3 ((C2_S (by decide) h2).trans s1)
set_option maxRecDepth 100000 in
set_option maxHeartbeats 4000000 in
theorem q_law_492 (p3 : Int) (d : Nat) (M : Mem) : E2 d r_law_law 492 [(0, vR 90 0), (1, vR 11 0), (2, vR 12 179), (3, vI p3)] [] M = (if 0 ≤ (w32 (p3 + 1)) ∧ (w32 (p3 + 1)) < M.2.2.2.2.2.2 then (if 0 ≤ (w32 (p3 + 2)) ∧ (w32 (p3 + 2)) < M.2.2.2.2.2.2 then (if 0 ≤ (w32 (p3 + 3)) ∧ (w32 (p3 + 3)) < M.2.2.2.2.2.2 then (bI (C2 d j_x_teach [vR 11 0, vI (M.2.2.2.2.2.1 (w32 (p3 + 1)).toNat), vI (M.2.2.2.2.2.1 (w32 (p3 + 2)).toNat), vI (M.2.2.2.2.2.1 (w32 (p3 + 3)).toNat)] M) fun x2 M1 => if 0 ≤ (w32 (p3 + 1)) ∧ (w32 (p3 + 1)) < M1.2.2.2.2.2.2 then (if 0 ≤ (w32 (p3 + 2)) ∧ (w32 (p3 + 2)) < M1.2.2.2.2.2.2 then (if 0 ≤ (w32 (p3 + 3)) ∧ (w32 (p3 + 3)) < M1.2.2.2.2.2.2 then (bI (C2 d j_m_teach [vR 12 179, vI (M1.2.2.2.2.2.1 (w32 (p3 + 1)).toNat), vI (M1.2.2.2.2.2.1 (w32 (p3 + 2)).toNat), vI (M1.2.2.2.2.2.1 (w32 (p3 + 3)).toNat)] M1) fun x4 M3 => if x2 = x4 then (E2 d r_law_law 10 [(0, vR 90 0), (1, vR 11 0), (2, vR 12 179), (3, vI (w32 (p3 + 6)))] [] M3) else (some (some (vI 0), M3))) else none) else none) else none) else none) else none) else none) :=
  (DD_ex GR2 MT 39 d r_law_law (r_law_law.drop 492) [(0, vR 90 0), (1, vR 11 0), (2, vR 12 179), (3, vI p3)] [] M).trans rfl
theorem l_492 (H : LH d M s i) : Gd (E2 d r_law_law 492 [(0, vR 90 0), (1, vR 11 0), (2, vR 12 179), (3, vI i)] [] M) := by
  rw [q_law_492, H.hM, H.w1, H.w2, H.w3, if_pos H.c1, if_pos H.c2, if_pos H.c3]
  have oo : OpI d j_x_teach j_m_teach [vI (s.1 (i + 1).toNat), vI (s.1 (i + 2).toNat), vI (s.1 (i + 3).toNat)] M := by
    first
      | exact o_teach H.inv (s.1 (i + 1).toNat) (s.1 (i + 2).toNat) (s.1 (i + 3).toNat)
      | exact o_teach _ H.inv (s.1 (i + 1).toNat) (s.1 (i + 2).toNat) (s.1 (i + 3).toNat)
      | exact o_teach _ _ H.inv (s.1 (i + 1).toNat) (s.1 (i + 2).toNat) (s.1 (i + 3).toNat)
  obtain ⟨x, M1, M2, h1, h2, h3⟩ := oo
  have s1 := (C2_S (by decide) h1).trans H.hM
  rw [h1, bI_k, s1, if_pos H.c1, if_pos H.c2, if_pos H.c3, h2, bI_k, if_pos rfl, H.w6]
  exact H.go M2 h3 ((C2_S (by decide) h2).trans s1)
set_option maxRecDepth 100000 in
set_option maxHeartbeats 4000000 in
theorem q_law_529 (p3 : Int) (d : Nat) (M : Mem) : E2 d r_law_law 529 [(0, vR 90 0), (1, vR 11 0), (2, vR 12 179), (3, vI p3)] [] M = (if 0 ≤ (w32 (p3 + 1)) ∧ (w32 (p3 + 1)) < M.2.2.2.2.2.2 then (if 0 ≤ (w32 (p3 + 2)) ∧ (w32 (p3 + 2)) < M.2.2.2.2.2.2 then (if (M.2.2.2.2.2.1 (w32 (p3 + 2)).toNat) = 0 then (bI (C2 d j_x_note [vR 11 0, vI (M.2.2.2.2.2.1 (w32 (p3 + 1)).toNat), vI 0] M) fun x2 M1 => if 0 ≤ (w32 (p3 + 1)) ∧ (w32 (p3 + 1)) < M1.2.2.2.2.2.2 then (if 0 ≤ (w32 (p3 + 2)) ∧ (w32 (p3 + 2)) < M1.2.2.2.2.2.2 then (if (M1.2.2.2.2.2.1 (w32 (p3 + 2)).toNat) = 0 then (bI (C2 d j_m_note [vR 12 179, vI (M1.2.2.2.2.2.1 (w32 (p3 + 1)).toNat), vI 0] M1) fun x4 M3 => if x2 = x4 then (E2 d r_law_law 10 [(0, vR 90 0), (1, vR 11 0), (2, vR 12 179), (3, vI (w32 (p3 + 6)))] [] M3) else (some (some (vI 0), M3))) else (bI (C2 d j_m_note [vR 12 179, vI (M1.2.2.2.2.2.1 (w32 (p3 + 1)).toNat), vI 1] M1) fun x6 M5 => if x2 = x6 then (E2 d r_law_law 10 [(0, vR 90 0), (1, vR 11 0), (2, vR 12 179), (3, vI (w32 (p3 + 6)))] [] M5) else (some (some (vI 0), M5)))) else none) else none) else (bI (C2 d j_x_note [vR 11 0, vI (M.2.2.2.2.2.1 (w32 (p3 + 1)).toNat), vI 1] M) fun x8 M7 => if 0 ≤ (w32 (p3 + 1)) ∧ (w32 (p3 + 1)) < M7.2.2.2.2.2.2 then (if 0 ≤ (w32 (p3 + 2)) ∧ (w32 (p3 + 2)) < M7.2.2.2.2.2.2 then (if (M7.2.2.2.2.2.1 (w32 (p3 + 2)).toNat) = 0 then (bI (C2 d j_m_note [vR 12 179, vI (M7.2.2.2.2.2.1 (w32 (p3 + 1)).toNat), vI 0] M7) fun x10 M9 => if x8 = x10 then (E2 d r_law_law 10 [(0, vR 90 0), (1, vR 11 0), (2, vR 12 179), (3, vI (w32 (p3 + 6)))] [] M9) else (some (some (vI 0), M9))) else (bI (C2 d j_m_note [vR 12 179, vI (M7.2.2.2.2.2.1 (w32 (p3 + 1)).toNat), vI 1] M7) fun x12 M11 => if x8 = x12 then (E2 d r_law_law 10 [(0, vR 90 0), (1, vR 11 0), (2, vR 12 179), (3, vI (w32 (p3 + 6)))] [] M11) else (some (some (vI 0), M11)))) else none) else none)) else none) else none) :=
  (DD_ex GR2 MT 35 d r_law_law (r_law_law.drop 529) [(0, vR 90 0), (1, vR 11 0), (2, vR 12 179), (3, vI p3)] [] M).trans rfl
theorem l_529 (H : LH d M s i) : Gd (E2 d r_law_law 529 [(0, vR 90 0), (1, vR 11 0), (2, vR 12 179), (3, vI i)] [] M) := by
  rw [q_law_529, H.hM, H.w1, H.w2, if_pos H.c1, if_pos H.c2]
  by_cases z : s.1 (i + 2).toNat = 0
  · rw [if_pos z]
    have oo : OpI d j_x_note j_m_note [vI (s.1 (i + 1).toNat), vI 0] M := by
      first
        | exact o_note H.inv (s.1 (i + 1).toNat) false
        | exact o_note _ H.inv (s.1 (i + 1).toNat) false
        | exact o_note _ _ H.inv (s.1 (i + 1).toNat) false
    obtain ⟨x, M1, M2, h1, h2, h3⟩ := oo
    have s1 := (C2_S (by decide) h1).trans H.hM
    rw [h1, bI_k, s1, if_pos H.c1, if_pos H.c2, if_pos z, h2, bI_k, if_pos rfl, H.w6]
    exact H.go M2 h3 ((C2_S (by decide) h2).trans s1)
  · rw [if_neg z]
    have oo : OpI d j_x_note j_m_note [vI (s.1 (i + 1).toNat), vI 1] M := by
      first
        | exact o_note H.inv (s.1 (i + 1).toNat) true
        | exact o_note _ H.inv (s.1 (i + 1).toNat) true
        | exact o_note _ _ H.inv (s.1 (i + 1).toNat) true
    obtain ⟨x, M1, M2, h1, h2, h3⟩ := oo
    have s1 := (C2_S (by decide) h1).trans H.hM
    rw [h1, bI_k, s1, if_pos H.c1, if_pos H.c2, if_neg z, h2, bI_k, if_pos rfl, H.w6]
    exact H.go M2 h3 ((C2_S (by decide) h2).trans s1)
set_option maxRecDepth 100000 in
set_option maxHeartbeats 4000000 in
theorem q_law_564 (p3 : Int) (d : Nat) (M : Mem) : E2 d r_law_law 564 [(0, vR 90 0), (1, vR 11 0), (2, vR 12 179), (3, vI p3)] [] M = (if 0 ≤ (w32 (p3 + 1)) ∧ (w32 (p3 + 1)) < M.2.2.2.2.2.2 then (bI (C2 d j_x_capture [vR 11 0, vI (M.2.2.2.2.2.1 (w32 (p3 + 1)).toNat)] M) fun x2 M1 => if 0 ≤ (w32 (p3 + 1)) ∧ (w32 (p3 + 1)) < M1.2.2.2.2.2.2 then (bI (C2 d j_m_capture [vR 12 179, vI (M1.2.2.2.2.2.1 (w32 (p3 + 1)).toNat)] M1) fun x4 M3 => if x2 = x4 then (E2 d r_law_law 10 [(0, vR 90 0), (1, vR 11 0), (2, vR 12 179), (3, vI (w32 (p3 + 6)))] [] M3) else (some (some (vI 0), M3))) else none) else none) :=
  (DD_ex GR2 MT 19 d r_law_law (r_law_law.drop 564) [(0, vR 90 0), (1, vR 11 0), (2, vR 12 179), (3, vI p3)] [] M).trans rfl
theorem l_564 (H : LH d M s i) : Gd (E2 d r_law_law 564 [(0, vR 90 0), (1, vR 11 0), (2, vR 12 179), (3, vI i)] [] M) := by
  rw [q_law_564, H.hM, H.w1, if_pos H.c1]
  have oo : OpI d j_x_capture j_m_capture [vI (s.1 (i + 1).toNat)] M := by
    first
      | exact o_capture H.inv (s.1 (i + 1).toNat)
      | exact o_capture _ H.inv (s.1 (i + 1).toNat)
      | exact o_capture _ _ H.inv (s.1 (i + 1).toNat)
  obtain ⟨x, M1, M2, h1, h2, h3⟩ := oo
  have s1 := (C2_S (by decide) h1).trans H.hM
  rw [h1, bI_k, s1, if_pos H.c1, h2, bI_k, if_pos rfl, H.w6]
  exact H.go M2 h3 ((C2_S (by decide) h2).trans s1)
set_option maxRecDepth 100000 in
set_option maxHeartbeats 4000000 in
theorem q_law_581 (p3 : Int) (d : Nat) (M : Mem) : E2 d r_law_law 581 [(0, vR 90 0), (1, vR 11 0), (2, vR 12 179), (3, vI p3)] [] M = (if 0 ≤ (w32 (p3 + 1)) ∧ (w32 (p3 + 1)) < M.2.2.2.2.2.2 then (if 0 ≤ (w32 (p3 + 2)) ∧ (w32 (p3 + 2)) < M.2.2.2.2.2.2 then (bI (C2 d j_x_hire [vR 11 0, vI (M.2.2.2.2.2.1 (w32 (p3 + 1)).toNat), vI (M.2.2.2.2.2.1 (w32 (p3 + 2)).toNat)] M) fun x2 M1 => if 0 ≤ (w32 (p3 + 1)) ∧ (w32 (p3 + 1)) < M1.2.2.2.2.2.2 then (if 0 ≤ (w32 (p3 + 2)) ∧ (w32 (p3 + 2)) < M1.2.2.2.2.2.2 then (bI (C2 d j_m_hire [vR 12 179, vI (M1.2.2.2.2.2.1 (w32 (p3 + 1)).toNat), vI (M1.2.2.2.2.2.1 (w32 (p3 + 2)).toNat)] M1) fun x4 M3 => if x2 = x4 then (E2 d r_law_law 10 [(0, vR 90 0), (1, vR 11 0), (2, vR 12 179), (3, vI (w32 (p3 + 6)))] [] M3) else (some (some (vI 0), M3))) else none) else none) else none) else none) :=
  (DD_ex GR2 MT 29 d r_law_law (r_law_law.drop 581) [(0, vR 90 0), (1, vR 11 0), (2, vR 12 179), (3, vI p3)] [] M).trans rfl
theorem l_581 (H : LH d M s i) : Gd (E2 d r_law_law 581 [(0, vR 90 0), (1, vR 11 0), (2, vR 12 179), (3, vI i)] [] M) := by
  rw [q_law_581, H.hM, H.w1, H.w2, if_pos H.c1, if_pos H.c2]
  have oo : OpI d j_x_hire j_m_hire [vI (s.1 (i + 1).toNat), vI (s.1 (i + 2).toNat)] M := by
    first
      | exact o_hire H.inv (s.1 (i + 1).toNat) (s.1 (i + 2).toNat)
      | exact o_hire _ H.inv (s.1 (i + 1).toNat) (s.1 (i + 2).toNat)
      | exact o_hire _ _ H.inv (s.1 (i + 1).toNat) (s.1 (i + 2).toNat)
  obtain ⟨x, M1, M2, h1, h2, h3⟩ := oo
  have s1 := (C2_S (by decide) h1).trans H.hM
  rw [h1, bI_k, s1, if_pos H.c1, if_pos H.c2, h2, bI_k, if_pos rfl, H.w6]
  exact H.go M2 h3 ((C2_S (by decide) h2).trans s1)
set_option maxRecDepth 100000 in
set_option maxHeartbeats 4000000 in
theorem q_law_608 (p3 : Int) (d : Nat) (M : Mem) : E2 d r_law_law 608 [(0, vR 90 0), (1, vR 11 0), (2, vR 12 179), (3, vI p3)] [] M = (if 0 ≤ (w32 (p3 + 1)) ∧ (w32 (p3 + 1)) < M.2.2.2.2.2.2 then (if 0 ≤ (w32 (p3 + 2)) ∧ (w32 (p3 + 2)) < M.2.2.2.2.2.2 then (bI (C2 d j_x_rule [vR 11 0, vI (M.2.2.2.2.2.1 (w32 (p3 + 1)).toNat), vI (M.2.2.2.2.2.1 (w32 (p3 + 2)).toNat)] M) fun x2 M1 => if 0 ≤ (w32 (p3 + 1)) ∧ (w32 (p3 + 1)) < M1.2.2.2.2.2.2 then (if 0 ≤ (w32 (p3 + 2)) ∧ (w32 (p3 + 2)) < M1.2.2.2.2.2.2 then (bI (C2 d j_m_rule [vR 12 179, vI (M1.2.2.2.2.2.1 (w32 (p3 + 1)).toNat), vI (M1.2.2.2.2.2.1 (w32 (p3 + 2)).toNat)] M1) fun x4 M3 => if x2 = x4 then (E2 d r_law_law 10 [(0, vR 90 0), (1, vR 11 0), (2, vR 12 179), (3, vI (w32 (p3 + 6)))] [] M3) else (some (some (vI 0), M3))) else none) else none) else none) else none) :=
  (DD_ex GR2 MT 29 d r_law_law (r_law_law.drop 608) [(0, vR 90 0), (1, vR 11 0), (2, vR 12 179), (3, vI p3)] [] M).trans rfl
theorem l_608 (H : LH d M s i) : Gd (E2 d r_law_law 608 [(0, vR 90 0), (1, vR 11 0), (2, vR 12 179), (3, vI i)] [] M) := by
  rw [q_law_608, H.hM, H.w1, H.w2, if_pos H.c1, if_pos H.c2]
  have oo : OpI d j_x_rule j_m_rule [vI (s.1 (i + 1).toNat), vI (s.1 (i + 2).toNat)] M := by
    first
      | exact o_rule H.inv (s.1 (i + 1).toNat) (s.1 (i + 2).toNat)
      | exact o_rule _ H.inv (s.1 (i + 1).toNat) (s.1 (i + 2).toNat)
      | exact o_rule _ _ H.inv (s.1 (i + 1).toNat) (s.1 (i + 2).toNat)
  obtain ⟨x, M1, M2, h1, h2, h3⟩ := oo
  have s1 := (C2_S (by decide) h1).trans H.hM
  rw [h1, bI_k, s1, if_pos H.c1, if_pos H.c2, h2, bI_k, if_pos rfl, H.w6]
  exact H.go M2 h3 ((C2_S (by decide) h2).trans s1)
set_option maxRecDepth 100000 in
set_option maxHeartbeats 4000000 in
theorem q_law_635 (p3 : Int) (d : Nat) (M : Mem) : E2 d r_law_law 635 [(0, vR 90 0), (1, vR 11 0), (2, vR 12 179), (3, vI p3)] [] M = (if 0 ≤ (w32 (p3 + 1)) ∧ (w32 (p3 + 1)) < M.2.2.2.2.2.2 then (if 0 ≤ (w32 (p3 + 2)) ∧ (w32 (p3 + 2)) < M.2.2.2.2.2.2 then (if (M.2.2.2.2.2.1 (w32 (p3 + 2)).toNat) = 0 then (bI (C2 d j_x_supply [vR 11 0, vI (M.2.2.2.2.2.1 (w32 (p3 + 1)).toNat), vI 0] M) fun x2 M1 => if 0 ≤ (w32 (p3 + 1)) ∧ (w32 (p3 + 1)) < M1.2.2.2.2.2.2 then (if 0 ≤ (w32 (p3 + 2)) ∧ (w32 (p3 + 2)) < M1.2.2.2.2.2.2 then (if (M1.2.2.2.2.2.1 (w32 (p3 + 2)).toNat) = 0 then (bI (C2 d j_m_supply [vR 12 179, vI (M1.2.2.2.2.2.1 (w32 (p3 + 1)).toNat), vI 0] M1) fun x4 M3 => if x2 = x4 then (E2 d r_law_law 10 [(0, vR 90 0), (1, vR 11 0), (2, vR 12 179), (3, vI (w32 (p3 + 6)))] [] M3) else (some (some (vI 0), M3))) else (bI (C2 d j_m_supply [vR 12 179, vI (M1.2.2.2.2.2.1 (w32 (p3 + 1)).toNat), vI 1] M1) fun x6 M5 => if x2 = x6 then (E2 d r_law_law 10 [(0, vR 90 0), (1, vR 11 0), (2, vR 12 179), (3, vI (w32 (p3 + 6)))] [] M5) else (some (some (vI 0), M5)))) else none) else none) else (bI (C2 d j_x_supply [vR 11 0, vI (M.2.2.2.2.2.1 (w32 (p3 + 1)).toNat), vI 1] M) fun x8 M7 => if 0 ≤ (w32 (p3 + 1)) ∧ (w32 (p3 + 1)) < M7.2.2.2.2.2.2 then (if 0 ≤ (w32 (p3 + 2)) ∧ (w32 (p3 + 2)) < M7.2.2.2.2.2.2 then (if (M7.2.2.2.2.2.1 (w32 (p3 + 2)).toNat) = 0 then (bI (C2 d j_m_supply [vR 12 179, vI (M7.2.2.2.2.2.1 (w32 (p3 + 1)).toNat), vI 0] M7) fun x10 M9 => if x8 = x10 then (E2 d r_law_law 10 [(0, vR 90 0), (1, vR 11 0), (2, vR 12 179), (3, vI (w32 (p3 + 6)))] [] M9) else (some (some (vI 0), M9))) else (bI (C2 d j_m_supply [vR 12 179, vI (M7.2.2.2.2.2.1 (w32 (p3 + 1)).toNat), vI 1] M7) fun x12 M11 => if x8 = x12 then (E2 d r_law_law 10 [(0, vR 90 0), (1, vR 11 0), (2, vR 12 179), (3, vI (w32 (p3 + 6)))] [] M11) else (some (some (vI 0), M11)))) else none) else none)) else none) else none) :=
  (DD_ex GR2 MT 35 d r_law_law (r_law_law.drop 635) [(0, vR 90 0), (1, vR 11 0), (2, vR 12 179), (3, vI p3)] [] M).trans rfl
theorem l_635 (H : LH d M s i) : Gd (E2 d r_law_law 635 [(0, vR 90 0), (1, vR 11 0), (2, vR 12 179), (3, vI i)] [] M) := by
  rw [q_law_635, H.hM, H.w1, H.w2, if_pos H.c1, if_pos H.c2]
  by_cases z : s.1 (i + 2).toNat = 0
  · rw [if_pos z]
    have oo : OpI d j_x_supply j_m_supply [vI (s.1 (i + 1).toNat), vI 0] M := by
      first
        | exact o_supply H.inv (s.1 (i + 1).toNat) false
        | exact o_supply _ H.inv (s.1 (i + 1).toNat) false
        | exact o_supply _ _ H.inv (s.1 (i + 1).toNat) false
    obtain ⟨x, M1, M2, h1, h2, h3⟩ := oo
    have s1 := (C2_S (by decide) h1).trans H.hM
    rw [h1, bI_k, s1, if_pos H.c1, if_pos H.c2, if_pos z, h2, bI_k, if_pos rfl, H.w6]
    exact H.go M2 h3 ((C2_S (by decide) h2).trans s1)
  · rw [if_neg z]
    have oo : OpI d j_x_supply j_m_supply [vI (s.1 (i + 1).toNat), vI 1] M := by
      first
        | exact o_supply H.inv (s.1 (i + 1).toNat) true
        | exact o_supply _ H.inv (s.1 (i + 1).toNat) true
        | exact o_supply _ _ H.inv (s.1 (i + 1).toNat) true
    obtain ⟨x, M1, M2, h1, h2, h3⟩ := oo
    have s1 := (C2_S (by decide) h1).trans H.hM
    rw [h1, bI_k, s1, if_pos H.c1, if_pos H.c2, if_neg z, h2, bI_k, if_pos rfl, H.w6]
    exact H.go M2 h3 ((C2_S (by decide) h2).trans s1)
set_option maxRecDepth 100000 in
set_option maxHeartbeats 4000000 in
theorem q_law_670 (p3 : Int) (d : Nat) (M : Mem) : E2 d r_law_law 670 [(0, vR 90 0), (1, vR 11 0), (2, vR 12 179), (3, vI p3)] [] M = (if 0 ≤ (w32 (p3 + 1)) ∧ (w32 (p3 + 1)) < M.2.2.2.2.2.2 then (if 0 ≤ (w32 (p3 + 2)) ∧ (w32 (p3 + 2)) < M.2.2.2.2.2.2 then (if (M.2.2.2.2.2.1 (w32 (p3 + 2)).toNat) = 0 then (bI (C2 d j_x_leak [vR 11 0, vI (M.2.2.2.2.2.1 (w32 (p3 + 1)).toNat), vI 0] M) fun x2 M1 => if 0 ≤ (w32 (p3 + 1)) ∧ (w32 (p3 + 1)) < M1.2.2.2.2.2.2 then (if 0 ≤ (w32 (p3 + 2)) ∧ (w32 (p3 + 2)) < M1.2.2.2.2.2.2 then (if (M1.2.2.2.2.2.1 (w32 (p3 + 2)).toNat) = 0 then (bI (C2 d j_m_leak [vR 12 179, vI (M1.2.2.2.2.2.1 (w32 (p3 + 1)).toNat), vI 0] M1) fun x4 M3 => if x2 = x4 then (E2 d r_law_law 10 [(0, vR 90 0), (1, vR 11 0), (2, vR 12 179), (3, vI (w32 (p3 + 6)))] [] M3) else (some (some (vI 0), M3))) else (bI (C2 d j_m_leak [vR 12 179, vI (M1.2.2.2.2.2.1 (w32 (p3 + 1)).toNat), vI 1] M1) fun x6 M5 => if x2 = x6 then (E2 d r_law_law 10 [(0, vR 90 0), (1, vR 11 0), (2, vR 12 179), (3, vI (w32 (p3 + 6)))] [] M5) else (some (some (vI 0), M5)))) else none) else none) else (bI (C2 d j_x_leak [vR 11 0, vI (M.2.2.2.2.2.1 (w32 (p3 + 1)).toNat), vI 1] M) fun x8 M7 => if 0 ≤ (w32 (p3 + 1)) ∧ (w32 (p3 + 1)) < M7.2.2.2.2.2.2 then (if 0 ≤ (w32 (p3 + 2)) ∧ (w32 (p3 + 2)) < M7.2.2.2.2.2.2 then (if (M7.2.2.2.2.2.1 (w32 (p3 + 2)).toNat) = 0 then (bI (C2 d j_m_leak [vR 12 179, vI (M7.2.2.2.2.2.1 (w32 (p3 + 1)).toNat), vI 0] M7) fun x10 M9 => if x8 = x10 then (E2 d r_law_law 10 [(0, vR 90 0), (1, vR 11 0), (2, vR 12 179), (3, vI (w32 (p3 + 6)))] [] M9) else (some (some (vI 0), M9))) else (bI (C2 d j_m_leak [vR 12 179, vI (M7.2.2.2.2.2.1 (w32 (p3 + 1)).toNat), vI 1] M7) fun x12 M11 => if x8 = x12 then (E2 d r_law_law 10 [(0, vR 90 0), (1, vR 11 0), (2, vR 12 179), (3, vI (w32 (p3 + 6)))] [] M11) else (some (some (vI 0), M11)))) else none) else none)) else none) else none) :=
  (DD_ex GR2 MT 35 d r_law_law (r_law_law.drop 670) [(0, vR 90 0), (1, vR 11 0), (2, vR 12 179), (3, vI p3)] [] M).trans rfl
theorem l_670 (H : LH d M s i) : Gd (E2 d r_law_law 670 [(0, vR 90 0), (1, vR 11 0), (2, vR 12 179), (3, vI i)] [] M) := by
  rw [q_law_670, H.hM, H.w1, H.w2, if_pos H.c1, if_pos H.c2]
  by_cases z : s.1 (i + 2).toNat = 0
  · rw [if_pos z]
    have oo : OpI d j_x_leak j_m_leak [vI (s.1 (i + 1).toNat), vI 0] M := by
      first
        | exact o_leak H.inv (s.1 (i + 1).toNat) false
        | exact o_leak _ H.inv (s.1 (i + 1).toNat) false
        | exact o_leak _ _ H.inv (s.1 (i + 1).toNat) false
    obtain ⟨x, M1, M2, h1, h2, h3⟩ := oo
    have s1 := (C2_S (by decide) h1).trans H.hM
    rw [h1, bI_k, s1, if_pos H.c1, if_pos H.c2, if_pos z, h2, bI_k, if_pos rfl, H.w6]
    exact H.go M2 h3 ((C2_S (by decide) h2).trans s1)
  · rw [if_neg z]
    have oo : OpI d j_x_leak j_m_leak [vI (s.1 (i + 1).toNat), vI 1] M := by
      first
        | exact o_leak H.inv (s.1 (i + 1).toNat) true
        | exact o_leak _ H.inv (s.1 (i + 1).toNat) true
        | exact o_leak _ _ H.inv (s.1 (i + 1).toNat) true
    obtain ⟨x, M1, M2, h1, h2, h3⟩ := oo
    have s1 := (C2_S (by decide) h1).trans H.hM
    rw [h1, bI_k, s1, if_pos H.c1, if_pos H.c2, if_neg z, h2, bI_k, if_pos rfl, H.w6]
    exact H.go M2 h3 ((C2_S (by decide) h2).trans s1)
set_option maxRecDepth 100000 in
set_option maxHeartbeats 4000000 in
theorem q_law_705 (p3 : Int) (d : Nat) (M : Mem) : E2 d r_law_law 705 [(0, vR 90 0), (1, vR 11 0), (2, vR 12 179), (3, vI p3)] [] M = (if 0 ≤ (w32 (p3 + 1)) ∧ (w32 (p3 + 1)) < M.2.2.2.2.2.2 then (bI (C2 d j_x_knowers [vR 11 0, vI (M.2.2.2.2.2.1 (w32 (p3 + 1)).toNat)] M) fun x2 M1 => if 0 ≤ (w32 (p3 + 1)) ∧ (w32 (p3 + 1)) < M1.2.2.2.2.2.2 then (bI (C2 d j_m_knowers [vR 12 179, vI (M1.2.2.2.2.2.1 (w32 (p3 + 1)).toNat)] M1) fun x4 M3 => if x2 = x4 then (E2 d r_law_law 10 [(0, vR 90 0), (1, vR 11 0), (2, vR 12 179), (3, vI (w32 (p3 + 6)))] [] M3) else (some (some (vI 0), M3))) else none) else none) :=
  (DD_ex GR2 MT 19 d r_law_law (r_law_law.drop 705) [(0, vR 90 0), (1, vR 11 0), (2, vR 12 179), (3, vI p3)] [] M).trans rfl
theorem l_705 (H : LH d M s i) : Gd (E2 d r_law_law 705 [(0, vR 90 0), (1, vR 11 0), (2, vR 12 179), (3, vI i)] [] M) := by
  rw [q_law_705, H.hM, H.w1, if_pos H.c1]
  have oo : OpI d j_x_knowers j_m_knowers [vI (s.1 (i + 1).toNat)] M := by
    first
      | exact o_knowers H.inv (s.1 (i + 1).toNat)
      | exact o_knowers _ H.inv (s.1 (i + 1).toNat)
      | exact o_knowers _ _ H.inv (s.1 (i + 1).toNat)
  obtain ⟨x, M1, M2, h1, h2, h3⟩ := oo
  have s1 := (C2_S (by decide) h1).trans H.hM
  rw [h1, bI_k, s1, if_pos H.c1, h2, bI_k, if_pos rfl, H.w6]
  exact H.go M2 h3 ((C2_S (by decide) h2).trans s1)
set_option maxRecDepth 100000 in
set_option maxHeartbeats 4000000 in
theorem q_law_722 (p3 : Int) (d : Nat) (M : Mem) : E2 d r_law_law 722 [(0, vR 90 0), (1, vR 11 0), (2, vR 12 179), (3, vI p3)] [] M = (if 0 ≤ (w32 (p3 + 1)) ∧ (w32 (p3 + 1)) < M.2.2.2.2.2.2 then (bI (C2 d j_x_knownBy [vR 11 0, vI (M.2.2.2.2.2.1 (w32 (p3 + 1)).toNat)] M) fun x2 M1 => if 0 ≤ (w32 (p3 + 1)) ∧ (w32 (p3 + 1)) < M1.2.2.2.2.2.2 then (bI (C2 d j_m_knownBy [vR 12 179, vI (M1.2.2.2.2.2.1 (w32 (p3 + 1)).toNat)] M1) fun x4 M3 => if x2 = x4 then (E2 d r_law_law 10 [(0, vR 90 0), (1, vR 11 0), (2, vR 12 179), (3, vI (w32 (p3 + 6)))] [] M3) else (some (some (vI 0), M3))) else none) else none) :=
  (DD_ex GR2 MT 19 d r_law_law (r_law_law.drop 722) [(0, vR 90 0), (1, vR 11 0), (2, vR 12 179), (3, vI p3)] [] M).trans rfl
theorem l_722 (H : LH d M s i) : Gd (E2 d r_law_law 722 [(0, vR 90 0), (1, vR 11 0), (2, vR 12 179), (3, vI i)] [] M) := by
  rw [q_law_722, H.hM, H.w1, if_pos H.c1]
  have oo : OpI d j_x_knownBy j_m_knownBy [vI (s.1 (i + 1).toNat)] M := by
    first
      | exact o_knownBy H.inv (s.1 (i + 1).toNat)
      | exact o_knownBy _ H.inv (s.1 (i + 1).toNat)
      | exact o_knownBy _ _ H.inv (s.1 (i + 1).toNat)
  obtain ⟨x, M1, M2, h1, h2, h3⟩ := oo
  have s1 := (C2_S (by decide) h1).trans H.hM
  rw [h1, bI_k, s1, if_pos H.c1, h2, bI_k, if_pos rfl, H.w6]
  exact H.go M2 h3 ((C2_S (by decide) h2).trans s1)
set_option maxRecDepth 100000 in
set_option maxHeartbeats 4000000 in
theorem q_law_739 (p3 : Int) (d : Nat) (M : Mem) : E2 d r_law_law 739 [(0, vR 90 0), (1, vR 11 0), (2, vR 12 179), (3, vI p3)] [] M = (if 0 ≤ (w32 (p3 + 1)) ∧ (w32 (p3 + 1)) < M.2.2.2.2.2.2 then (bI (C2 d j_x_sells [vR 11 0, vI (M.2.2.2.2.2.1 (w32 (p3 + 1)).toNat)] M) fun x2 M1 => if 0 ≤ (w32 (p3 + 1)) ∧ (w32 (p3 + 1)) < M1.2.2.2.2.2.2 then (bI (C2 d j_m_sells [vR 12 179, vI (M1.2.2.2.2.2.1 (w32 (p3 + 1)).toNat)] M1) fun x4 M3 => if x2 = x4 then (E2 d r_law_law 10 [(0, vR 90 0), (1, vR 11 0), (2, vR 12 179), (3, vI (w32 (p3 + 6)))] [] M3) else (some (some (vI 0), M3))) else none) else none) :=
  (DD_ex GR2 MT 19 d r_law_law (r_law_law.drop 739) [(0, vR 90 0), (1, vR 11 0), (2, vR 12 179), (3, vI p3)] [] M).trans rfl
theorem l_739 (H : LH d M s i) : Gd (E2 d r_law_law 739 [(0, vR 90 0), (1, vR 11 0), (2, vR 12 179), (3, vI i)] [] M) := by
  rw [q_law_739, H.hM, H.w1, if_pos H.c1]
  have oo : OpI d j_x_sells j_m_sells [vI (s.1 (i + 1).toNat)] M := by
    first
      | exact o_sells H.inv (s.1 (i + 1).toNat)
      | exact o_sells _ H.inv (s.1 (i + 1).toNat)
      | exact o_sells _ _ H.inv (s.1 (i + 1).toNat)
  obtain ⟨x, M1, M2, h1, h2, h3⟩ := oo
  have s1 := (C2_S (by decide) h1).trans H.hM
  rw [h1, bI_k, s1, if_pos H.c1, h2, bI_k, if_pos rfl, H.w6]
  exact H.go M2 h3 ((C2_S (by decide) h2).trans s1)
set_option maxRecDepth 100000 in
set_option maxHeartbeats 4000000 in
theorem q_law_756 (p3 : Int) (d : Nat) (M : Mem) : E2 d r_law_law 756 [(0, vR 90 0), (1, vR 11 0), (2, vR 12 179), (3, vI p3)] [] M = (if 0 ≤ (w32 (p3 + 1)) ∧ (w32 (p3 + 1)) < M.2.2.2.2.2.2 then (bI (C2 d j_x_loses [vR 11 0, vI (M.2.2.2.2.2.1 (w32 (p3 + 1)).toNat)] M) fun x2 M1 => if 0 ≤ (w32 (p3 + 1)) ∧ (w32 (p3 + 1)) < M1.2.2.2.2.2.2 then (bI (C2 d j_m_loses [vR 12 179, vI (M1.2.2.2.2.2.1 (w32 (p3 + 1)).toNat)] M1) fun x4 M3 => if x2 = x4 then (E2 d r_law_law 10 [(0, vR 90 0), (1, vR 11 0), (2, vR 12 179), (3, vI (w32 (p3 + 6)))] [] M3) else (some (some (vI 0), M3))) else none) else none) :=
  (DD_ex GR2 MT 19 d r_law_law (r_law_law.drop 756) [(0, vR 90 0), (1, vR 11 0), (2, vR 12 179), (3, vI p3)] [] M).trans rfl
theorem l_756 (H : LH d M s i) : Gd (E2 d r_law_law 756 [(0, vR 90 0), (1, vR 11 0), (2, vR 12 179), (3, vI i)] [] M) := by
  rw [q_law_756, H.hM, H.w1, if_pos H.c1]
  have oo : OpI d j_x_loses j_m_loses [vI (s.1 (i + 1).toNat)] M := by
    first
      | exact o_loses H.inv (s.1 (i + 1).toNat)
      | exact o_loses _ H.inv (s.1 (i + 1).toNat)
      | exact o_loses _ _ H.inv (s.1 (i + 1).toNat)
  obtain ⟨x, M1, M2, h1, h2, h3⟩ := oo
  have s1 := (C2_S (by decide) h1).trans H.hM
  rw [h1, bI_k, s1, if_pos H.c1, h2, bI_k, if_pos rfl, H.w6]
  exact H.go M2 h3 ((C2_S (by decide) h2).trans s1)
set_option maxRecDepth 100000 in
set_option maxHeartbeats 4000000 in
theorem q_law_773 (p3 : Int) (d : Nat) (M : Mem) : E2 d r_law_law 773 [(0, vR 90 0), (1, vR 11 0), (2, vR 12 179), (3, vI p3)] [] M = (bI (C2 d j_x_fewest [vR 11 0] M) fun x2 M1 => bI (C2 d j_m_fewest [vR 12 179] M1) fun x4 M3 => if x2 = x4 then (E2 d r_law_law 10 [(0, vR 90 0), (1, vR 11 0), (2, vR 12 179), (3, vI (w32 (p3 + 6)))] [] M3) else (some (some (vI 0), M3))) :=
  (DD_ex GR2 MT 9 d r_law_law (r_law_law.drop 773) [(0, vR 90 0), (1, vR 11 0), (2, vR 12 179), (3, vI p3)] [] M).trans rfl
theorem l_773 (H : LH d M s i) : Gd (E2 d r_law_law 773 [(0, vR 90 0), (1, vR 11 0), (2, vR 12 179), (3, vI i)] [] M) := by
  rw [q_law_773]
  have oo : OpI d j_x_fewest j_m_fewest [] M := by
    first
      | exact o_fewest H.inv
      | exact o_fewest _ H.inv
      | exact o_fewest _ _ H.inv
  obtain ⟨x, M1, M2, h1, h2, h3⟩ := oo
  have s1 := (C2_S (by decide) h1).trans H.hM
  rw [h1, bI_k, h2, bI_k, if_pos rfl, H.w6]
  exact H.go M2 h3 ((C2_S (by decide) h2).trans s1)
set_option maxRecDepth 100000 in
set_option maxHeartbeats 4000000 in
theorem q_law_780 (p3 : Int) (d : Nat) (M : Mem) : E2 d r_law_law 780 [(0, vR 90 0), (1, vR 11 0), (2, vR 12 179), (3, vI p3)] [] M = (bI (C2 d j_x_fewestSet [vR 11 0] M) fun x2 M1 => bI (C2 d j_m_fewestSet [vR 12 179] M1) fun x4 M3 => if x2 = x4 then (E2 d r_law_law 10 [(0, vR 90 0), (1, vR 11 0), (2, vR 12 179), (3, vI (w32 (p3 + 6)))] [] M3) else (some (some (vI 0), M3))) :=
  (DD_ex GR2 MT 9 d r_law_law (r_law_law.drop 780) [(0, vR 90 0), (1, vR 11 0), (2, vR 12 179), (3, vI p3)] [] M).trans rfl
theorem l_780 (H : LH d M s i) : Gd (E2 d r_law_law 780 [(0, vR 90 0), (1, vR 11 0), (2, vR 12 179), (3, vI i)] [] M) := by
  rw [q_law_780]
  have oo : OpI d j_x_fewestSet j_m_fewestSet [] M := by
    first
      | exact o_fewestSet H.inv
      | exact o_fewestSet _ H.inv
      | exact o_fewestSet _ _ H.inv
  obtain ⟨x, M1, M2, h1, h2, h3⟩ := oo
  have s1 := (C2_S (by decide) h1).trans H.hM
  rw [h1, bI_k, h2, bI_k, if_pos rfl, H.w6]
  exact H.go M2 h3 ((C2_S (by decide) h2).trans s1)
set_option maxRecDepth 100000 in
set_option maxHeartbeats 4000000 in
theorem q_law_787 (p3 : Int) (d : Nat) (M : Mem) : E2 d r_law_law 787 [(0, vR 90 0), (1, vR 11 0), (2, vR 12 179), (3, vI p3)] [] M = (bI (C2 d j_x_bribe [vR 11 0] M) fun x2 M1 => bI (C2 d j_m_bribe [vR 12 179] M1) fun x4 M3 => if x2 = x4 then (E2 d r_law_law 10 [(0, vR 90 0), (1, vR 11 0), (2, vR 12 179), (3, vI (w32 (p3 + 6)))] [] M3) else (some (some (vI 0), M3))) :=
  (DD_ex GR2 MT 9 d r_law_law (r_law_law.drop 787) [(0, vR 90 0), (1, vR 11 0), (2, vR 12 179), (3, vI p3)] [] M).trans rfl
theorem l_787 (H : LH d M s i) : Gd (E2 d r_law_law 787 [(0, vR 90 0), (1, vR 11 0), (2, vR 12 179), (3, vI i)] [] M) := by
  rw [q_law_787]
  have oo : OpI d j_x_bribe j_m_bribe [] M := by
    first
      | exact o_bribe H.inv
      | exact o_bribe _ H.inv
      | exact o_bribe _ _ H.inv
  obtain ⟨x, M1, M2, h1, h2, h3⟩ := oo
  have s1 := (C2_S (by decide) h1).trans H.hM
  rw [h1, bI_k, h2, bI_k, if_pos rfl, H.w6]
  exact H.go M2 h3 ((C2_S (by decide) h2).trans s1)
set_option maxRecDepth 100000 in
set_option maxHeartbeats 4000000 in
theorem q_law_794 (p3 : Int) (d : Nat) (M : Mem) : E2 d r_law_law 794 [(0, vR 90 0), (1, vR 11 0), (2, vR 12 179), (3, vI p3)] [] M = (bI (C2 d j_x_bribeSet [vR 11 0] M) fun x2 M1 => bI (C2 d j_m_bribeSet [vR 12 179] M1) fun x4 M3 => if x2 = x4 then (E2 d r_law_law 10 [(0, vR 90 0), (1, vR 11 0), (2, vR 12 179), (3, vI (w32 (p3 + 6)))] [] M3) else (some (some (vI 0), M3))) :=
  (DD_ex GR2 MT 9 d r_law_law (r_law_law.drop 794) [(0, vR 90 0), (1, vR 11 0), (2, vR 12 179), (3, vI p3)] [] M).trans rfl
theorem l_794 (H : LH d M s i) : Gd (E2 d r_law_law 794 [(0, vR 90 0), (1, vR 11 0), (2, vR 12 179), (3, vI i)] [] M) := by
  rw [q_law_794]
  have oo : OpI d j_x_bribeSet j_m_bribeSet [] M := by
    first
      | exact o_bribeSet H.inv
      | exact o_bribeSet _ H.inv
      | exact o_bribeSet _ _ H.inv
  obtain ⟨x, M1, M2, h1, h2, h3⟩ := oo
  have s1 := (C2_S (by decide) h1).trans H.hM
  rw [h1, bI_k, h2, bI_k, if_pos rfl, H.w6]
  exact H.go M2 h3 ((C2_S (by decide) h2).trans s1)
set_option maxRecDepth 100000 in
set_option maxHeartbeats 4000000 in
theorem q_law_801 (p3 : Int) (d : Nat) (M : Mem) : E2 d r_law_law 801 [(0, vR 90 0), (1, vR 11 0), (2, vR 12 179), (3, vI p3)] [] M = (bI (C2 d j_x_frail [vR 11 0] M) fun x2 M1 => bI (C2 d j_m_frail [vR 12 179] M1) fun x4 M3 => if x2 = x4 then (E2 d r_law_law 10 [(0, vR 90 0), (1, vR 11 0), (2, vR 12 179), (3, vI (w32 (p3 + 6)))] [] M3) else (some (some (vI 0), M3))) :=
  (DD_ex GR2 MT 9 d r_law_law (r_law_law.drop 801) [(0, vR 90 0), (1, vR 11 0), (2, vR 12 179), (3, vI p3)] [] M).trans rfl
theorem l_801 (H : LH d M s i) : Gd (E2 d r_law_law 801 [(0, vR 90 0), (1, vR 11 0), (2, vR 12 179), (3, vI i)] [] M) := by
  rw [q_law_801]
  have oo : OpI d j_x_frail j_m_frail [] M := by
    first
      | exact o_frail H.inv
      | exact o_frail _ H.inv
      | exact o_frail _ _ H.inv
  obtain ⟨x, M1, M2, h1, h2, h3⟩ := oo
  have s1 := (C2_S (by decide) h1).trans H.hM
  rw [h1, bI_k, h2, bI_k, if_pos rfl, H.w6]
  exact H.go M2 h3 ((C2_S (by decide) h2).trans s1)
set_option maxRecDepth 100000 in
set_option maxHeartbeats 4000000 in
theorem q_law_808 (p3 : Int) (d : Nat) (M : Mem) : E2 d r_law_law 808 [(0, vR 90 0), (1, vR 11 0), (2, vR 12 179), (3, vI p3)] [] M = (bI (C2 d j_x_frailPart [vR 11 0] M) fun x2 M1 => bI (C2 d j_m_frailPart [vR 12 179] M1) fun x4 M3 => if x2 = x4 then (E2 d r_law_law 10 [(0, vR 90 0), (1, vR 11 0), (2, vR 12 179), (3, vI (w32 (p3 + 6)))] [] M3) else (some (some (vI 0), M3))) :=
  (DD_ex GR2 MT 9 d r_law_law (r_law_law.drop 808) [(0, vR 90 0), (1, vR 11 0), (2, vR 12 179), (3, vI p3)] [] M).trans rfl
theorem l_808 (H : LH d M s i) : Gd (E2 d r_law_law 808 [(0, vR 90 0), (1, vR 11 0), (2, vR 12 179), (3, vI i)] [] M) := by
  rw [q_law_808]
  have oo : OpI d j_x_frailPart j_m_frailPart [] M := by
    first
      | exact o_frailPart H.inv
      | exact o_frailPart _ H.inv
      | exact o_frailPart _ _ H.inv
  obtain ⟨x, M1, M2, h1, h2, h3⟩ := oo
  have s1 := (C2_S (by decide) h1).trans H.hM
  rw [h1, bI_k, h2, bI_k, if_pos rfl, H.w6]
  exact H.go M2 h3 ((C2_S (by decide) h2).trans s1)
set_option maxRecDepth 100000 in
set_option maxHeartbeats 4000000 in
theorem q_law_815 (p3 : Int) (d : Nat) (M : Mem) : E2 d r_law_law 815 [(0, vR 90 0), (1, vR 11 0), (2, vR 12 179), (3, vI p3)] [] M = (if 0 ≤ (w32 (p3 + 1)) ∧ (w32 (p3 + 1)) < M.2.2.2.2.2.2 then (if 0 ≤ (w32 (p3 + 2)) ∧ (w32 (p3 + 2)) < M.2.2.2.2.2.2 then (bI (C2 d j_x_safe [vR 11 0, vI (M.2.2.2.2.2.1 (w32 (p3 + 1)).toNat), vI (M.2.2.2.2.2.1 (w32 (p3 + 2)).toNat)] M) fun x2 M1 => if 0 ≤ (w32 (p3 + 1)) ∧ (w32 (p3 + 1)) < M1.2.2.2.2.2.2 then (if 0 ≤ (w32 (p3 + 2)) ∧ (w32 (p3 + 2)) < M1.2.2.2.2.2.2 then (bI (C2 d j_m_safe [vR 12 179, vI (M1.2.2.2.2.2.1 (w32 (p3 + 1)).toNat), vI (M1.2.2.2.2.2.1 (w32 (p3 + 2)).toNat)] M1) fun x4 M3 => if x2 = x4 then (E2 d r_law_law 10 [(0, vR 90 0), (1, vR 11 0), (2, vR 12 179), (3, vI (w32 (p3 + 6)))] [] M3) else (some (some (vI 0), M3))) else none) else none) else none) else none) :=
  (DD_ex GR2 MT 29 d r_law_law (r_law_law.drop 815) [(0, vR 90 0), (1, vR 11 0), (2, vR 12 179), (3, vI p3)] [] M).trans rfl
theorem l_815 (H : LH d M s i) : Gd (E2 d r_law_law 815 [(0, vR 90 0), (1, vR 11 0), (2, vR 12 179), (3, vI i)] [] M) := by
  rw [q_law_815, H.hM, H.w1, H.w2, if_pos H.c1, if_pos H.c2]
  have oo : OpI d j_x_safe j_m_safe [vI (s.1 (i + 1).toNat), vI (s.1 (i + 2).toNat)] M := by
    first
      | exact o_safe H.inv (s.1 (i + 1).toNat) (s.1 (i + 2).toNat)
      | exact o_safe _ H.inv (s.1 (i + 1).toNat) (s.1 (i + 2).toNat)
      | exact o_safe _ _ H.inv (s.1 (i + 1).toNat) (s.1 (i + 2).toNat)
  obtain ⟨x, M1, M2, h1, h2, h3⟩ := oo
  have s1 := (C2_S (by decide) h1).trans H.hM
  rw [h1, bI_k, s1, if_pos H.c1, if_pos H.c2, h2, bI_k, if_pos rfl, H.w6]
  exact H.go M2 h3 ((C2_S (by decide) h2).trans s1)
set_option maxRecDepth 100000 in
set_option maxHeartbeats 4000000 in
theorem q_law_842 (p3 : Int) (d : Nat) (M : Mem) : E2 d r_law_law 842 [(0, vR 90 0), (1, vR 11 0), (2, vR 12 179), (3, vI p3)] [] M = (if 0 ≤ (w32 (p3 + 1)) ∧ (w32 (p3 + 1)) < M.2.2.2.2.2.2 then (bI (C2 d j_x_lesson [vR 11 0, vI (M.2.2.2.2.2.1 (w32 (p3 + 1)).toNat)] M) fun x2 M1 => if 0 ≤ (w32 (p3 + 1)) ∧ (w32 (p3 + 1)) < M1.2.2.2.2.2.2 then (bI (C2 d j_m_lesson [vR 12 179, vI (M1.2.2.2.2.2.1 (w32 (p3 + 1)).toNat)] M1) fun x4 M3 => if x2 = x4 then (E2 d r_law_law 10 [(0, vR 90 0), (1, vR 11 0), (2, vR 12 179), (3, vI (w32 (p3 + 6)))] [] M3) else (some (some (vI 0), M3))) else none) else none) :=
  (DD_ex GR2 MT 19 d r_law_law (r_law_law.drop 842) [(0, vR 90 0), (1, vR 11 0), (2, vR 12 179), (3, vI p3)] [] M).trans rfl
theorem l_842 (H : LH d M s i) : Gd (E2 d r_law_law 842 [(0, vR 90 0), (1, vR 11 0), (2, vR 12 179), (3, vI i)] [] M) := by
  rw [q_law_842, H.hM, H.w1, if_pos H.c1]
  have oo : OpI d j_x_lesson j_m_lesson [vI (s.1 (i + 1).toNat)] M := by
    first
      | exact o_lesson H.inv (s.1 (i + 1).toNat)
      | exact o_lesson _ H.inv (s.1 (i + 1).toNat)
      | exact o_lesson _ _ H.inv (s.1 (i + 1).toNat)
  obtain ⟨x, M1, M2, h1, h2, h3⟩ := oo
  have s1 := (C2_S (by decide) h1).trans H.hM
  rw [h1, bI_k, s1, if_pos H.c1, h2, bI_k, if_pos rfl, H.w6]
  exact H.go M2 h3 ((C2_S (by decide) h2).trans s1)
set_option maxRecDepth 100000 in
set_option maxHeartbeats 4000000 in
theorem q_law_859 (p3 : Int) (d : Nat) (M : Mem) : E2 d r_law_law 859 [(0, vR 90 0), (1, vR 11 0), (2, vR 12 179), (3, vI p3)] [] M = (if 0 ≤ (w32 (p3 + 1)) ∧ (w32 (p3 + 1)) < M.2.2.2.2.2.2 then (bI (C2 d j_x_lostIn [vR 11 0, vI (M.2.2.2.2.2.1 (w32 (p3 + 1)).toNat)] M) fun x2 M1 => if 0 ≤ (w32 (p3 + 1)) ∧ (w32 (p3 + 1)) < M1.2.2.2.2.2.2 then (bI (C2 d j_m_lostIn [vR 12 179, vI (M1.2.2.2.2.2.1 (w32 (p3 + 1)).toNat)] M1) fun x4 M3 => if x2 = x4 then (E2 d r_law_law 10 [(0, vR 90 0), (1, vR 11 0), (2, vR 12 179), (3, vI (w32 (p3 + 6)))] [] M3) else (some (some (vI 0), M3))) else none) else none) :=
  (DD_ex GR2 MT 19 d r_law_law (r_law_law.drop 859) [(0, vR 90 0), (1, vR 11 0), (2, vR 12 179), (3, vI p3)] [] M).trans rfl
theorem l_859 (H : LH d M s i) : Gd (E2 d r_law_law 859 [(0, vR 90 0), (1, vR 11 0), (2, vR 12 179), (3, vI i)] [] M) := by
  rw [q_law_859, H.hM, H.w1, if_pos H.c1]
  have oo : OpI d j_x_lostIn j_m_lostIn [vI (s.1 (i + 1).toNat)] M := by
    first
      | exact o_lostIn H.inv (s.1 (i + 1).toNat)
      | exact o_lostIn _ H.inv (s.1 (i + 1).toNat)
      | exact o_lostIn _ _ H.inv (s.1 (i + 1).toNat)
  obtain ⟨x, M1, M2, h1, h2, h3⟩ := oo
  have s1 := (C2_S (by decide) h1).trans H.hM
  rw [h1, bI_k, s1, if_pos H.c1, h2, bI_k, if_pos rfl, H.w6]
  exact H.go M2 h3 ((C2_S (by decide) h2).trans s1)
set_option maxRecDepth 100000 in
set_option maxHeartbeats 4000000 in
theorem q_law_876 (p3 : Int) (d : Nat) (M : Mem) : E2 d r_law_law 876 [(0, vR 90 0), (1, vR 11 0), (2, vR 12 179), (3, vI p3)] [] M = (bI (C2 d j_x_wholeFor [vR 11 0] M) fun x2 M1 => bI (C2 d j_m_wholeFor [vR 12 179] M1) fun x4 M3 => if x2 = x4 then (E2 d r_law_law 10 [(0, vR 90 0), (1, vR 11 0), (2, vR 12 179), (3, vI (w32 (p3 + 6)))] [] M3) else (some (some (vI 0), M3))) :=
  (DD_ex GR2 MT 9 d r_law_law (r_law_law.drop 876) [(0, vR 90 0), (1, vR 11 0), (2, vR 12 179), (3, vI p3)] [] M).trans rfl
theorem l_876 (H : LH d M s i) : Gd (E2 d r_law_law 876 [(0, vR 90 0), (1, vR 11 0), (2, vR 12 179), (3, vI i)] [] M) := by
  rw [q_law_876]
  have oo : OpI d j_x_wholeFor j_m_wholeFor [] M := by
    first
      | exact o_wholeFor H.inv
      | exact o_wholeFor _ H.inv
      | exact o_wholeFor _ _ H.inv
  obtain ⟨x, M1, M2, h1, h2, h3⟩ := oo
  have s1 := (C2_S (by decide) h1).trans H.hM
  rw [h1, bI_k, h2, bI_k, if_pos rfl, H.w6]
  exact H.go M2 h3 ((C2_S (by decide) h2).trans s1)
set_option maxRecDepth 100000 in
set_option maxHeartbeats 4000000 in
theorem q_law_883 (p3 : Int) (d : Nat) (M : Mem) : E2 d r_law_law 883 [(0, vR 90 0), (1, vR 11 0), (2, vR 12 179), (3, vI p3)] [] M = (if 0 ≤ (w32 (p3 + 1)) ∧ (w32 (p3 + 1)) < M.2.2.2.2.2.2 then (bI (C2 d j_x_knownIn [vR 11 0, vI (M.2.2.2.2.2.1 (w32 (p3 + 1)).toNat)] M) fun x2 M1 => if 0 ≤ (w32 (p3 + 1)) ∧ (w32 (p3 + 1)) < M1.2.2.2.2.2.2 then (bI (C2 d j_m_knownIn [vR 12 179, vI (M1.2.2.2.2.2.1 (w32 (p3 + 1)).toNat)] M1) fun x4 M3 => if x2 = x4 then (E2 d r_law_law 10 [(0, vR 90 0), (1, vR 11 0), (2, vR 12 179), (3, vI (w32 (p3 + 6)))] [] M3) else (some (some (vI 0), M3))) else none) else none) :=
  (DD_ex GR2 MT 19 d r_law_law (r_law_law.drop 883) [(0, vR 90 0), (1, vR 11 0), (2, vR 12 179), (3, vI p3)] [] M).trans rfl
theorem l_883 (H : LH d M s i) : Gd (E2 d r_law_law 883 [(0, vR 90 0), (1, vR 11 0), (2, vR 12 179), (3, vI i)] [] M) := by
  rw [q_law_883, H.hM, H.w1, if_pos H.c1]
  have oo : OpI d j_x_knownIn j_m_knownIn [vI (s.1 (i + 1).toNat)] M := by
    first
      | exact o_knownIn H.inv (s.1 (i + 1).toNat)
      | exact o_knownIn _ H.inv (s.1 (i + 1).toNat)
      | exact o_knownIn _ _ H.inv (s.1 (i + 1).toNat)
  obtain ⟨x, M1, M2, h1, h2, h3⟩ := oo
  have s1 := (C2_S (by decide) h1).trans H.hM
  rw [h1, bI_k, s1, if_pos H.c1, h2, bI_k, if_pos rfl, H.w6]
  exact H.go M2 h3 ((C2_S (by decide) h2).trans s1)
set_option maxRecDepth 100000 in
set_option maxHeartbeats 4000000 in
theorem q_law_900 (p3 : Int) (d : Nat) (M : Mem) : E2 d r_law_law 900 [(0, vR 90 0), (1, vR 11 0), (2, vR 12 179), (3, vI p3)] [] M = (if 0 ≤ (w32 (p3 + 1)) ∧ (w32 (p3 + 1)) < M.2.2.2.2.2.2 then (bI (C2 d j_x_storeIn [vR 11 0, vI (M.2.2.2.2.2.1 (w32 (p3 + 1)).toNat)] M) fun x2 M1 => if 0 ≤ (w32 (p3 + 1)) ∧ (w32 (p3 + 1)) < M1.2.2.2.2.2.2 then (bI (C2 d j_m_storeIn [vR 12 179, vI (M1.2.2.2.2.2.1 (w32 (p3 + 1)).toNat)] M1) fun x4 M3 => if x2 = x4 then (E2 d r_law_law 10 [(0, vR 90 0), (1, vR 11 0), (2, vR 12 179), (3, vI (w32 (p3 + 6)))] [] M3) else (some (some (vI 0), M3))) else none) else none) :=
  (DD_ex GR2 MT 19 d r_law_law (r_law_law.drop 900) [(0, vR 90 0), (1, vR 11 0), (2, vR 12 179), (3, vI p3)] [] M).trans rfl
theorem l_900 (H : LH d M s i) : Gd (E2 d r_law_law 900 [(0, vR 90 0), (1, vR 11 0), (2, vR 12 179), (3, vI i)] [] M) := by
  rw [q_law_900, H.hM, H.w1, if_pos H.c1]
  have oo : OpI d j_x_storeIn j_m_storeIn [vI (s.1 (i + 1).toNat)] M := by
    first
      | exact o_storeIn H.inv (s.1 (i + 1).toNat)
      | exact o_storeIn _ H.inv (s.1 (i + 1).toNat)
      | exact o_storeIn _ _ H.inv (s.1 (i + 1).toNat)
  obtain ⟨x, M1, M2, h1, h2, h3⟩ := oo
  have s1 := (C2_S (by decide) h1).trans H.hM
  rw [h1, bI_k, s1, if_pos H.c1, h2, bI_k, if_pos rfl, H.w6]
  exact H.go M2 h3 ((C2_S (by decide) h2).trans s1)
set_option maxRecDepth 100000 in
set_option maxHeartbeats 4000000 in
theorem q_law_917 (p3 : Int) (d : Nat) (M : Mem) : E2 d r_law_law 917 [(0, vR 90 0), (1, vR 11 0), (2, vR 12 179), (3, vI p3)] [] M = (bI (C2 d j_x_pace [vR 11 0] M) fun x2 M1 => bI (C2 d j_m_pace [vR 12 179] M1) fun x4 M3 => if x2 = x4 then (E2 d r_law_law 10 [(0, vR 90 0), (1, vR 11 0), (2, vR 12 179), (3, vI (w32 (p3 + 6)))] [] M3) else (some (some (vI 0), M3))) :=
  (DD_ex GR2 MT 9 d r_law_law (r_law_law.drop 917) [(0, vR 90 0), (1, vR 11 0), (2, vR 12 179), (3, vI p3)] [] M).trans rfl
theorem l_917 (H : LH d M s i) : Gd (E2 d r_law_law 917 [(0, vR 90 0), (1, vR 11 0), (2, vR 12 179), (3, vI i)] [] M) := by
  rw [q_law_917]
  have oo : OpI d j_x_pace j_m_pace [] M := by
    first
      | exact o_pace H.inv
      | exact o_pace _ H.inv
      | exact o_pace _ _ H.inv
  obtain ⟨x, M1, M2, h1, h2, h3⟩ := oo
  have s1 := (C2_S (by decide) h1).trans H.hM
  rw [h1, bI_k, h2, bI_k, if_pos rfl, H.w6]
  exact H.go M2 h3 ((C2_S (by decide) h2).trans s1)
set_option maxRecDepth 100000 in
set_option maxHeartbeats 4000000 in
theorem q_law_924 (p3 : Int) (d : Nat) (M : Mem) : E2 d r_law_law 924 [(0, vR 90 0), (1, vR 11 0), (2, vR 12 179), (3, vI p3)] [] M = (if 0 ≤ (w32 (p3 + 1)) ∧ (w32 (p3 + 1)) < M.2.2.2.2.2.2 then (bI (C2 d j_x_jarsFor [vR 11 0, vI (M.2.2.2.2.2.1 (w32 (p3 + 1)).toNat)] M) fun x2 M1 => if 0 ≤ (w32 (p3 + 1)) ∧ (w32 (p3 + 1)) < M1.2.2.2.2.2.2 then (bI (C2 d j_m_jarsFor [vR 12 179, vI (M1.2.2.2.2.2.1 (w32 (p3 + 1)).toNat)] M1) fun x4 M3 => if x2 = x4 then (E2 d r_law_law 10 [(0, vR 90 0), (1, vR 11 0), (2, vR 12 179), (3, vI (w32 (p3 + 6)))] [] M3) else (some (some (vI 0), M3))) else none) else none) :=
  (DD_ex GR2 MT 19 d r_law_law (r_law_law.drop 924) [(0, vR 90 0), (1, vR 11 0), (2, vR 12 179), (3, vI p3)] [] M).trans rfl
theorem l_924 (H : LH d M s i) : Gd (E2 d r_law_law 924 [(0, vR 90 0), (1, vR 11 0), (2, vR 12 179), (3, vI i)] [] M) := by
  rw [q_law_924, H.hM, H.w1, if_pos H.c1]
  have oo : OpI d j_x_jarsFor j_m_jarsFor [vI (s.1 (i + 1).toNat)] M := by
    first
      | exact o_jarsFor H.inv (s.1 (i + 1).toNat)
      | exact o_jarsFor _ H.inv (s.1 (i + 1).toNat)
      | exact o_jarsFor _ _ H.inv (s.1 (i + 1).toNat)
  obtain ⟨x, M1, M2, h1, h2, h3⟩ := oo
  have s1 := (C2_S (by decide) h1).trans H.hM
  rw [h1, bI_k, s1, if_pos H.c1, h2, bI_k, if_pos rfl, H.w6]
  exact H.go M2 h3 ((C2_S (by decide) h2).trans s1)
set_option maxRecDepth 100000 in
set_option maxHeartbeats 4000000 in
theorem q_law_941 (p3 : Int) (d : Nat) (M : Mem) : E2 d r_law_law 941 [(0, vR 90 0), (1, vR 11 0), (2, vR 12 179), (3, vI p3)] [] M = (if 0 ≤ (w32 (p3 + 1)) ∧ (w32 (p3 + 1)) < M.2.2.2.2.2.2 then (bI (C2 d j_x_dies [vR 11 0, vI (M.2.2.2.2.2.1 (w32 (p3 + 1)).toNat)] M) fun x2 M1 => if 0 ≤ (w32 (p3 + 1)) ∧ (w32 (p3 + 1)) < M1.2.2.2.2.2.2 then (bI (C2 d j_m_dies [vR 12 179, vI (M1.2.2.2.2.2.1 (w32 (p3 + 1)).toNat)] M1) fun x4 M3 => if x2 = x4 then (E2 d r_law_law 10 [(0, vR 90 0), (1, vR 11 0), (2, vR 12 179), (3, vI (w32 (p3 + 6)))] [] M3) else (some (some (vI 0), M3))) else none) else none) :=
  (DD_ex GR2 MT 19 d r_law_law (r_law_law.drop 941) [(0, vR 90 0), (1, vR 11 0), (2, vR 12 179), (3, vI p3)] [] M).trans rfl
theorem l_941 (H : LH d M s i) : Gd (E2 d r_law_law 941 [(0, vR 90 0), (1, vR 11 0), (2, vR 12 179), (3, vI i)] [] M) := by
  rw [q_law_941, H.hM, H.w1, if_pos H.c1]
  have oo : OpI d j_x_dies j_m_dies [vI (s.1 (i + 1).toNat)] M := by
    first
      | exact o_dies H.inv (s.1 (i + 1).toNat)
      | exact o_dies _ H.inv (s.1 (i + 1).toNat)
      | exact o_dies _ _ H.inv (s.1 (i + 1).toNat)
  obtain ⟨x, M1, M2, h1, h2, h3⟩ := oo
  have s1 := (C2_S (by decide) h1).trans H.hM
  rw [h1, bI_k, s1, if_pos H.c1, h2, bI_k, if_pos rfl, H.w6]
  exact H.go M2 h3 ((C2_S (by decide) h2).trans s1)
set_option maxRecDepth 100000 in
set_option maxHeartbeats 4000000 in
theorem q_law_958 (p3 : Int) (d : Nat) (M : Mem) : E2 d r_law_law 958 [(0, vR 90 0), (1, vR 11 0), (2, vR 12 179), (3, vI p3)] [] M = (if 0 ≤ (w32 (p3 + 1)) ∧ (w32 (p3 + 1)) < M.2.2.2.2.2.2 then (if 0 ≤ (w32 (p3 + 2)) ∧ (w32 (p3 + 2)) < M.2.2.2.2.2.2 then (if 0 ≤ (w32 (p3 + 3)) ∧ (w32 (p3 + 3)) < M.2.2.2.2.2.2 then (if 0 ≤ (w32 (p3 + 4)) ∧ (w32 (p3 + 4)) < M.2.2.2.2.2.2 then (bI (C2 d j_x_battle [vR 11 0, vI (M.2.2.2.2.2.1 (w32 (p3 + 1)).toNat), vI (M.2.2.2.2.2.1 (w32 (p3 + 2)).toNat), vI (M.2.2.2.2.2.1 (w32 (p3 + 3)).toNat), vI (M.2.2.2.2.2.1 (w32 (p3 + 4)).toNat)] M) fun x2 M1 => if 0 ≤ (w32 (p3 + 1)) ∧ (w32 (p3 + 1)) < M1.2.2.2.2.2.2 then (if 0 ≤ (w32 (p3 + 2)) ∧ (w32 (p3 + 2)) < M1.2.2.2.2.2.2 then (if 0 ≤ (w32 (p3 + 3)) ∧ (w32 (p3 + 3)) < M1.2.2.2.2.2.2 then (if 0 ≤ (w32 (p3 + 4)) ∧ (w32 (p3 + 4)) < M1.2.2.2.2.2.2 then (bI (C2 d j_m_battle [vR 12 179, vI (M1.2.2.2.2.2.1 (w32 (p3 + 1)).toNat), vI (M1.2.2.2.2.2.1 (w32 (p3 + 2)).toNat), vI (M1.2.2.2.2.2.1 (w32 (p3 + 3)).toNat), vI (M1.2.2.2.2.2.1 (w32 (p3 + 4)).toNat)] M1) fun x4 M3 => if x2 = x4 then (E2 d r_law_law 10 [(0, vR 90 0), (1, vR 11 0), (2, vR 12 179), (3, vI (w32 (p3 + 6)))] [] M3) else (some (some (vI 0), M3))) else none) else none) else none) else none) else none) else none) else none) else none) :=
  (DD_ex GR2 MT 49 d r_law_law (r_law_law.drop 958) [(0, vR 90 0), (1, vR 11 0), (2, vR 12 179), (3, vI p3)] [] M).trans rfl
theorem l_958 (H : LH d M s i) : Gd (E2 d r_law_law 958 [(0, vR 90 0), (1, vR 11 0), (2, vR 12 179), (3, vI i)] [] M) := by
  rw [q_law_958, H.hM, H.w1, H.w2, H.w3, H.w4, if_pos H.c1, if_pos H.c2, if_pos H.c3, if_pos H.c4]
  have oo : OpI d j_x_battle j_m_battle [vI (s.1 (i + 1).toNat), vI (s.1 (i + 2).toNat), vI (s.1 (i + 3).toNat), vI (s.1 (i + 4).toNat)] M := by
    first
      | exact o_battle H.inv (s.1 (i + 1).toNat) (s.1 (i + 2).toNat) (s.1 (i + 3).toNat) (s.1 (i + 4).toNat)
      | exact o_battle _ H.inv (s.1 (i + 1).toNat) (s.1 (i + 2).toNat) (s.1 (i + 3).toNat) (s.1 (i + 4).toNat)
      | exact o_battle _ _ H.inv (s.1 (i + 1).toNat) (s.1 (i + 2).toNat) (s.1 (i + 3).toNat) (s.1 (i + 4).toNat)
  obtain ⟨x, M1, M2, h1, h2, h3⟩ := oo
  have s1 := (C2_S (by decide) h1).trans H.hM
  rw [h1, bI_k, s1, if_pos H.c1, if_pos H.c2, if_pos H.c3, if_pos H.c4, h2, bI_k, if_pos rfl, H.w6]
  exact H.go M2 h3 ((C2_S (by decide) h2).trans s1)
set_option maxRecDepth 100000 in
set_option maxHeartbeats 4000000 in
theorem q_law_1005 (p3 : Int) (d : Nat) (M : Mem) : E2 d r_law_law 1005 [(0, vR 90 0), (1, vR 11 0), (2, vR 12 179), (3, vI p3)] [] M = (if 0 ≤ (w32 (p3 + 1)) ∧ (w32 (p3 + 1)) < M.2.2.2.2.2.2 then (if 0 ≤ (w32 (p3 + 2)) ∧ (w32 (p3 + 2)) < M.2.2.2.2.2.2 then (if 0 ≤ (w32 (p3 + 3)) ∧ (w32 (p3 + 3)) < M.2.2.2.2.2.2 then (if 0 ≤ (w32 (p3 + 4)) ∧ (w32 (p3 + 4)) < M.2.2.2.2.2.2 then (bI (C2 d j_x_throwFirst [vR 11 0, vI (M.2.2.2.2.2.1 (w32 (p3 + 1)).toNat), vI (M.2.2.2.2.2.1 (w32 (p3 + 2)).toNat), vI (M.2.2.2.2.2.1 (w32 (p3 + 3)).toNat), vI (M.2.2.2.2.2.1 (w32 (p3 + 4)).toNat)] M) fun x2 M1 => if 0 ≤ (w32 (p3 + 1)) ∧ (w32 (p3 + 1)) < M1.2.2.2.2.2.2 then (if 0 ≤ (w32 (p3 + 2)) ∧ (w32 (p3 + 2)) < M1.2.2.2.2.2.2 then (if 0 ≤ (w32 (p3 + 3)) ∧ (w32 (p3 + 3)) < M1.2.2.2.2.2.2 then (if 0 ≤ (w32 (p3 + 4)) ∧ (w32 (p3 + 4)) < M1.2.2.2.2.2.2 then (bI (C2 d j_m_throwFirst [vR 12 179, vI (M1.2.2.2.2.2.1 (w32 (p3 + 1)).toNat), vI (M1.2.2.2.2.2.1 (w32 (p3 + 2)).toNat), vI (M1.2.2.2.2.2.1 (w32 (p3 + 3)).toNat), vI (M1.2.2.2.2.2.1 (w32 (p3 + 4)).toNat)] M1) fun x4 M3 => if x2 = x4 then (E2 d r_law_law 10 [(0, vR 90 0), (1, vR 11 0), (2, vR 12 179), (3, vI (w32 (p3 + 6)))] [] M3) else (some (some (vI 0), M3))) else none) else none) else none) else none) else none) else none) else none) else none) :=
  (DD_ex GR2 MT 49 d r_law_law (r_law_law.drop 1005) [(0, vR 90 0), (1, vR 11 0), (2, vR 12 179), (3, vI p3)] [] M).trans rfl
theorem l_1005 (H : LH d M s i) : Gd (E2 d r_law_law 1005 [(0, vR 90 0), (1, vR 11 0), (2, vR 12 179), (3, vI i)] [] M) := by
  rw [q_law_1005, H.hM, H.w1, H.w2, H.w3, H.w4, if_pos H.c1, if_pos H.c2, if_pos H.c3, if_pos H.c4]
  have oo : OpI d j_x_throwFirst j_m_throwFirst [vI (s.1 (i + 1).toNat), vI (s.1 (i + 2).toNat), vI (s.1 (i + 3).toNat), vI (s.1 (i + 4).toNat)] M := by
    first
      | exact o_throwFirst H.inv (s.1 (i + 1).toNat) (s.1 (i + 2).toNat) (s.1 (i + 3).toNat) (s.1 (i + 4).toNat)
      | exact o_throwFirst _ H.inv (s.1 (i + 1).toNat) (s.1 (i + 2).toNat) (s.1 (i + 3).toNat) (s.1 (i + 4).toNat)
      | exact o_throwFirst _ _ H.inv (s.1 (i + 1).toNat) (s.1 (i + 2).toNat) (s.1 (i + 3).toNat) (s.1 (i + 4).toNat)
  obtain ⟨x, M1, M2, h1, h2, h3⟩ := oo
  have s1 := (C2_S (by decide) h1).trans H.hM
  rw [h1, bI_k, s1, if_pos H.c1, if_pos H.c2, if_pos H.c3, if_pos H.c4, h2, bI_k, if_pos rfl, H.w6]
  exact H.go M2 h3 ((C2_S (by decide) h2).trans s1)
set_option maxRecDepth 100000 in
set_option maxHeartbeats 4000000 in
theorem q_law_1052 (p3 : Int) (d : Nat) (M : Mem) : E2 d r_law_law 1052 [(0, vR 90 0), (1, vR 11 0), (2, vR 12 179), (3, vI p3)] [] M = (if 0 ≤ (w32 (p3 + 1)) ∧ (w32 (p3 + 1)) < M.2.2.2.2.2.2 then (if 0 ≤ (w32 (p3 + 2)) ∧ (w32 (p3 + 2)) < M.2.2.2.2.2.2 then (if 0 ≤ (w32 (p3 + 3)) ∧ (w32 (p3 + 3)) < M.2.2.2.2.2.2 then (if 0 ≤ (w32 (p3 + 4)) ∧ (w32 (p3 + 4)) < M.2.2.2.2.2.2 then (bI (C2 d j_x_jarsToWin [vR 11 0, vI (M.2.2.2.2.2.1 (w32 (p3 + 1)).toNat), vI (M.2.2.2.2.2.1 (w32 (p3 + 2)).toNat), vI (M.2.2.2.2.2.1 (w32 (p3 + 3)).toNat), vI (M.2.2.2.2.2.1 (w32 (p3 + 4)).toNat)] M) fun x2 M1 => if 0 ≤ (w32 (p3 + 1)) ∧ (w32 (p3 + 1)) < M1.2.2.2.2.2.2 then (if 0 ≤ (w32 (p3 + 2)) ∧ (w32 (p3 + 2)) < M1.2.2.2.2.2.2 then (if 0 ≤ (w32 (p3 + 3)) ∧ (w32 (p3 + 3)) < M1.2.2.2.2.2.2 then (if 0 ≤ (w32 (p3 + 4)) ∧ (w32 (p3 + 4)) < M1.2.2.2.2.2.2 then (bI (C2 d j_m_jarsToWin [vR 12 179, vI (M1.2.2.2.2.2.1 (w32 (p3 + 1)).toNat), vI (M1.2.2.2.2.2.1 (w32 (p3 + 2)).toNat), vI (M1.2.2.2.2.2.1 (w32 (p3 + 3)).toNat), vI (M1.2.2.2.2.2.1 (w32 (p3 + 4)).toNat)] M1) fun x4 M3 => if x2 = x4 then (E2 d r_law_law 10 [(0, vR 90 0), (1, vR 11 0), (2, vR 12 179), (3, vI (w32 (p3 + 6)))] [] M3) else (some (some (vI 0), M3))) else none) else none) else none) else none) else none) else none) else none) else none) :=
  (DD_ex GR2 MT 49 d r_law_law (r_law_law.drop 1052) [(0, vR 90 0), (1, vR 11 0), (2, vR 12 179), (3, vI p3)] [] M).trans rfl
theorem l_1052 (H : LH d M s i) : Gd (E2 d r_law_law 1052 [(0, vR 90 0), (1, vR 11 0), (2, vR 12 179), (3, vI i)] [] M) := by
  rw [q_law_1052, H.hM, H.w1, H.w2, H.w3, H.w4, if_pos H.c1, if_pos H.c2, if_pos H.c3, if_pos H.c4]
  have oo : OpI d j_x_jarsToWin j_m_jarsToWin [vI (s.1 (i + 1).toNat), vI (s.1 (i + 2).toNat), vI (s.1 (i + 3).toNat), vI (s.1 (i + 4).toNat)] M := by
    first
      | exact o_jarsToWin H.inv (s.1 (i + 1).toNat) (s.1 (i + 2).toNat) (s.1 (i + 3).toNat) (s.1 (i + 4).toNat)
      | exact o_jarsToWin _ H.inv (s.1 (i + 1).toNat) (s.1 (i + 2).toNat) (s.1 (i + 3).toNat) (s.1 (i + 4).toNat)
      | exact o_jarsToWin _ _ H.inv (s.1 (i + 1).toNat) (s.1 (i + 2).toNat) (s.1 (i + 3).toNat) (s.1 (i + 4).toNat)
  obtain ⟨x, M1, M2, h1, h2, h3⟩ := oo
  have s1 := (C2_S (by decide) h1).trans H.hM
  rw [h1, bI_k, s1, if_pos H.c1, if_pos H.c2, if_pos H.c3, if_pos H.c4, h2, bI_k, if_pos rfl, H.w6]
  exact H.go M2 h3 ((C2_S (by decide) h2).trans s1)
set_option maxRecDepth 100000 in
set_option maxHeartbeats 4000000 in
theorem q_law_1099 (p3 : Int) (d : Nat) (M : Mem) : E2 d r_law_law 1099 [(0, vR 90 0), (1, vR 11 0), (2, vR 12 179), (3, vI p3)] [] M = (if 0 ≤ (w32 (p3 + 1)) ∧ (w32 (p3 + 1)) < M.2.2.2.2.2.2 then (bL (C2 d j_x_tries [vR 11 0, vI (M.2.2.2.2.2.1 (w32 (p3 + 1)).toNat)] M) fun x2 M1 => if 0 ≤ (w32 (p3 + 1)) ∧ (w32 (p3 + 1)) < M1.2.2.2.2.2.2 then (bL (C2 d j_m_tries [vR 12 179, vI (M1.2.2.2.2.2.1 (w32 (p3 + 1)).toNat)] M1) fun x4 M3 => if (ycmp x2 x4) = 0 then (E2 d r_law_law 10 [(0, vR 90 0), (1, vR 11 0), (2, vR 12 179), (3, vI (w32 (p3 + 6)))] [] M3) else (some (some (vI 0), M3))) else none) else none) :=
  (DD_ex GR2 MT 20 d r_law_law (r_law_law.drop 1099) [(0, vR 90 0), (1, vR 11 0), (2, vR 12 179), (3, vI p3)] [] M).trans rfl
theorem l_1099 (H : LH d M s i) : Gd (E2 d r_law_law 1099 [(0, vR 90 0), (1, vR 11 0), (2, vR 12 179), (3, vI i)] [] M) := by
  rw [q_law_1099, H.hM, H.w1, if_pos H.c1]
  have oo : OpL d j_x_tries j_m_tries [vI (s.1 (i + 1).toNat)] M := by
    first
      | exact o_tries H.inv (s.1 (i + 1).toNat)
      | exact o_tries _ H.inv (s.1 (i + 1).toNat)
      | exact o_tries _ _ H.inv (s.1 (i + 1).toNat)
  obtain ⟨x, M1, M2, h1, h2, h3⟩ := oo
  have s1 := (C2_S (by decide) h1).trans H.hM
  rw [h1, bL_k, s1, if_pos H.c1, h2, bL_k, ycmp_xx, if_pos rfl, H.w6]
  exact H.go M2 h3 ((C2_S (by decide) h2).trans s1)
set_option maxRecDepth 100000 in
set_option maxHeartbeats 4000000 in
theorem q_law_1117 (p3 : Int) (d : Nat) (M : Mem) : E2 d r_law_law 1117 [(0, vR 90 0), (1, vR 11 0), (2, vR 12 179), (3, vI p3)] [] M = (bI (C2 d j_x_worstLoss [vR 11 0] M) fun x2 M1 => bI (C2 d j_m_worstLoss [vR 12 179] M1) fun x4 M3 => if x2 = x4 then (E2 d r_law_law 10 [(0, vR 90 0), (1, vR 11 0), (2, vR 12 179), (3, vI (w32 (p3 + 6)))] [] M3) else (some (some (vI 0), M3))) :=
  (DD_ex GR2 MT 9 d r_law_law (r_law_law.drop 1117) [(0, vR 90 0), (1, vR 11 0), (2, vR 12 179), (3, vI p3)] [] M).trans rfl
theorem l_1117 (H : LH d M s i) : Gd (E2 d r_law_law 1117 [(0, vR 90 0), (1, vR 11 0), (2, vR 12 179), (3, vI i)] [] M) := by
  rw [q_law_1117]
  have oo : OpI d j_x_worstLoss j_m_worstLoss [] M := by
    first
      | exact o_worstLoss H.inv
      | exact o_worstLoss _ H.inv
      | exact o_worstLoss _ _ H.inv
  obtain ⟨x, M1, M2, h1, h2, h3⟩ := oo
  have s1 := (C2_S (by decide) h1).trans H.hM
  rw [h1, bI_k, h2, bI_k, if_pos rfl, H.w6]
  exact H.go M2 h3 ((C2_S (by decide) h2).trans s1)
set_option maxRecDepth 100000 in
set_option maxHeartbeats 4000000 in
theorem q_law_1124 (p3 : Int) (d : Nat) (M : Mem) : E2 d r_law_law 1124 [(0, vR 90 0), (1, vR 11 0), (2, vR 12 179), (3, vI p3)] [] M = (if 0 ≤ (w32 (p3 + 1)) ∧ (w32 (p3 + 1)) < M.2.2.2.2.2.2 then (if 0 ≤ (w32 (p3 + 2)) ∧ (w32 (p3 + 2)) < M.2.2.2.2.2.2 then (bI (C2 d j_x_needed [vR 11 0, vI (M.2.2.2.2.2.1 (w32 (p3 + 1)).toNat), vI (M.2.2.2.2.2.1 (w32 (p3 + 2)).toNat)] M) fun x2 M1 => if 0 ≤ (w32 (p3 + 1)) ∧ (w32 (p3 + 1)) < M1.2.2.2.2.2.2 then (if 0 ≤ (w32 (p3 + 2)) ∧ (w32 (p3 + 2)) < M1.2.2.2.2.2.2 then (bI (C2 d j_m_needed [vR 12 179, vI (M1.2.2.2.2.2.1 (w32 (p3 + 1)).toNat), vI (M1.2.2.2.2.2.1 (w32 (p3 + 2)).toNat)] M1) fun x4 M3 => if x2 = x4 then (E2 d r_law_law 10 [(0, vR 90 0), (1, vR 11 0), (2, vR 12 179), (3, vI (w32 (p3 + 6)))] [] M3) else (some (some (vI 0), M3))) else none) else none) else none) else none) :=
  (DD_ex GR2 MT 29 d r_law_law (r_law_law.drop 1124) [(0, vR 90 0), (1, vR 11 0), (2, vR 12 179), (3, vI p3)] [] M).trans rfl
theorem l_1124 (H : LH d M s i) : Gd (E2 d r_law_law 1124 [(0, vR 90 0), (1, vR 11 0), (2, vR 12 179), (3, vI i)] [] M) := by
  rw [q_law_1124, H.hM, H.w1, H.w2, if_pos H.c1, if_pos H.c2]
  have oo : OpI d j_x_needed j_m_needed [vI (s.1 (i + 1).toNat), vI (s.1 (i + 2).toNat)] M := by
    first
      | exact o_needed H.inv (s.1 (i + 1).toNat) (s.1 (i + 2).toNat) (H.hr _)
      | exact o_needed _ H.inv (s.1 (i + 1).toNat) (s.1 (i + 2).toNat) (H.hr _)
      | exact o_needed _ _ H.inv (s.1 (i + 1).toNat) (s.1 (i + 2).toNat) (H.hr _)
  obtain ⟨x, M1, M2, h1, h2, h3⟩ := oo
  have s1 := (C2_S (by decide) h1).trans H.hM
  rw [h1, bI_k, s1, if_pos H.c1, if_pos H.c2, h2, bI_k, if_pos rfl, H.w6]
  exact H.go M2 h3 ((C2_S (by decide) h2).trans s1)
set_option maxRecDepth 100000 in
set_option maxHeartbeats 4000000 in
theorem q_law_1151 (p3 : Int) (d : Nat) (M : Mem) : E2 d r_law_law 1151 [(0, vR 90 0), (1, vR 11 0), (2, vR 12 179), (3, vI p3)] [] M = (if 0 ≤ (w32 (p3 + 1)) ∧ (w32 (p3 + 1)) < M.2.2.2.2.2.2 then (if 0 ≤ (w32 (p3 + 2)) ∧ (w32 (p3 + 2)) < M.2.2.2.2.2.2 then (bI (C2 d j_x_sure [vR 11 0, vI (M.2.2.2.2.2.1 (w32 (p3 + 1)).toNat), vI (M.2.2.2.2.2.1 (w32 (p3 + 2)).toNat)] M) fun x2 M1 => if 0 ≤ (w32 (p3 + 1)) ∧ (w32 (p3 + 1)) < M1.2.2.2.2.2.2 then (if 0 ≤ (w32 (p3 + 2)) ∧ (w32 (p3 + 2)) < M1.2.2.2.2.2.2 then (bI (C2 d j_m_sure [vR 12 179, vI (M1.2.2.2.2.2.1 (w32 (p3 + 1)).toNat), vI (M1.2.2.2.2.2.1 (w32 (p3 + 2)).toNat)] M1) fun x4 M3 => if x2 = x4 then (E2 d r_law_law 10 [(0, vR 90 0), (1, vR 11 0), (2, vR 12 179), (3, vI (w32 (p3 + 6)))] [] M3) else (some (some (vI 0), M3))) else none) else none) else none) else none) :=
  (DD_ex GR2 MT 29 d r_law_law (r_law_law.drop 1151) [(0, vR 90 0), (1, vR 11 0), (2, vR 12 179), (3, vI p3)] [] M).trans rfl
theorem l_1151 (H : LH d M s i) : Gd (E2 d r_law_law 1151 [(0, vR 90 0), (1, vR 11 0), (2, vR 12 179), (3, vI i)] [] M) := by
  rw [q_law_1151, H.hM, H.w1, H.w2, if_pos H.c1, if_pos H.c2]
  have oo : OpI d j_x_sure j_m_sure [vI (s.1 (i + 1).toNat), vI (s.1 (i + 2).toNat)] M := by
    first
      | exact o_sure H.inv (s.1 (i + 1).toNat) (s.1 (i + 2).toNat) (H.hr _)
      | exact o_sure _ H.inv (s.1 (i + 1).toNat) (s.1 (i + 2).toNat) (H.hr _)
      | exact o_sure _ _ H.inv (s.1 (i + 1).toNat) (s.1 (i + 2).toNat) (H.hr _)
  obtain ⟨x, M1, M2, h1, h2, h3⟩ := oo
  have s1 := (C2_S (by decide) h1).trans H.hM
  rw [h1, bI_k, s1, if_pos H.c1, if_pos H.c2, h2, bI_k, if_pos rfl, H.w6]
  exact H.go M2 h3 ((C2_S (by decide) h2).trans s1)
set_option maxRecDepth 100000 in
set_option maxHeartbeats 4000000 in
theorem q_law_1178 (p3 : Int) (d : Nat) (M : Mem) : E2 d r_law_law 1178 [(0, vR 90 0), (1, vR 11 0), (2, vR 12 179), (3, vI p3)] [] M = (if 0 ≤ (w32 (p3 + 1)) ∧ (w32 (p3 + 1)) < M.2.2.2.2.2.2 then (if 0 ≤ (w32 (p3 + 2)) ∧ (w32 (p3 + 2)) < M.2.2.2.2.2.2 then (bI (C2 d j_x_ask [vR 11 0, vI (M.2.2.2.2.2.1 (w32 (p3 + 1)).toNat), vI (M.2.2.2.2.2.1 (w32 (p3 + 2)).toNat)] M) fun x2 M1 => if 0 ≤ (w32 (p3 + 1)) ∧ (w32 (p3 + 1)) < M1.2.2.2.2.2.2 then (if 0 ≤ (w32 (p3 + 2)) ∧ (w32 (p3 + 2)) < M1.2.2.2.2.2.2 then (bI (C2 d j_m_ask [vR 12 179, vI (M1.2.2.2.2.2.1 (w32 (p3 + 1)).toNat), vI (M1.2.2.2.2.2.1 (w32 (p3 + 2)).toNat)] M1) fun x4 M3 => if x2 = x4 then (E2 d r_law_law 10 [(0, vR 90 0), (1, vR 11 0), (2, vR 12 179), (3, vI (w32 (p3 + 6)))] [] M3) else (some (some (vI 0), M3))) else none) else none) else none) else none) :=
  (DD_ex GR2 MT 29 d r_law_law (r_law_law.drop 1178) [(0, vR 90 0), (1, vR 11 0), (2, vR 12 179), (3, vI p3)] [] M).trans rfl
theorem l_1178 (H : LH d M s i) : Gd (E2 d r_law_law 1178 [(0, vR 90 0), (1, vR 11 0), (2, vR 12 179), (3, vI i)] [] M) := by
  rw [q_law_1178, H.hM, H.w1, H.w2, if_pos H.c1, if_pos H.c2]
  have oo : OpI d j_x_ask j_m_ask [vI (s.1 (i + 1).toNat), vI (s.1 (i + 2).toNat)] M := by
    first
      | exact o_ask H.inv (s.1 (i + 1).toNat) (s.1 (i + 2).toNat) (H.hr _)
      | exact o_ask _ H.inv (s.1 (i + 1).toNat) (s.1 (i + 2).toNat) (H.hr _)
      | exact o_ask _ _ H.inv (s.1 (i + 1).toNat) (s.1 (i + 2).toNat) (H.hr _)
  obtain ⟨x, M1, M2, h1, h2, h3⟩ := oo
  have s1 := (C2_S (by decide) h1).trans H.hM
  rw [h1, bI_k, s1, if_pos H.c1, if_pos H.c2, h2, bI_k, if_pos rfl, H.w6]
  exact H.go M2 h3 ((C2_S (by decide) h2).trans s1)
set_option maxRecDepth 100000 in
set_option maxHeartbeats 4000000 in
theorem q_law_1205 (p3 : Int) (d : Nat) (M : Mem) : E2 d r_law_law 1205 [(0, vR 90 0), (1, vR 11 0), (2, vR 12 179), (3, vI p3)] [] M = (if 0 ≤ (w32 (p3 + 1)) ∧ (w32 (p3 + 1)) < M.2.2.2.2.2.2 then (bI (C2 d j_x_live [vR 11 0, vI (M.2.2.2.2.2.1 (w32 (p3 + 1)).toNat)] M) fun x2 M1 => if 0 ≤ (w32 (p3 + 1)) ∧ (w32 (p3 + 1)) < M1.2.2.2.2.2.2 then (bI (C2 d j_m_live [vR 12 179, vI (M1.2.2.2.2.2.1 (w32 (p3 + 1)).toNat)] M1) fun x4 M3 => if x2 = x4 then (E2 d r_law_law 10 [(0, vR 90 0), (1, vR 11 0), (2, vR 12 179), (3, vI (w32 (p3 + 6)))] [] M3) else (some (some (vI 0), M3))) else none) else none) :=
  (DD_ex GR2 MT 19 d r_law_law (r_law_law.drop 1205) [(0, vR 90 0), (1, vR 11 0), (2, vR 12 179), (3, vI p3)] [] M).trans rfl
theorem l_1205 (H : LH d M s i) : Gd (E2 d r_law_law 1205 [(0, vR 90 0), (1, vR 11 0), (2, vR 12 179), (3, vI i)] [] M) := by
  rw [q_law_1205, H.hM, H.w1, if_pos H.c1]
  have oo : OpI d j_x_live j_m_live [vI (s.1 (i + 1).toNat)] M := by
    first
      | exact o_live H.inv H.hd (s.1 (i + 1).toNat)
      | exact o_live _ H.inv H.hd (s.1 (i + 1).toNat)
      | exact o_live _ _ H.inv H.hd (s.1 (i + 1).toNat)
  obtain ⟨x, M1, M2, h1, h2, h3⟩ := oo
  have s1 := (C2_S (by decide) h1).trans H.hM
  rw [h1, bI_k, s1, if_pos H.c1, h2, bI_k, if_pos rfl, H.w6]
  exact H.go M2 h3 ((C2_S (by decide) h2).trans s1)
set_option maxRecDepth 100000 in
set_option maxHeartbeats 4000000 in
theorem q_law_1222 (p3 : Int) (d : Nat) (M : Mem) : E2 d r_law_law 1222 [(0, vR 90 0), (1, vR 11 0), (2, vR 12 179), (3, vI p3)] [] M = (if 0 ≤ (w32 (p3 + 1)) ∧ (w32 (p3 + 1)) < M.2.2.2.2.2.2 then (bI (C2 d j_x_lived [vR 11 0, vI (M.2.2.2.2.2.1 (w32 (p3 + 1)).toNat)] M) fun x2 M1 => if 0 ≤ (w32 (p3 + 1)) ∧ (w32 (p3 + 1)) < M1.2.2.2.2.2.2 then (bI (C2 d j_m_lived [vR 12 179, vI (M1.2.2.2.2.2.1 (w32 (p3 + 1)).toNat)] M1) fun x4 M3 => if x2 = x4 then (E2 d r_law_law 10 [(0, vR 90 0), (1, vR 11 0), (2, vR 12 179), (3, vI (w32 (p3 + 6)))] [] M3) else (some (some (vI 0), M3))) else none) else none) :=
  (DD_ex GR2 MT 19 d r_law_law (r_law_law.drop 1222) [(0, vR 90 0), (1, vR 11 0), (2, vR 12 179), (3, vI p3)] [] M).trans rfl
theorem l_1222 (H : LH d M s i) : Gd (E2 d r_law_law 1222 [(0, vR 90 0), (1, vR 11 0), (2, vR 12 179), (3, vI i)] [] M) := by
  rw [q_law_1222, H.hM, H.w1, if_pos H.c1]
  have oo : OpI d j_x_lived j_m_lived [vI (s.1 (i + 1).toNat)] M := by
    first
      | exact o_lived H.inv (s.1 (i + 1).toNat)
      | exact o_lived _ H.inv (s.1 (i + 1).toNat)
      | exact o_lived _ _ H.inv (s.1 (i + 1).toNat)
  obtain ⟨x, M1, M2, h1, h2, h3⟩ := oo
  have s1 := (C2_S (by decide) h1).trans H.hM
  rw [h1, bI_k, s1, if_pos H.c1, h2, bI_k, if_pos rfl, H.w6]
  exact H.go M2 h3 ((C2_S (by decide) h2).trans s1)
set_option maxRecDepth 100000 in
set_option maxHeartbeats 4000000 in
theorem q_law_1239 (p3 : Int) (d : Nat) (M : Mem) : E2 d r_law_law 1239 [(0, vR 90 0), (1, vR 11 0), (2, vR 12 179), (3, vI p3)] [] M = (if 0 ≤ (w32 (p3 + 1)) ∧ (w32 (p3 + 1)) < M.2.2.2.2.2.2 then (if 0 ≤ (w32 (p3 + 2)) ∧ (w32 (p3 + 2)) < M.2.2.2.2.2.2 then (bI (C2 d j_x_mean [vR 11 0, vI (M.2.2.2.2.2.1 (w32 (p3 + 1)).toNat), vI (M.2.2.2.2.2.1 (w32 (p3 + 2)).toNat)] M) fun x2 M1 => if 0 ≤ (w32 (p3 + 1)) ∧ (w32 (p3 + 1)) < M1.2.2.2.2.2.2 then (if 0 ≤ (w32 (p3 + 2)) ∧ (w32 (p3 + 2)) < M1.2.2.2.2.2.2 then (bI (C2 d j_m_mean [vR 12 179, vI (M1.2.2.2.2.2.1 (w32 (p3 + 1)).toNat), vI (M1.2.2.2.2.2.1 (w32 (p3 + 2)).toNat)] M1) fun x4 M3 => if x2 = x4 then (E2 d r_law_law 10 [(0, vR 90 0), (1, vR 11 0), (2, vR 12 179), (3, vI (w32 (p3 + 6)))] [] M3) else (some (some (vI 0), M3))) else none) else none) else none) else none) :=
  (DD_ex GR2 MT 29 d r_law_law (r_law_law.drop 1239) [(0, vR 90 0), (1, vR 11 0), (2, vR 12 179), (3, vI p3)] [] M).trans rfl
theorem l_1239 (H : LH d M s i) : Gd (E2 d r_law_law 1239 [(0, vR 90 0), (1, vR 11 0), (2, vR 12 179), (3, vI i)] [] M) := by
  rw [q_law_1239, H.hM, H.w1, H.w2, if_pos H.c1, if_pos H.c2]
  have oo : OpI d j_x_mean j_m_mean [vI (s.1 (i + 1).toNat), vI (s.1 (i + 2).toNat)] M := by
    first
      | exact o_mean H.inv H.hd (s.1 (i + 1).toNat) (s.1 (i + 2).toNat)
      | exact o_mean _ H.inv H.hd (s.1 (i + 1).toNat) (s.1 (i + 2).toNat)
      | exact o_mean _ _ H.inv H.hd (s.1 (i + 1).toNat) (s.1 (i + 2).toNat)
  obtain ⟨x, M1, M2, h1, h2, h3⟩ := oo
  have s1 := (C2_S (by decide) h1).trans H.hM
  rw [h1, bI_k, s1, if_pos H.c1, if_pos H.c2, h2, bI_k, if_pos rfl, H.w6]
  exact H.go M2 h3 ((C2_S (by decide) h2).trans s1)
set_option maxRecDepth 100000 in
set_option maxHeartbeats 4000000 in
theorem q_law_1266 (p3 : Int) (d : Nat) (M : Mem) : E2 d r_law_law 1266 [(0, vR 90 0), (1, vR 11 0), (2, vR 12 179), (3, vI p3)] [] M = (bI (C2 d j_x_mark [vR 11 0] M) fun x2 M1 => bI (C2 d j_m_mark [vR 12 179] M1) fun x4 M3 => if x2 = x4 then (E2 d r_law_law 10 [(0, vR 90 0), (1, vR 11 0), (2, vR 12 179), (3, vI (w32 (p3 + 6)))] [] M3) else (some (some (vI 0), M3))) :=
  (DD_ex GR2 MT 9 d r_law_law (r_law_law.drop 1266) [(0, vR 90 0), (1, vR 11 0), (2, vR 12 179), (3, vI p3)] [] M).trans rfl
theorem l_1266 (H : LH d M s i) : Gd (E2 d r_law_law 1266 [(0, vR 90 0), (1, vR 11 0), (2, vR 12 179), (3, vI i)] [] M) := by
  rw [q_law_1266]
  have oo : OpI d j_x_mark j_m_mark [] M := by
    first
      | exact o_mark H.inv
      | exact o_mark _ H.inv
      | exact o_mark _ _ H.inv
  obtain ⟨x, M1, M2, h1, h2, h3⟩ := oo
  have s1 := (C2_S (by decide) h1).trans H.hM
  rw [h1, bI_k, h2, bI_k, if_pos rfl, H.w6]
  exact H.go M2 h3 ((C2_S (by decide) h2).trans s1)
set_option maxRecDepth 100000 in
set_option maxHeartbeats 4000000 in
theorem q_law_1273 (p3 : Int) (d : Nat) (M : Mem) : E2 d r_law_law 1273 [(0, vR 90 0), (1, vR 11 0), (2, vR 12 179), (3, vI p3)] [] M = (bI (C2 d j_x_back [vR 11 0] M) fun x2 M1 => bI (C2 d j_m_back [vR 12 179] M1) fun x4 M3 => if x2 = x4 then (E2 d r_law_law 10 [(0, vR 90 0), (1, vR 11 0), (2, vR 12 179), (3, vI (w32 (p3 + 6)))] [] M3) else (some (some (vI 0), M3))) :=
  (DD_ex GR2 MT 9 d r_law_law (r_law_law.drop 1273) [(0, vR 90 0), (1, vR 11 0), (2, vR 12 179), (3, vI p3)] [] M).trans rfl
theorem l_1273 (H : LH d M s i) : Gd (E2 d r_law_law 1273 [(0, vR 90 0), (1, vR 11 0), (2, vR 12 179), (3, vI i)] [] M) := by
  rw [q_law_1273]
  have oo : OpI d j_x_back j_m_back [] M := by
    first
      | exact o_back H.inv
      | exact o_back _ H.inv
      | exact o_back _ _ H.inv
  obtain ⟨x, M1, M2, h1, h2, h3⟩ := oo
  have s1 := (C2_S (by decide) h1).trans H.hM
  rw [h1, bI_k, h2, bI_k, if_pos rfl, H.w6]
  exact H.go M2 h3 ((C2_S (by decide) h2).trans s1)
set_option maxRecDepth 100000 in
set_option maxHeartbeats 4000000 in
theorem q_law_1280 (p3 : Int) (d : Nat) (M : Mem) : E2 d r_law_law 1280 [(0, vR 90 0), (1, vR 11 0), (2, vR 12 179), (3, vI p3)] [] M = (E2 d r_law_law 10 [(0, vR 90 0), (1, vR 11 0), (2, vR 12 179), (3, vI (w32 (p3 + 6)))] [] M) :=
  (DD_ex GR2 MT 4 d r_law_law (r_law_law.drop 1280) [(0, vR 90 0), (1, vR 11 0), (2, vR 12 179), (3, vI p3)] [] M).trans rfl
theorem l_1280 (H : LH d M s i) : Gd (E2 d r_law_law 1280 [(0, vR 90 0), (1, vR 11 0), (2, vR 12 179), (3, vI i)] [] M) := by
  rw [q_law_1280, H.w6]
  exact H.go M H.inv H.hM
theorem l_step (H : LH d M s i) : Gd (E2 d r_law_law 10 [(0, vR 90 0), (1, vR 11 0), (2, vR 12 179), (3, vI i)] [] M) := by
  have a := H.h0; have b := H.h6; have c := H.hn
  have e : w32 ((s.2 : Int) - 6) = (s.2 : Int) - 6 := w32s (by omega)
  rw [q_law, H.hM, e, if_neg (by omega), if_pos (by omega)]
  exact tb_all (P := Gd) (l_1280 H) _ 0 (List.forall_mem_cons.mpr ⟨l_22 H, (List.forall_mem_cons.mpr ⟨l_29 H, (List.forall_mem_cons.mpr ⟨l_37 H, (List.forall_mem_cons.mpr ⟨l_45 H, (List.forall_mem_cons.mpr ⟨l_82 H, (List.forall_mem_cons.mpr ⟨l_143 H, (List.forall_mem_cons.mpr ⟨l_171 H, (List.forall_mem_cons.mpr ⟨l_228 H, (List.forall_mem_cons.mpr ⟨l_285 H, (List.forall_mem_cons.mpr ⟨l_302 H, (List.forall_mem_cons.mpr ⟨l_319 H, (List.forall_mem_cons.mpr ⟨l_336 H, (List.forall_mem_cons.mpr ⟨l_353 H, (List.forall_mem_cons.mpr ⟨l_380 H, (List.forall_mem_cons.mpr ⟨l_407 H, (List.forall_mem_cons.mpr ⟨l_434 H, (List.forall_mem_cons.mpr ⟨l_451 H, (List.forall_mem_cons.mpr ⟨l_468 H, (List.forall_mem_cons.mpr ⟨l_485 H, (List.forall_mem_cons.mpr ⟨l_492 H, (List.forall_mem_cons.mpr ⟨l_529 H, (List.forall_mem_cons.mpr ⟨l_564 H, (List.forall_mem_cons.mpr ⟨l_581 H, (List.forall_mem_cons.mpr ⟨l_608 H, (List.forall_mem_cons.mpr ⟨l_635 H, (List.forall_mem_cons.mpr ⟨l_670 H, (List.forall_mem_cons.mpr ⟨l_705 H, (List.forall_mem_cons.mpr ⟨l_722 H, (List.forall_mem_cons.mpr ⟨l_739 H, (List.forall_mem_cons.mpr ⟨l_756 H, (List.forall_mem_cons.mpr ⟨l_773 H, (List.forall_mem_cons.mpr ⟨l_780 H, (List.forall_mem_cons.mpr ⟨l_787 H, (List.forall_mem_cons.mpr ⟨l_794 H, (List.forall_mem_cons.mpr ⟨l_801 H, (List.forall_mem_cons.mpr ⟨l_808 H, (List.forall_mem_cons.mpr ⟨l_815 H, (List.forall_mem_cons.mpr ⟨l_842 H, (List.forall_mem_cons.mpr ⟨l_859 H, (List.forall_mem_cons.mpr ⟨l_876 H, (List.forall_mem_cons.mpr ⟨l_883 H, (List.forall_mem_cons.mpr ⟨l_900 H, (List.forall_mem_cons.mpr ⟨l_917 H, (List.forall_mem_cons.mpr ⟨l_924 H, (List.forall_mem_cons.mpr ⟨l_941 H, (List.forall_mem_cons.mpr ⟨l_958 H, (List.forall_mem_cons.mpr ⟨l_1005 H, (List.forall_mem_cons.mpr ⟨l_1052 H, (List.forall_mem_cons.mpr ⟨l_1099 H, (List.forall_mem_cons.mpr ⟨l_1117 H, (List.forall_mem_cons.mpr ⟨l_1124 H, (List.forall_mem_cons.mpr ⟨l_1151 H, (List.forall_mem_cons.mpr ⟨l_1178 H, (List.forall_mem_cons.mpr ⟨l_1205 H, (List.forall_mem_cons.mpr ⟨l_1222 H, (List.forall_mem_cons.mpr ⟨l_1239 H, (List.forall_mem_cons.mpr ⟨l_1266 H, (List.forall_mem_cons.mpr ⟨l_1273 H, (fun t ht => nomatch ht)⟩)⟩)⟩)⟩)⟩)⟩)⟩)⟩)⟩)⟩)⟩)⟩)⟩)⟩)⟩)⟩)⟩)⟩)⟩)⟩)⟩)⟩)⟩)⟩)⟩)⟩)⟩)⟩)⟩)⟩)⟩)⟩)⟩)⟩)⟩)⟩)⟩)⟩)⟩)⟩)⟩)⟩)⟩)⟩)⟩)⟩)⟩)⟩)⟩)⟩)⟩)⟩)⟩)⟩)⟩)⟩)⟩)⟩)
theorem l_loop {d : Nat} {s : (Nat → Int) × Nat} (hn : (s.2 : Int) ≤ 2147483647) (hr : ∀ k, rI (s.1 k)) (hd : 3 ≤ d) : ∀ (k : Nat) (i : Int) (M : Mem), Inv M → M.2.2.2.2.2 = s → 0 ≤ i → (s.2 : Int) - i ≤ 6 * (k : Int) → Gd (E2 d r_law_law 10 [(0, vR 90 0), (1, vR 11 0), (2, vR 12 179), (3, vI i)] [] M)
  | k, i, M, hI, hM, h0, hk => by
    have e : w32 ((s.2 : Int) - 6) = (s.2 : Int) - 6 := w32s (by omega)
    by_cases q : (s.2 : Int) - 6 < i
    · rw [q_law, hM, e, if_pos q]
      exact ⟨M, rfl⟩
    · cases k with
      | zero => exact absurd hk (by omega)
      | succ k =>
        exact l_step ⟨hI, hM, h0, by omega, hn, hr, hd, fun M2 g1 g2 => l_loop hn hr hd k (i + 6) M2 g1 g2 (by omega) (by omega)⟩
theorem law_runs {d : Nat} {s : (Nat → Int) × Nat} {M : Mem} (hI : Inv M) (hM : M.2.2.2.2.2 = s) (hn : (s.2 : Int) ≤ 2147483647) (hr : ∀ k, rI (s.1 k)) (hd : 3 ≤ d) : ∃ n M', run GR2 MT n d r_law_law (r_law_law.drop 10) [(0, vR 90 0), (1, vR 11 0), (2, vR 12 179), (3, vI 0)] [] M = some (some (vI 1), M') := by
  obtain ⟨M', h⟩ := l_loop hn hr hd s.2 0 M hI hM (Int.le_refl 0) (by omega)
  obtain ⟨n, e⟩ := (DD_some GR2 MT).mp h
  exact ⟨n, M', e⟩
end LawLoop
