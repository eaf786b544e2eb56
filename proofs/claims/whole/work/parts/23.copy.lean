/-! copies of rows -/
def cpyI (M : Mem) (a1 a2 : Nat) (sp dp n : Int) : Mem := (fun b j => if b = a2 ∧ dp.toNat ≤ j ∧ j < dp.toNat + n.toNat then M.1 a1 (sp.toNat + (j - dp.toNat)) else M.1 b j, M.2)
def cpyL (M : Mem) (a1 a2 : Nat) (sp dp n : Int) : Mem := (M.1, fun b j => if b = a2 ∧ dp.toNat ≤ j ∧ j < dp.toNat + n.toNat then M.2.1 a1 (sp.toNat + (j - dp.toNat)) else M.2.1 b j, M.2.2)
def rwI (M : Mem) (a : Nat) : Nat → Int32 := fun j => Int32.ofInt (M.1 a j)
def rwL (M : Mem) (a : Nat) : Nat → Int64 := fun j => Int64.ofInt (M.2.1 a j)
section Cpy
variable {p : Program} {l : Launch} {e : Env} {R : Room} {s : State} {m : MethodId} {args : Array Value} {below : List Frame} {meth : Method} {c : Code} {H : Heap} {locs : List Loc} {cells slots : Nat} {Q : State → Prop} {cc : ByteArray} {pc : Nat} {ls : Array Slot} {rest : List Value}
variable {ad : Nat → Nat → Nat} {base : Nat} {D : va_G} {H0 : Heap} {gr : Gr} {M : Mem} {a1 t1 a2 t2 idx : Nat} {own : String} {sp dp n : Int}
theorem hr_copyI (hx : p.tables.exec = Jvm.exec) (hb : c.code = cc) (hml : c.maxLocals = ls.size) (hown : s.vm.findClass own = some m.cls) (hlink : (Cond.methodLink own idx arraycopyName).before args s = true) (hnat : (Cond.native arraycopyName).before args s = true) (hstat : (Cond.static arraycopyName).before args s = true) (hini : (Cond.initialized "java/lang/System").before args s = true)
    (hT1 : (tgs M)[a1]? = some t1) (hT2 : (tgs M)[a2]? = some t2) (k1 : akind t1 = 0) (k2 : akind t2 = 0) (hH : HR ad base D H0 gr s M H) (r1 : rI sp) (r2 : rI dp) (r3 : rI n) (hc : 0 ≤ sp ∧ 0 ≤ dp ∧ 0 ≤ n ∧ sp + n ≤ alen t1 ∧ dp + n ≤ alen t2)
    (hframes : 1 ≤ R.frames) (hlocals : (rest.map fun v => v.category).sum + (nativeFrameWords "java/lang/System" "arraycopy" 5 + 11) ≤ R.locals) (hd : decode cc pc = .ok (.invokestatic idx, 3))
    (kk : ∀ (H1 : Heap) (L : List Loc), (∀ q ∈ L, base ≤ q.base) → HR ad base D H0 gr s (cpyI M a1 a2 sp dp n) H1 → W p l e R s m args below meth c H1 (locs ++ L) cells slots Q (F0 m (pc + 3) ls rest)) : W p l e R s m args below meth c H locs cells slots Q (F0 m pc ls (.int (Int32.ofInt n) :: .int (Int32.ofInt dp) :: .ref (base + a2) :: .int (Int32.ofInt sp) :: .ref (base + a1) :: rest)) := by
  obtain ⟨ca, h1, hP, h3, h4⟩ := hH
  have g1 : 20 ≤ t1 := Nat.le_of_ble_eq_true (ak_ge k1 (by omega))
  have g2 : 20 ≤ t2 := Nat.le_of_ble_eq_true (ak_ge k2 (by omega))
  have he1 : (wsOf ad base gr M ca)[a1]? = some (base + a1, .inl (ca a1, alen t1, .inl (rwI M a1))) := by rw [ws_at ad hT1, eOf_int (Or.inl k1)]; rfl
  have he2 : (wsOf ad base gr M ca)[a2]? = some (base + a2, .inl (ca a2, alen t2, .inl (rwI M a2))) := by rw [ws_at ad hT2, eOf_int (Or.inl k2)]; rfl
  have hc0 : H[base + a1]? = some (vp_cell (ca a1) (alen t1, .inl (rwI M a1))) := hP a1 _ he1
  have hc1 : H[base + a2]? = some (vp_cell (ca a2) (alen t2, .inl (rwI M a2))) := hP a2 _ he2
  have hA1 := (h3 a1 t1 hT1 g1).1 (alen t1) (fun j => .int (rwI M a1 j))
  have hA2 := (h3 a2 t2 hT2 g2).1 (alen t2) (fun j => .int (rwI M a2 j))
  rw [aty_0 k1] at hA1
  rw [aty_0 k2] at hA2
  obtain ⟨-, kk0, hk0, cm0, hkk0⟩ := hA1
  obtain ⟨-, kk1, hk1, cm1, hkk1⟩ := hA2
  have nz : ∀ z : Int, rI z → 0 ≤ z → ¬ Int32.ofInt z < 0 := fun z rz h0 q => by
    rw [show (0 : Int32) = Int32.ofInt 0 from rfl, ofI_lt rz rI_0] at q; omega
  intro T hT X
  obtain ⟨vm', X', step⟩ := X.arraycopy hx hown hlink hnat hstat hini (src := base + a1) (dst := base + a2) (cs := vp_cell (ca a1) (alen t1, .inl (rwI M a1))) (cd := vp_cell (ca a2) (alen t2, .inl (rwI M a2))) (srcPos := Int32.ofInt sp) (destPos := Int32.ofInt dp) (n := Int32.ofInt n) (by rw [hT]; exact hc0) (by rw [hT]; exact hc1)
    (fun _ h => by cases h) (fun _ h => by cases h) (fun h => by cases h) (fun h => by cases h) hk0 hk1 hkk0 hkk1 (by simp [refKind]) (nz sp r1 hc.1) (nz dp r2 hc.2.1) (nz n r3 hc.2.2.1)
    (by rw [toI' r1, toI' r3]; show ¬ _ > ((arrV (ca a1) (alen t1) (fun j => .int (rwI M a1 j))).slots.size : Int); rw [arrV_size]; omega)
    (by rw [toI' r2, toI' r3]; show ¬ _ > ((arrV (ca a2) (alen t2) (fun j => .int (rwI M a2 j))).slots.size : Int); rw [arrV_size]; omega)
    (fun vm₁ _ i hi => by
      rw [clampI r3] at hi
      have e9 : (vp_cell (ca a1) (alen t1, .inl (rwI M a1))).slots.getD ((Int32.ofInt sp).toNatClampNeg + i) .null = .int (rwI M a1 ((Int32.ofInt sp).toNatClampNeg + i)) := by
        show (arrV (ca a1) (alen t1) (fun j => .int (rwI M a1 j))).slots.getD _ _ = _
        rw [Array.getD_eq_getD_getElem?, arrV_read _ _ (by rw [clampI r1]; omega)]
        rfl
      exact ⟨by rw [e9]; rfl, by rw [e9]; exact trivial⟩)
    (g := F0 m pc ls (.int (Int32.ofInt n) :: .int (Int32.ofInt dp) :: .ref (base + a2) :: .int (Int32.ofInt sp) :: .ref (base + a1) :: rest)) rfl (by rw [hml]) (rest := rest) rfl (by rw [hb]; exact hd) hframes (by show 2 * 0 + _ + _ ≤ _; omega)
  obtain ⟨cf, hcf⟩ : ∃ cf, cf = va_cpy (rwI M a1) (rwI M a2) (Int32.ofInt sp).toNatClampNeg (Int32.ofInt dp).toNatClampNeg (Int32.ofInt n).toNatClampNeg := ⟨_, rfl⟩
  have e1 : copied (vp_cell (ca a1) (alen t1, .inl (rwI M a1))) (vp_cell (ca a2) (alen t2, .inl (rwI M a2))) (Int32.ofInt sp) (Int32.ofInt dp) (Int32.ofInt n) = vp_cell (ca a2) (alen t2, .inl (cf)) := by
    rw [hcf]
    exact va_copied (fun z => .int z) (ca a1) (ca a2) (rwI M a1) (rwI M a2) (by rw [clampI r1, clampI r3]; omega)
  rw [e1] at X' step
  have hl : base + a2 < H.size := (Array.getElem?_eq_some_iff.mp hc1).1
  have oq : ∀ (q : Nat) (cell : Cell), q ≠ base + a2 → (H.setIfInBounds (base + a2) cell)[q]? = H[q]? := fun q cell hq => by simp [Array.getElem?_setIfInBounds, Ne.symm hq]
  have hcf2 : rwI (cpyI M a1 a2 sp dp n) a2 = cf := by
    funext j
    rw [hcf, clampI r1, clampI r2, clampI r3]
    unfold va_cpy
    show Int32.ofInt (if a2 = a2 ∧ dp.toNat ≤ j ∧ j < dp.toNat + n.toNat then M.1 a1 (sp.toNat + (j - dp.toNat)) else M.1 a2 j) = _
    by_cases hj : dp.toNat ≤ j ∧ j < dp.toNat + n.toNat
    · rw [if_pos ⟨rfl, hj⟩, if_pos hj]; rfl
    · rw [if_neg (fun q => hj q.2), if_neg hj]; rfl
  have hM' : eOf ad gr (cpyI M a1 a2 sp dp n) ca a2 t2 = .inl (ca a2, alen t2, .inl (cf)) := by
    rw [eOf_int (Or.inl k2)]; rw [← hcf2]; rfl
  have hset := ws_set ad (base := base) (gr := gr) (M := M) (M' := cpyI M a1 a2 sp dp n) (ca := ca) rfl hT2 hM' (fun i t' _ hi => eOf_congr ca (by funext j; show (if i = a2 ∧ _ then _ else M.1 i j) = _; rw [if_neg (fun q => hi q.1)]) (by rfl) (fun f => by cases gr <;> rfl) (fun t j => by cases gr <;> rfl))
  have hH' : HR ad base D H0 gr s (cpyI M a1 a2 sp dp n) (H.setIfInBounds (base + a2) (vp_cell (ca a2) (alen t2, .inl (cf)))) := by
    refine ⟨ca, ?_, ?_, h3, fun q hq => ?_⟩
    · rw [Array.size_setIfInBounds]; exact h1
    · rw [← hset]
      exact hP.set (ws_D ad base gr M ca) he2 (show (H.setIfInBounds (base + a2) _)[base + a2]? = some _ by simp [Array.getElem?_setIfInBounds, hl]) (fun q hq => oq q _ hq)
    · rw [oq q _ (fun h => by have h' : q = base + a2 := h; omega)]
      exact h4 q hq
  have hheap : ((T.setVm vm').setCell (base + a2) (vp_cell (ca a2) (alen t2, .inl (cf)))).heap = H.setIfInBounds (base + a2) (vp_cell (ca a2) (alen t2, .inl (cf))) := by rw [← hT]; rfl
  obtain ⟨t, q1, q2⟩ := kk _ _ (fun q hq => by
      obtain ⟨z, -, hz⟩ := List.mem_map.mp hq
      rw [← hz]
      exact Nat.le_add_right _ _) hH' _ hheap X'
  exact ⟨t, step t q1, q2⟩
theorem hr_copyL (hx : p.tables.exec = Jvm.exec) (hb : c.code = cc) (hml : c.maxLocals = ls.size) (hown : s.vm.findClass own = some m.cls) (hlink : (Cond.methodLink own idx arraycopyName).before args s = true) (hnat : (Cond.native arraycopyName).before args s = true) (hstat : (Cond.static arraycopyName).before args s = true) (hini : (Cond.initialized "java/lang/System").before args s = true)
    (hT1 : (tgs M)[a1]? = some t1) (hT2 : (tgs M)[a2]? = some t2) (k1 : akind t1 = 1) (k2 : akind t2 = 1) (hH : HR ad base D H0 gr s M H) (r1 : rI sp) (r2 : rI dp) (r3 : rI n) (hc : 0 ≤ sp ∧ 0 ≤ dp ∧ 0 ≤ n ∧ sp + n ≤ alen t1 ∧ dp + n ≤ alen t2)
    (hframes : 1 ≤ R.frames) (hlocals : (rest.map fun v => v.category).sum + (nativeFrameWords "java/lang/System" "arraycopy" 5 + 11) ≤ R.locals) (hd : decode cc pc = .ok (.invokestatic idx, 3))
    (kk : ∀ (H1 : Heap) (L : List Loc), (∀ q ∈ L, base ≤ q.base) → HR ad base D H0 gr s (cpyL M a1 a2 sp dp n) H1 → W p l e R s m args below meth c H1 (locs ++ L) cells slots Q (F0 m (pc + 3) ls rest)) : W p l e R s m args below meth c H locs cells slots Q (F0 m pc ls (.int (Int32.ofInt n) :: .int (Int32.ofInt dp) :: .ref (base + a2) :: .int (Int32.ofInt sp) :: .ref (base + a1) :: rest)) := by
  obtain ⟨ca, h1, hP, h3, h4⟩ := hH
  have g1 : 20 ≤ t1 := Nat.le_of_ble_eq_true (ak_ge k1 (by omega))
  have g2 : 20 ≤ t2 := Nat.le_of_ble_eq_true (ak_ge k2 (by omega))
  have he1 : (wsOf ad base gr M ca)[a1]? = some (base + a1, .inl (ca a1, alen t1, .inr (.inl (rwL M a1)))) := by rw [ws_at ad hT1, eOf_long (id k1)]; rfl
  have he2 : (wsOf ad base gr M ca)[a2]? = some (base + a2, .inl (ca a2, alen t2, .inr (.inl (rwL M a2)))) := by rw [ws_at ad hT2, eOf_long (id k2)]; rfl
  have hc0 : H[base + a1]? = some (vp_cell (ca a1) (alen t1, .inr (.inl (rwL M a1)))) := hP a1 _ he1
  have hc1 : H[base + a2]? = some (vp_cell (ca a2) (alen t2, .inr (.inl (rwL M a2)))) := hP a2 _ he2
  have hA1 := (h3 a1 t1 hT1 g1).1 (alen t1) (fun j => .long (rwL M a1 j))
  have hA2 := (h3 a2 t2 hT2 g2).1 (alen t2) (fun j => .long (rwL M a2 j))
  rw [aty_1 k1] at hA1
  rw [aty_1 k2] at hA2
  obtain ⟨-, kk0, hk0, cm0, hkk0⟩ := hA1
  obtain ⟨-, kk1, hk1, cm1, hkk1⟩ := hA2
  have nz : ∀ z : Int, rI z → 0 ≤ z → ¬ Int32.ofInt z < 0 := fun z rz h0 q => by
    rw [show (0 : Int32) = Int32.ofInt 0 from rfl, ofI_lt rz rI_0] at q; omega
  intro T hT X
  obtain ⟨vm', X', step⟩ := X.arraycopy hx hown hlink hnat hstat hini (src := base + a1) (dst := base + a2) (cs := vp_cell (ca a1) (alen t1, .inr (.inl (rwL M a1)))) (cd := vp_cell (ca a2) (alen t2, .inr (.inl (rwL M a2)))) (srcPos := Int32.ofInt sp) (destPos := Int32.ofInt dp) (n := Int32.ofInt n) (by rw [hT]; exact hc0) (by rw [hT]; exact hc1)
    (fun _ h => by cases h) (fun _ h => by cases h) (fun h => by cases h) (fun h => by cases h) hk0 hk1 hkk0 hkk1 (by simp [refKind]) (nz sp r1 hc.1) (nz dp r2 hc.2.1) (nz n r3 hc.2.2.1)
    (by rw [toI' r1, toI' r3]; show ¬ _ > ((arrV (ca a1) (alen t1) (fun j => .long (rwL M a1 j))).slots.size : Int); rw [arrV_size]; omega)
    (by rw [toI' r2, toI' r3]; show ¬ _ > ((arrV (ca a2) (alen t2) (fun j => .long (rwL M a2 j))).slots.size : Int); rw [arrV_size]; omega)
    (fun vm₁ _ i hi => by
      rw [clampI r3] at hi
      have e9 : (vp_cell (ca a1) (alen t1, .inr (.inl (rwL M a1)))).slots.getD ((Int32.ofInt sp).toNatClampNeg + i) .null = .long (rwL M a1 ((Int32.ofInt sp).toNatClampNeg + i)) := by
        show (arrV (ca a1) (alen t1) (fun j => .long (rwL M a1 j))).slots.getD _ _ = _
        rw [Array.getD_eq_getD_getElem?, arrV_read _ _ (by rw [clampI r1]; omega)]
        rfl
      exact ⟨by rw [e9]; rfl, by rw [e9]; exact trivial⟩)
    (g := F0 m pc ls (.int (Int32.ofInt n) :: .int (Int32.ofInt dp) :: .ref (base + a2) :: .int (Int32.ofInt sp) :: .ref (base + a1) :: rest)) rfl (by rw [hml]) (rest := rest) rfl (by rw [hb]; exact hd) hframes (by show 2 * 0 + _ + _ ≤ _; omega)
  obtain ⟨cf, hcf⟩ : ∃ cf, cf = va_cpy (rwL M a1) (rwL M a2) (Int32.ofInt sp).toNatClampNeg (Int32.ofInt dp).toNatClampNeg (Int32.ofInt n).toNatClampNeg := ⟨_, rfl⟩
  have e1 : copied (vp_cell (ca a1) (alen t1, .inr (.inl (rwL M a1)))) (vp_cell (ca a2) (alen t2, .inr (.inl (rwL M a2)))) (Int32.ofInt sp) (Int32.ofInt dp) (Int32.ofInt n) = vp_cell (ca a2) (alen t2, .inr (.inl (cf))) := by
    rw [hcf]
    exact va_copied (fun z => .long z) (ca a1) (ca a2) (rwL M a1) (rwL M a2) (by rw [clampI r1, clampI r3]; omega)
  rw [e1] at X' step
  have hl : base + a2 < H.size := (Array.getElem?_eq_some_iff.mp hc1).1
  have oq : ∀ (q : Nat) (cell : Cell), q ≠ base + a2 → (H.setIfInBounds (base + a2) cell)[q]? = H[q]? := fun q cell hq => by simp [Array.getElem?_setIfInBounds, Ne.symm hq]
  have hcf2 : rwL (cpyL M a1 a2 sp dp n) a2 = cf := by
    funext j
    rw [hcf, clampI r1, clampI r2, clampI r3]
    unfold va_cpy
    show Int64.ofInt (if a2 = a2 ∧ dp.toNat ≤ j ∧ j < dp.toNat + n.toNat then M.2.1 a1 (sp.toNat + (j - dp.toNat)) else M.2.1 a2 j) = _
    by_cases hj : dp.toNat ≤ j ∧ j < dp.toNat + n.toNat
    · rw [if_pos ⟨rfl, hj⟩, if_pos hj]; rfl
    · rw [if_neg (fun q => hj q.2), if_neg hj]; rfl
  have hM' : eOf ad gr (cpyL M a1 a2 sp dp n) ca a2 t2 = .inl (ca a2, alen t2, .inr (.inl (cf))) := by
    rw [eOf_long (id k2)]; rw [← hcf2]; rfl
  have hset := ws_set ad (base := base) (gr := gr) (M := M) (M' := cpyL M a1 a2 sp dp n) (ca := ca) rfl hT2 hM' (fun i t' _ hi => eOf_congr ca (by rfl) (by funext j; show (if i = a2 ∧ _ then _ else M.2.1 i j) = _; rw [if_neg (fun q => hi q.1)]) (fun f => by cases gr <;> rfl) (fun t j => by cases gr <;> rfl))
  have hH' : HR ad base D H0 gr s (cpyL M a1 a2 sp dp n) (H.setIfInBounds (base + a2) (vp_cell (ca a2) (alen t2, .inr (.inl (cf))))) := by
    refine ⟨ca, ?_, ?_, h3, fun q hq => ?_⟩
    · rw [Array.size_setIfInBounds]; exact h1
    · rw [← hset]
      exact hP.set (ws_D ad base gr M ca) he2 (show (H.setIfInBounds (base + a2) _)[base + a2]? = some _ by simp [Array.getElem?_setIfInBounds, hl]) (fun q hq => oq q _ hq)
    · rw [oq q _ (fun h => by have h' : q = base + a2 := h; omega)]
      exact h4 q hq
  have hheap : ((T.setVm vm').setCell (base + a2) (vp_cell (ca a2) (alen t2, .inr (.inl (cf))))).heap = H.setIfInBounds (base + a2) (vp_cell (ca a2) (alen t2, .inr (.inl (cf)))) := by rw [← hT]; rfl
  obtain ⟨t, q1, q2⟩ := kk _ _ (fun q hq => by
      obtain ⟨z, -, hz⟩ := List.mem_map.mp hq
      rw [← hz]
      exact Nat.le_add_right _ _) hH' _ hheap X'
  exact ⟨t, step t q1, q2⟩
end Cpy
theorem ac_in : (inTbl 744 (.native arraycopyName) && (inTbl 743 (.static arraycopyName) && inTbl 167 (.initialized "java/lang/System"))) = true := by decide +kernel
theorem MI_out2 {j : Nat} (h : 385 ≤ j) : (MI j).2.2.2.2.1 = 0 := by
  unfold MI
  by_cases h1 : j / 20 < 20
  · have e : j / 20 = 19 := by omega
    rw [e]
    have : (miT.getD 19 []).length = 5 := by decide +kernel
    rw [List.getD_eq_getElem?_getD (l := miT.getD 19 []), List.getElem?_eq_none (by omega)]
    rfl
  · have : miT.length = 20 := by decide +kernel
    rw [List.getD_eq_getElem?_getD (l := miT), List.getElem?_eq_none (by omega)]
    rfl
theorem rk_ac {j k : Nat} (h : acH (MI j).2.2.2.2.1 k = true) : 1 ≤ rkO j := by
  rcases Nat.lt_or_ge j 385 with q | q
  · exact of_decide_eq_true (List.all_eq_true.mp rk_dec j (List.mem_range.mpr q))
  · rw [MI_out2 q] at h
    unfold acH at h
    obtain ⟨q, hm, h1⟩ := List.any_eq_true.mp h
    simp only [Bool.and_eq_true, beq_iff_eq] at h1
    have h9 : acT.all (fun q => decide (q.1 ≠ 0)) = true := by decide +kernel
    exact absurd h1.1 (of_decide_eq_true (List.all_eq_true.mp h9 q hm))
theorem Kn.ac {D : va_G} {Xt : State → Prop} {U : State} (h : Kn D Xt U) {o k : Nat} (hq : acH o k = true) (a : Array Value) : (Cond.methodLink (ownN o) k arraycopyName).before a U = true := by
  unfold acH at hq
  obtain ⟨q, hm, h1⟩ := List.any_eq_true.mp hq
  simp only [Bool.and_eq_true, beq_iff_eq] at h1
  obtain ⟨e1, e2⟩ := h1
  have h3 := h.tbl (List.all_eq_true.mp acT_ok q hm) a
  subst e1; subst e2
  exact h3
theorem MOk.cpyI {gr : Gr} {sc : (Nat → Int) × Nat} {M : Mem} {a1 a2 t2 : Nat} {sp dp n : Int} (h : MOk gr sc M) (hT : (tgs M)[a2]? = some t2) : MOk gr sc (cpyI M a1 a2 sp dp n) := by
  obtain ⟨h1, h2, h3, h4, h5, h6, h7⟩ := h
  have ha : a2 < (tgs M).length := (List.getElem?_eq_some_iff.mp hT).1
  refine ⟨fun b j => ?_, h2, h3, by cases gr <;> exact h4, by cases gr <;> exact h5, fun b hb => ⟨fun j => ?_, (h6 b hb).2⟩, h7⟩
  · show rI (if b = a2 ∧ _ then _ else _)
    split
    · exact h1 _ _
    · exact h1 b j
  · show (if b = a2 ∧ _ then _ else _) = 0
    rw [if_neg (fun q => by have : (tgs M).length ≤ b := hb; omega)]
    exact (h6 b hb).1 j
theorem MOk.cpyL {gr : Gr} {sc : (Nat → Int) × Nat} {M : Mem} {a1 a2 t2 : Nat} {sp dp n : Int} (h : MOk gr sc M) (hT : (tgs M)[a2]? = some t2) : MOk gr sc (cpyL M a1 a2 sp dp n) := by
  obtain ⟨h1, h2, h3, h4, h5, h6, h7⟩ := h
  have ha : a2 < (tgs M).length := (List.getElem?_eq_some_iff.mp hT).1
  refine ⟨h1, fun b j => ?_, h3, by cases gr <;> exact h4, by cases gr <;> exact h5, fun b hb => ⟨(h6 b hb).1, fun j => ?_, (h6 b hb).2.2⟩, h7⟩
  · show rL (if b = a2 ∧ _ then _ else _)
    split
    · exact h2 _ _
    · exact h2 b j
  · show (if b = a2 ∧ _ then _ else _) = 0
    rw [if_neg (fun q => by have : (tgs M).length ≤ b := hb; omega)]
    exact (h6 b hb).2.1 j
section Sp3
variable {l : Launch} {ad : Nat → Nat → Nat} {base : Nat} {D : va_G} {H0 : Heap} {gr : Gr} {sc : (Nat → Int) × Nat} {Xt : State → Prop}
theorem sp_dadd (had : ∀ t a, t < 90 → ad t a = base + a) : SpP l ad base D H0 gr sc Xt .dadd := by
  intro j d p e R s m args below meth c Q N0 S0 pc ls H locs lv st M res raw len hCX hd hok hF hN hS K h hk
  obtain ⟨hx, hb, hml, hown, hKn, hnm, hfr, hlo⟩ := hCX
  obtain ⟨n, s1, rfl, h⟩ := pI_some h
  obtain ⟨dp, s2, rfl, h⟩ := pI_some h
  obtain ⟨t2, a2, s3, rfl, h⟩ := pR_some h
  obtain ⟨sp, s4, rfl, h⟩ := pI_some h
  obtain ⟨t1, a1, s5, rfl, h⟩ := pR_some h
  obtain ⟨h0, h⟩ := pB_some h
  simp only [Bool.and_eq_true] at h0
  have k1 := Nat.eq_of_beq_eq_true h0.1
  have k2 := Nat.eq_of_beq_eq_true h0.2.1
  have h8 := Nat.le_of_ble_eq_true h0.2.2
  obtain ⟨hc, h⟩ := if_some h
  obtain ⟨hr1, hac, hl3⟩ := of_decide_eq_true hok
  rw [hr1, hl3] at hd
  have b1 : t1 < 90 := tag_lt k1 (by omega)
  have b2 : t2 < 90 := tag_lt k2 (by omega)
  have hT1 := good_tag hF.pop.pop.pop.pop.top b1
  have hT2 := good_tag hF.pop.pop.top b2
  have hin := ac_in
  simp only [Bool.and_eq_true] at hin
  have hrk := rk_ac hac
  show W p l e R s m args below meth c H locs (cN M - N0) (sN M - S0) Q (F0 m pc ls (.int (Int32.ofInt n) :: .int (Int32.ofInt dp) :: .ref (ad t2 a2) :: .int (Int32.ofInt sp) :: .ref (ad t1 a1) :: s5.map (enc ad)))
  rw [had t1 a1 b1, had t2 a2 b2]
  refine hr_copyI hx hb (hml.trans hF.1.1.symm) hown (hKn.ac hac args) (hKn.tbl hin.1 args) (hKn.tbl hin.2.1 args) (hKn.tbl hin.2.2 args) hT1 hT2 k1 k2 hF.2.2.2.1 hF.pop.pop.pop.top hF.pop.top hF.top hc (by omega) (by rw [wsum_cat]; show _ + (7 + 11) ≤ _; omega) hd (fun H1 L hL hH1 => ?_)
  have k := (hk lv s5 (cpyI M a1 a2 sp dp n) ⟨[], (List.append_nil _).symm⟩ h).2 ls H1 (locs ++ L) ⟨hF.1, hF.2.1, hF.pop.pop.pop.pop.pop.2.2.1, hH1, hF.2.2.2.2.1.cpyI hT2, fun q hq => by
    rcases List.mem_append.mp hq with hq | hq
    · exact hF.2.2.2.2.2 q hq
    · exact hL q hq⟩
  rw [hl3] at k
  exact k
theorem sp_dsub (had : ∀ t a, t < 90 → ad t a = base + a) : SpP l ad base D H0 gr sc Xt .dsub := by
  intro j d p e R s m args below meth c Q N0 S0 pc ls H locs lv st M res raw len hCX hd hok hF hN hS K h hk
  obtain ⟨hx, hb, hml, hown, hKn, hnm, hfr, hlo⟩ := hCX
  obtain ⟨n, s1, rfl, h⟩ := pI_some h
  obtain ⟨dp, s2, rfl, h⟩ := pI_some h
  obtain ⟨t2, a2, s3, rfl, h⟩ := pR_some h
  obtain ⟨sp, s4, rfl, h⟩ := pI_some h
  obtain ⟨t1, a1, s5, rfl, h⟩ := pR_some h
  obtain ⟨h0, h⟩ := pB_some h
  simp only [Bool.and_eq_true] at h0
  have k1 := Nat.eq_of_beq_eq_true h0.1
  have k2 := Nat.eq_of_beq_eq_true h0.2.1
  have h8 := Nat.le_of_ble_eq_true h0.2.2
  obtain ⟨hc, h⟩ := if_some h
  obtain ⟨hr1, hac, hl3⟩ := of_decide_eq_true hok
  rw [hr1, hl3] at hd
  have b1 : t1 < 90 := tag_lt k1 (by omega)
  have b2 : t2 < 90 := tag_lt k2 (by omega)
  have hT1 := good_tag hF.pop.pop.pop.pop.top b1
  have hT2 := good_tag hF.pop.pop.top b2
  have hin := ac_in
  simp only [Bool.and_eq_true] at hin
  have hrk := rk_ac hac
  show W p l e R s m args below meth c H locs (cN M - N0) (sN M - S0) Q (F0 m pc ls (.int (Int32.ofInt n) :: .int (Int32.ofInt dp) :: .ref (ad t2 a2) :: .int (Int32.ofInt sp) :: .ref (ad t1 a1) :: s5.map (enc ad)))
  rw [had t1 a1 b1, had t2 a2 b2]
  refine hr_copyL hx hb (hml.trans hF.1.1.symm) hown (hKn.ac hac args) (hKn.tbl hin.1 args) (hKn.tbl hin.2.1 args) (hKn.tbl hin.2.2 args) hT1 hT2 k1 k2 hF.2.2.2.1 hF.pop.pop.pop.top hF.pop.top hF.top hc (by omega) (by rw [wsum_cat]; show _ + (7 + 11) ≤ _; omega) hd (fun H1 L hL hH1 => ?_)
  have k := (hk lv s5 (cpyL M a1 a2 sp dp n) ⟨[], (List.append_nil _).symm⟩ h).2 ls H1 (locs ++ L) ⟨hF.1, hF.2.1, hF.pop.pop.pop.pop.pop.2.2.1, hH1, hF.2.2.2.2.1.cpyL hT2, fun q hq => by
    rcases List.mem_append.mp hq with hq | hq
    · exact hF.2.2.2.2.2 q hq
    · exact hL q hq⟩
  rw [hl3] at k
  exact k
end Sp3
