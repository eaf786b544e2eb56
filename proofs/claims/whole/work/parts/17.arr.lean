/-! rows -/
theorem ak_ge {t n : Nat} (h : akind t = n) (hn : n ≤ 4) : Nat.ble 20 t = true := by
  cases hq : Nat.ble 20 t with
  | true => rfl
  | false =>
    have e : akind t = 9 := by
      show (bif Nat.ble 20 t then (atab.getD (t - 20) (9, 0, 0)).1 else 9) = 9
      rw [hq]; rfl
    omega
theorem eOf_int {ad : Nat → Nat → Nat} {gr : Gr} {M : Mem} {ca : Nat → ClassId} {a t : Nat} (h : akind t = 0 ∨ akind t = 2) : eOf ad gr M ca a t = .inl (ca a, alen t, .inl fun j => Int32.ofInt (M.1 a j)) := by
  unfold eOf
  rcases h with h | h
  · rw [ak_ge h (by omega)]
    show (match akind t with | 1 => _ | 3 => _ | 4 => _ | _ => _) = _
    rw [h]; rfl
  · rw [ak_ge h (by omega)]
    show (match akind t with | 1 => _ | 3 => _ | 4 => _ | _ => _) = _
    rw [h]; rfl
theorem eOf_long {ad : Nat → Nat → Nat} {gr : Gr} {M : Mem} {ca : Nat → ClassId} {a t : Nat} (h : akind t = 1) : eOf ad gr M ca a t = .inl (ca a, alen t, .inr (.inl fun j => Int64.ofInt (M.2.1 a j))) := by
  unfold eOf
  rw [ak_ge h (by omega)]
  show (match akind t with | 1 => _ | 3 => _ | 4 => _ | _ => _) = _
  rw [h]; rfl
theorem eOf_ref {ad : Nat → Nat → Nat} {gr : Gr} {M : Mem} {ca : Nat → ClassId} {a t : Nat} (h : akind t = 3 ∨ akind t = 4) : eOf ad gr M ca a t = .inl (ca a, alen t, .inr (.inr (.inr (.inr fun j => (gE gr M t a j).map fun q => ad q.1 q.2)))) := by
  unfold eOf
  rcases h with h | h
  · rw [ak_ge h (by omega)]
    show (match akind t with | 1 => _ | 3 => _ | 4 => _ | _ => _) = _
    rw [h]; rfl
  · rw [ak_ge h (by omega)]
    show (match akind t with | 1 => _ | 3 => _ | 4 => _ | _ => _) = _
    rw [h]; rfl
theorem aty_0 {t : Nat} (h : akind t = 0) : aty t = .int := by unfold aty; rw [h]; rfl
theorem aty_1 {t : Nat} (h : akind t = 1) : aty t = .long := by unfold aty; rw [h]; rfl
theorem aty_2 {t : Nat} (h : akind t = 2) : aty t = .byte := by unfold aty; rw [h]; rfl
theorem aty_3 {t : Nat} (h : akind t = 3) : aty t = .object (clsT (acomp t)).1 := by unfold aty; rw [h]; rfl
theorem aty_4 {t : Nat} (h : akind t = 4) : aty t = .array .long := by unfold aty; rw [h]; rfl
theorem al_lt (t : Nat) : alen t < 2 ^ 31 := by
  have h : ∀ q ∈ atab, q.2.1 < 2 ^ 31 := by decide +kernel
  show (atab.getD (t - 20) (9, 0, 0)).2.1 < 2 ^ 31
  rw [List.getD_eq_getElem?_getD]
  cases hq : atab[t - 20]? with
  | none => simp
  | some q => exact h q (List.mem_of_getElem? hq)
section Arr
variable {p : Program} {l : Launch} {e : Env} {R : Room} {s : State} {m : MethodId} {args : Array Value} {below : List Frame} {meth : Method} {c : Code} {H : Heap} {locs : List Loc} {cells slots : Nat} {Q : State → Prop} {cc : ByteArray} {pc : Nat} {ls : Array Slot} {rest : List Value}
variable {ad : Nat → Nat → Nat} {base : Nat} {D : va_G} {H0 : Heap} {gr : Gr} {M : Mem} {a t : Nat} {i x : Int}
theorem k1 {cA : ClassId} {ty : FieldType} (hK : va_K D vwCl [] s) (h : ArrOfT s cA ty ∧ va_RA s cA ty) : va_K D vwCl [(cA, ty)] s := by
  refine ⟨hK.1, fun k q hq => ?_⟩
  cases k with
  | zero => cases hq; exact h
  | succ k => simp at hq
theorem hr_iald (hx : p.tables.exec = Jvm.exec) (hb : c.code = cc) (hK : va_K D vwCl [] s) (hT : (tgs M)[a]? = some t) (hk : akind t = 0) (hH : HR ad base D H0 gr s M H) (ri : rI i) (hi : 0 ≤ i ∧ i < alen t) (hd : decode cc pc = .ok (.iaload, 1))
    (kk : W p l e R s m args below meth c H locs cells slots Q (F0 m (pc + 1) ls (.int (Int32.ofInt (M.1 a i.toNat)) :: rest))) : W p l e R s m args below meth c H locs cells slots Q (F0 m pc ls (.int (Int32.ofInt i) :: .ref (base + a) :: rest)) := by
  obtain ⟨ca, h1, hP, h3, h4⟩ := hH
  refine va_iald hx hb (k1 hK (h3 a t hT (Nat.le_of_ble_eq_true (ak_ge hk (by omega))))) hP a 0 (by rw [ws_at ad hT, eOf_int (Or.inl hk)]) (by rw [aty_0 hk]; rfl) (inI ri hi) hd ?_
  rw [clampI ri]; exact kk
theorem hr_bald (hx : p.tables.exec = Jvm.exec) (hb : c.code = cc) (hK : va_K D vwCl [] s) (hT : (tgs M)[a]? = some t) (hk : akind t = 2) (hH : HR ad base D H0 gr s M H) (ri : rI i) (hi : 0 ≤ i ∧ i < alen t) (hd : decode cc pc = .ok (.baload, 1))
    (kk : W p l e R s m args below meth c H locs cells slots Q (F0 m (pc + 1) ls (.int (Int32.ofInt (M.1 a i.toNat)) :: rest))) : W p l e R s m args below meth c H locs cells slots Q (F0 m pc ls (.int (Int32.ofInt i) :: .ref (base + a) :: rest)) := by
  obtain ⟨ca, h1, hP, h3, h4⟩ := hH
  refine va_bald hx hb (k1 hK (h3 a t hT (Nat.le_of_ble_eq_true (ak_ge hk (by omega))))) hP a 0 (by rw [ws_at ad hT, eOf_int (Or.inr hk)]) (by rw [aty_2 hk]; rfl) (inI ri hi) hd ?_
  rw [clampI ri]; exact kk
theorem hr_lald (hx : p.tables.exec = Jvm.exec) (hb : c.code = cc) (hK : va_K D vwCl [] s) (hT : (tgs M)[a]? = some t) (hk : akind t = 1) (hH : HR ad base D H0 gr s M H) (ri : rI i) (hi : 0 ≤ i ∧ i < alen t) (hd : decode cc pc = .ok (.laload, 1))
    (kk : W p l e R s m args below meth c H locs cells slots Q (F0 m (pc + 1) ls (.long (Int64.ofInt (M.2.1 a i.toNat)) :: rest))) : W p l e R s m args below meth c H locs cells slots Q (F0 m pc ls (.int (Int32.ofInt i) :: .ref (base + a) :: rest)) := by
  obtain ⟨ca, h1, hP, h3, h4⟩ := hH
  refine va_lald hx hb (k1 hK (h3 a t hT (Nat.le_of_ble_eq_true (ak_ge hk (by omega))))) hP a 0 (by rw [ws_at ad hT, eOf_long hk]) (by rw [aty_1 hk]; rfl) (inI ri hi) hd ?_
  rw [clampI ri]; exact kk
theorem hr_aald (hx : p.tables.exec = Jvm.exec) (hb : c.code = cc) (hK : va_K D vwCl [] s) (hT : (tgs M)[a]? = some t) (hk : akind t = 3 ∨ akind t = 4) (hH : HR ad base D H0 gr s M H) (ri : rI i) (hi : 0 ≤ i ∧ i < alen t) (hd : decode cc pc = .ok (.aaload, 1))
    (kk : W p l e R s m args below meth c H locs cells slots Q (F0 m (pc + 1) ls (va_rf ((gE gr M t a i.toNat).map fun q => ad q.1 q.2) :: rest))) : W p l e R s m args below meth c H locs cells slots Q (F0 m pc ls (.int (Int32.ofInt i) :: .ref (base + a) :: rest)) := by
  obtain ⟨ca, h1, hP, h3, h4⟩ := hH
  have h20 : 20 ≤ t := by rcases hk with h | h <;> exact Nat.le_of_ble_eq_true (ak_ge h (by omega))
  have hp := hP a _ (ws_at ad hT)
  rw [eOf_ref hk] at hp
  have hin := inI ri hi
  have hlt : i.toNat < alen t := by omega
  have hA := (h3 a t hT h20).1 (alen t) (fun j => va_rf ((gE gr M t a j).map fun q => ad q.1 q.2))
  refine W.aald (v := va_rf ((gE gr M t a i.toNat).map fun q => ad q.1 q.2)) (ty := aty t) hx hb hp hA (by
    rcases hk with h | h
    · rw [aty_3 h]; rfl
    · rw [aty_4 h]; rfl) (fun q => by cases q) (by show ¬ (_ ∨ (arrV _ _ _).slots.size ≤ _); rw [arrV_size]; exact hin) (by show (arrV _ _ _).slots[_]? = _; rw [clampI ri, arrV_read _ _ hlt]) rfl rfl hd kk
theorem hr_alen (hx : p.tables.exec = Jvm.exec) (hb : c.code = cc) (hK : va_K D vwCl [] s) (hT : (tgs M)[a]? = some t) (hk : akind t ≤ 4) (hH : HR ad base D H0 gr s M H) (hd : decode cc pc = .ok (.arraylength, 1))
    (kk : W p l e R s m args below meth c H locs cells slots Q (F0 m (pc + 1) ls (.int (Int32.ofInt (alen t)) :: rest))) : W p l e R s m args below meth c H locs cells slots Q (F0 m pc ls (.ref (base + a) :: rest)) := by
  obtain ⟨ca, h1, hP, h3, h4⟩ := hH
  have h20 : 20 ≤ t := Nat.le_of_ble_eq_true (ak_ge rfl hk)
  have hlen : ∃ z, eOf ad gr M ca a t = .inl (ca a, alen t, z) := by
    have h5 : akind t = 0 ∨ akind t = 1 ∨ akind t = 2 ∨ akind t = 3 ∨ akind t = 4 := by omega
    rcases h5 with h | h | h | h | h
    · exact ⟨_, eOf_int (Or.inl h)⟩
    · exact ⟨_, eOf_long h⟩
    · exact ⟨_, eOf_int (Or.inr h)⟩
    · exact ⟨_, eOf_ref (Or.inl h)⟩
    · exact ⟨_, eOf_ref (Or.inr h)⟩
  obtain ⟨z, hz⟩ := hlen
  refine va_alen (x := (alen t, z)) (v := Int32.ofInt (alen t)) hx hb (k1 hK (h3 a t hT h20)) hP a 0 (by rw [ws_at ad hT, hz]) rfl ?_ hd kk
  apply eI
  rw [toI' (by have := al_lt t; unfold rI; omega)]
  exact nI_toInt (al_lt t)
theorem hr_iast (hx : p.tables.exec = Jvm.exec) (hb : c.code = cc) (hK : va_K D vwCl [] s) (hT : (tgs M)[a]? = some t) (hk : akind t = 0) (hH : HR ad base D H0 gr s M H) (ri : rI i) (hi : 0 ≤ i ∧ i < alen t) (hd : decode cc pc = .ok (.iastore, 1))
    (kk : ∀ (H1 : Heap) (sl : Nat), HR ad base D H0 gr s (putI M a i.toNat x) H1 → W p l e R s m args below meth c H1 (locs ++ [⟨base + a, sl⟩]) cells slots Q (F0 m (pc + 1) ls rest)) : W p l e R s m args below meth c H locs cells slots Q (F0 m pc ls (.int (Int32.ofInt x) :: .int (Int32.ofInt i) :: .ref (base + a) :: rest)) := by
  obtain ⟨ca, h1, hP, h3, h4⟩ := hH
  have h20 : 20 ≤ t := Nat.le_of_ble_eq_true (ak_ge hk (by omega))
  have he : (wsOf ad base gr M ca)[a]? = some (base + a, .inl (ca a, alen t, .inl fun j => Int32.ofInt (M.1 a j))) := by rw [ws_at ad hT, eOf_int (Or.inl hk)]
  have hA := (h3 a t hT h20).1 (alen t) (fun j => .int (Int32.ofInt (M.1 a j)))
  rw [aty_0 hk] at hA
  refine W.iast hx hb (hP a _ he) hA (fun q => by cases q) (by show ¬ (_ ∨ (arrV _ _ _).slots.size ≤ _); rw [arrV_size]; exact inI ri hi) rfl rfl hd fun H1 e1 z oq => ?_
  refine kk H1 _ ⟨ca, by rw [z, h1]; rfl, ?_, h3, fun q hq => by rw [oq q (fun h => by have h' : q = base + a := h; have h'' : q < base := hq; omega)]; exact h4 q hq⟩
  rw [← ws_set ad (M := M) (M' := putI M a i.toNat x) rfl hT (eOf_int (Or.inl hk)) (fun k t' _ hk => eOf_putI ca k t' hk)]
  refine hP.set (ws_D ad base gr M ca) he ?_ oq
  show H1[base + a]? = some (vp_cell _ _)
  rw [e1, vp_cell_i, vp_cell_i, arrV_store, clampI ri]
  congr 2
  funext q
  by_cases hq : q = i.toNat
  · subst hq
    simp [updV, up2]
  · simp [updV, up2, hq]
theorem hr_bast (hx : p.tables.exec = Jvm.exec) (hb : c.code = cc) (hK : va_K D vwCl [] s) (hT : (tgs M)[a]? = some t) (hk : akind t = 2) (hH : HR ad base D H0 gr s M H) (ri : rI i) (rx : rI x) (hi : 0 ≤ i ∧ i < alen t) (hd : decode cc pc = .ok (.bastore, 1))
    (kk : ∀ (H1 : Heap) (sl : Nat), HR ad base D H0 gr s (putI M a i.toNat (x8 x)) H1 → W p l e R s m args below meth c H1 (locs ++ [⟨base + a, sl⟩]) cells slots Q (F0 m (pc + 1) ls rest)) : W p l e R s m args below meth c H locs cells slots Q (F0 m pc ls (.int (Int32.ofInt x) :: .int (Int32.ofInt i) :: .ref (base + a) :: rest)) := by
  obtain ⟨ca, h1, hP, h3, h4⟩ := hH
  have h20 : 20 ≤ t := Nat.le_of_ble_eq_true (ak_ge hk (by omega))
  have he : (wsOf ad base gr M ca)[a]? = some (base + a, .inl (ca a, alen t, .inl fun j => Int32.ofInt (M.1 a j))) := by rw [ws_at ad hT, eOf_int (Or.inr hk)]
  have hA := (h3 a t hT h20).1 (alen t) (fun j => .int (Int32.ofInt (M.1 a j)))
  rw [aty_2 hk] at hA
  refine W.bast hx hb (hP a _ he) hA (fun q => by cases q) (by show ¬ (_ ∨ (arrV _ _ _).slots.size ≤ _); rw [arrV_size]; exact inI ri hi) rfl rfl hd fun H1 e1 z oq => ?_
  refine kk H1 _ ⟨ca, by rw [z, h1]; rfl, ?_, h3, fun q hq => by rw [oq q (fun h => by have h' : q = base + a := h; have h'' : q < base := hq; omega)]; exact h4 q hq⟩
  rw [← ws_set ad (M := M) (M' := putI M a i.toNat (x8 x)) rfl hT (eOf_int (Or.inr hk)) (fun k t' _ hk => eOf_putI ca k t' hk)]
  refine hP.set (ws_D ad base gr M ca) he ?_ oq
  show H1[base + a]? = some (vp_cell _ _)
  have hnb : vp_nar .byte (Int32.ofInt x) = Int32.ofInt (x8 x) := by rw [vp_nar_byte, i2b_of rx]
  rw [e1, vp_cell_i, vp_cell_i, arrV_store, clampI ri]
  congr 2
  funext q
  by_cases hq : q = i.toNat
  · subst hq
    have h9 : narrow .byte (.int (Int32.ofInt x)) = .int (vp_nar .byte (Int32.ofInt x)) := rfl
    simp [updV, up2, ← hnb]
    try rfl
  · simp [updV, up2, hq]
theorem hr_last (hx : p.tables.exec = Jvm.exec) (hb : c.code = cc) (hK : va_K D vwCl [] s) (hT : (tgs M)[a]? = some t) (hk : akind t = 1) (hH : HR ad base D H0 gr s M H) (ri : rI i) (hi : 0 ≤ i ∧ i < alen t) (hd : decode cc pc = .ok (.lastore, 1))
    (kk : ∀ (H1 : Heap) (sl : Nat), HR ad base D H0 gr s (putL M a i.toNat x) H1 → W p l e R s m args below meth c H1 (locs ++ [⟨base + a, sl⟩]) cells slots Q (F0 m (pc + 1) ls rest)) : W p l e R s m args below meth c H locs cells slots Q (F0 m pc ls (.long (Int64.ofInt x) :: .int (Int32.ofInt i) :: .ref (base + a) :: rest)) := by
  obtain ⟨ca, h1, hP, h3, h4⟩ := hH
  have h20 : 20 ≤ t := Nat.le_of_ble_eq_true (ak_ge hk (by omega))
  have he : (wsOf ad base gr M ca)[a]? = some (base + a, .inl (ca a, alen t, .inr (.inl fun j => Int64.ofInt (M.2.1 a j)))) := by rw [ws_at ad hT, eOf_long hk]
  have hA := (h3 a t hT h20).1 (alen t) (fun j => .long (Int64.ofInt (M.2.1 a j)))
  rw [aty_1 hk] at hA
  refine W.last hx hb (hP a _ he) hA (fun q => by cases q) (by show ¬ (_ ∨ (arrV _ _ _).slots.size ≤ _); rw [arrV_size]; exact inI ri hi) rfl rfl hd fun H1 e1 z oq => ?_
  refine kk H1 _ ⟨ca, by rw [z, h1]; rfl, ?_, h3, fun q hq => by rw [oq q (fun h => by have h' : q = base + a := h; have h'' : q < base := hq; omega)]; exact h4 q hq⟩
  rw [← ws_set ad (M := M) (M' := putL M a i.toNat x) rfl hT (eOf_long hk) (fun k t' _ hk => eOf_putL ca k t' hk)]
  refine hP.set (ws_D ad base gr M ca) he ?_ oq
  show H1[base + a]? = some (vp_cell _ _)
  rw [e1, vp_cell_l, vp_cell_l, arrV_store, clampI ri]
  congr 2
  funext q
  by_cases hq : q = i.toNat
  · subst hq
    simp [updV, up2]
  · simp [updV, up2, hq]
end Arr
