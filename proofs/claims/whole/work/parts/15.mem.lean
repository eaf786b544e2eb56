/-! fields -/
theorem cl_at {t : Nat} (h : t < 13) : vwCl[t]? = some (clsT t) := by
  have : t < vwCl.length := h
  unfold clsT
  rw [List.getD_eq_getElem?_getD, List.getElem?_eq_getElem this]
  rfl
theorem eOf_obj {ad : Nat → Nat → Nat} {gr : Gr} {M : Mem} {ca : Nat → ClassId} {a t : Nat} (h : t < 13) : eOf ad gr M ca a t = .inr (t, (List.range (nf t)).map (fldV ad gr M t a)) := by
  have : Nat.ble 20 t = false := by
    cases hq : Nat.ble 20 t with
    | false => rfl
    | true => exact absurd (Nat.le_of_ble_eq_true hq) (by omega)
  unfold eOf
  rw [this]
  rfl
theorem fs_at {ad : Nat → Nat → Nat} {gr : Gr} {M : Mem} {a t k : Nat} (h : k < nf t) : ((List.range (nf t)).map (fldV ad gr M t a))[k]? = some (fldV ad gr M t a k) := by
  simp [List.getElem?_map, List.getElem?_range h]
section Fld
variable {p : Program} {l : Launch} {e : Env} {R : Room} {s : State} {m : MethodId} {args : Array Value} {below : List Frame} {meth : Method} {c : Code} {H : Heap} {locs : List Loc} {cells slots : Nat} {Q : State → Prop} {cc : ByteArray} {pc : Nat} {ls : Array Slot} {rest : List Value}
variable {ad : Nat → Nat → Nat} {base : Nat} {D : va_G} {H0 : Heap} {gr : Gr} {M : Mem} {a t k idx : Nat} {own : String}
theorem hr_get (hx : p.tables.exec = Jvm.exec) (hb : c.code = cc) (hown : s.vm.findClass own = some m.cls) (hK : va_K D vwCl [] s) (hcw : ∀ w ∈ u_ws (clsT t).1 (clsT t).2.1 (clsT t).2.2, w.before args s = true) (h13 : t < 13) (hT : (tgs M)[a]? = some t) (hk : k < nf t)
    (hlink : (Cond.fieldLink own idx (clsT t).1 ((clsT t).2.1 k).2.1 ((clsT t).2.1 k).2.2.1).before args s = true) (hdecl : ((clsT t).2.1 k).1 = (clsT t).1) (hd : decode cc pc = .ok (.getfield idx, 3)) (hH : HR ad base D H0 gr s M H)
    (kk : W p l e R s m args below meth c H locs cells slots Q (F0 m (pc + 3) ls (fldV ad gr M t a k :: rest))) : W p l e R s m args below meth c H locs cells slots Q (F0 m pc ls (.ref (base + a) :: rest)) := by
  obtain ⟨ca, h1, hP, h3, h4⟩ := hH
  refine va_get (C := (clsT t).1) (T := (clsT t).2.1) (N := (clsT t).2.2) hx hb hcw (fun _ h => h) hown hK hP a (by rw [ws_at ad hT, eOf_obj h13]) (cl_at h13) k hk hlink (fun x h => by rw [hdecl] at h; exact h) (fs_at hk) hd kk
/-- a field is set: the heap, and what became of it -/
theorem hr_put (hx : p.tables.exec = Jvm.exec) (hb : c.code = cc) (hown : s.vm.findClass own = some m.cls) (hK : va_K D vwCl [] s) (hcw : ∀ w ∈ u_ws (clsT t).1 (clsT t).2.1 (clsT t).2.2, w.before args s = true) (h13 : t < 13) (hT : (tgs M)[a]? = some t) (hk : k < nf t)
    (hlink : (Cond.fieldLink own idx (clsT t).1 ((clsT t).2.1 k).2.1 ((clsT t).2.1 k).2.2.1).before args s = true) (hdecl : ((clsT t).2.1 k).1 = (clsT t).1) (hd : decode cc pc = .ok (.putfield idx, 3))
    (ty0 : Nat → FieldType) (hty : ∀ k, k < nf t → parseFieldDescriptor ((clsT t).2.1 k).2.2.1 = some (ty0 k)) (hnm : ∀ a, a < nf t → ∀ b, b < nf t → a ≠ b → ((clsT t).2.1 a).2.1 ≠ ((clsT t).2.1 b).2.1)
    (hfin : ((clsT t).2.1 k).2.2.2 = false ∨ (((clsT t).2.1 k).2.2.2 = true ∧ meth.name = "<init>" ∧ own = (clsT t).1)) {v : Value} (hn : narrow (ty0 k) v = v) (hfit : fits (ty0 k) v = true) {M' : Mem} (hM : tgs M' = tgs M) (hv : ∀ j, j < nf t → fldV ad gr M' t a j = if j = k then v else fldV ad gr M t a j) (ho : ∀ ca i t', (tgs M)[i]? = some t' → i ≠ a → eOf ad gr M' ca i t' = eOf ad gr M ca i t')
    (hH : HR ad base D H0 gr s M H)
    (kk : ∀ (H1 : Heap) (sl : Nat), HR ad base D H0 gr s M' H1 → W p l e R s m args below meth c H1 (locs ++ [⟨base + a, sl⟩]) cells slots Q (F0 m (pc + 3) ls rest)) : W p l e R s m args below meth c H locs cells slots Q (F0 m pc ls (v :: .ref (base + a) :: rest)) := by
  obtain ⟨ca, h1, hP, h3, h4⟩ := hH
  have he : (wsOf ad base gr M ca)[a]? = some (base + a, .inr (t, (List.range (nf t)).map (fldV ad gr M t a))) := by rw [ws_at ad hT, eOf_obj h13]
  have hD := ws_D ad base gr M ca
  have hap := va_apart (own := own) hcw (fun _ h => h) ty0 hty hnm hK (cl_at h13)
  obtain ⟨r, hr1, cell, q1, q2, q3, q4⟩ := hP a _ he
  obtain rfl : r = clsT t := Option.some.inj (hr1.symm.trans (cl_at h13))
  obtain ⟨hS, hfc, kC, hkC, hkind⟩ := hK.1 t _ (cl_at h13)
  obtain ⟨cf, kf, fi, f, hi, hsl⟩ := hS k hk
  have hlay := hcw _ (u_in_lay (C := (clsT t).1) (T := (clsT t).2.1) (N := (clsT t).2.2) hk)
  unfold u_lay at hlay
  have hst := (u_facts hfc hkC (u_lays hcw (fun _ h => h) hk) hi).1
  have hsame : ∀ x, s.fieldFound? ((clsT t).2.1 k).1 ((clsT t).2.1 k).2.1 ((clsT t).2.1 k).2.2.1 = some x → s.fieldFound? (clsT t).1 ((clsT t).2.1 k).2.1 ((clsT t).2.1 k).2.2.1 = some x := fun x h => by rw [hdecl] at h; exact h
  have fin : ∀ H' : Heap, H'[base + a]? = some (cell.setSlot f.slot v) → H'.size = H.size → (∀ q, q ≠ base + a → H'[q]? = H[q]?) → HR ad base D H0 gr s M' H' := by
    intro H' e1 e2 e3
    have hlen : k < ((List.range (nf t)).map (fldV ad gr M t a)).length := by simpa using hk
    have hP' : va_P D vwCl ((wsOf ad base gr M ca).set a (base + a, .inr (t, ((List.range (nf t)).map (fldV ad gr M t a)).set k v))) H' := by
      rw [hsl] at e1
      exact hP.set hD he ⟨_, cl_at h13, t_OB.to (V := updV (vp_V ((List.range (nf t)).map (fldV ad gr M t a))) k v) ⟨_, e1, q2, q3, t_set q4 hap hk v⟩ (fun j _ => vp_updV_set hlen v j)⟩ e3
    have hset : (wsOf ad base gr M ca).set a (base + a, .inr (t, ((List.range (nf t)).map (fldV ad gr M t a)).set k v)) = wsOf ad base gr M' ca := by
      refine ws_set ad hM hT ?_ (ho ca)
      rw [eOf_obj h13]
      congr 2
      apply List.ext_getElem?
      intro j
      by_cases hj : j < nf t
      · rw [fs_at hj, hv j hj, List.getElem?_set]
        by_cases hjk : j = k
        · subst hjk
          simp [hj]
        · simp [hjk, Ne.symm hjk, hj]
      · have e1 : ((List.range (nf t)).map (fldV ad gr M' t a))[j]? = none := by simp; omega
        have e2 : (((List.range (nf t)).map (fldV ad gr M t a)).set k v)[j]? = none := by simp; omega
        rw [e1, e2]
    rw [hset] at hP'
    refine ⟨ca, by rw [e2, h1, hM], hP', by rw [hM]; exact h3, fun q hq => ?_⟩
    rw [e3 q (by omega)]
    exact h4 q hq
  rcases hfin with hf | ⟨hf, hin2, hown2⟩
  · rw [if_neg (by rw [hf]; decide)] at hlay
    have h6 := u_store hfc hkC hkind hlay hi (hty k hk) hn hfit
    exact W.putK hx hb (f := f) ⟨hown, hlink, ⟨_, _, _, hsame _ hi⟩, hst⟩ (by rw [q2]; exact h6) q1 q3 (by rw [hsl]; exact k2_hasslot (q4 k hk)) rfl rfl hd fun H' e1 e2 e3 => kk H' _ (fin H' e1 e2 e3)
  · rw [if_pos hf] at hlay
    have hcf : m.cls = cf := by
      obtain ⟨_, _, c', _, _, _, -, -, hf', -, -, -, hown3, -⟩ := Cond.laysFinal_spec hlay
      have e1 : c' = cf := by have := hi.symm.trans hf'; simp at this; exact this.1.symm
      rw [hdecl, ← hown2] at hown3
      rw [← e1]; exact Option.some.inj (hown.symm.trans hown3)
    have h6 := u_fits hfc hkC hkind (Or.inr hlay) hi (hty k hk) hn hfit
    exact W.putFinK hx hb hown hlink (hsame _ hi) hst hcf hin2 (by rw [q2]; exact h6) q1 q3 (by rw [hsl]; exact k2_hasslot (q4 k hk)) rfl rfl hd fun H' e1 e2 e3 => kk H' _ (fin H' e1 e2 e3)
end Fld
/-! what a set place leaves as it was -/
theorem eOf_congr {ad : Nat → Nat → Nat} {gr : Gr} {M M' : Mem} {i t' : Nat} (ca : Nat → ClassId) (h1 : M'.1 i = M.1 i) (h2 : M'.2.1 i = M.2.1 i) (h3 : ∀ f, gF gr M' f i = gF gr M f i) (h4 : ∀ t j, gE gr M' t i j = gE gr M t i j) : eOf ad gr M' ca i t' = eOf ad gr M ca i t' := by
  have e2 : fldV ad gr M' t' i = fldV ad gr M t' i := by
    funext j
    unfold fldV
    rw [h1, h2, h3]
  unfold eOf
  rw [e2, h1, h2]
  simp only [h4]
theorem eOf_putI {ad : Nat → Nat → Nat} {gr : Gr} {M : Mem} {a k : Nat} {x : Int} (ca : Nat → ClassId) (i t' : Nat) (hi : i ≠ a) : eOf ad gr (putI M a k x) ca i t' = eOf ad gr M ca i t' :=
  eOf_congr ca (by funext j; simp [up2, hi]) rfl (fun f => by cases gr <;> rfl) (fun t j => by cases gr <;> rfl)
theorem eOf_putL {ad : Nat → Nat → Nat} {gr : Gr} {M : Mem} {a k : Nat} {x : Int} (ca : Nat → ClassId) (i t' : Nat) (hi : i ≠ a) : eOf ad gr (putL M a k x) ca i t' = eOf ad gr M ca i t' :=
  eOf_congr ca rfl (by funext j; simp [up2, hi]) (fun f => by cases gr <;> rfl) (fun t j => by cases gr <;> rfl)
theorem MOk.putI {gr : Gr} {sc : (Nat → Int) × Nat} {M : Mem} {a k t : Nat} {x : Int} (h : MOk gr sc M) (hT : (tgs M)[a]? = some t) (hx : rI x) : MOk gr sc (putI M a k x) := by
  obtain ⟨h1, h2, h3, h4, h5, h6, h7⟩ := h
  have ha : a < (tgs M).length := (List.getElem?_eq_some_iff.mp hT).1
  refine ⟨fun b j => ?_, h2, h3, by cases gr <;> exact h4, by cases gr <;> exact h5, fun b hb => ⟨fun j => ?_, (h6 b hb).2⟩, h7⟩
  · show rI (up2 M.1 a k x b j)
    unfold up2
    split
    · exact hx
    · exact h1 b j
  · show up2 M.1 a k x b j = 0
    unfold up2
    rw [if_neg (fun q => by have : (tgs M).length ≤ b := hb; omega)]
    exact (h6 b hb).1 j
theorem MOk.putL {gr : Gr} {sc : (Nat → Int) × Nat} {M : Mem} {a k t : Nat} {x : Int} (h : MOk gr sc M) (hT : (tgs M)[a]? = some t) (hx : rL x) : MOk gr sc (putL M a k x) := by
  obtain ⟨h1, h2, h3, h4, h5, h6, h7⟩ := h
  have ha : a < (tgs M).length := (List.getElem?_eq_some_iff.mp hT).1
  refine ⟨h1, fun b j => ?_, h3, by cases gr <;> exact h4, by cases gr <;> exact h5, fun b hb => ⟨(h6 b hb).1, fun j => ?_, (h6 b hb).2.2⟩, h7⟩
  · show rL (up2 M.2.1 a k x b j)
    unfold up2
    split
    · exact hx
    · exact h2 b j
  · show up2 M.2.1 a k x b j = 0
    unfold up2
    rw [if_neg (fun q => by have : (tgs M).length ≤ b := hb; omega)]
    exact (h6 b hb).2.1 j
