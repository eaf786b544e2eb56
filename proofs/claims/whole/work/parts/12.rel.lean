/-! the machine's heap and the small memory -/
def tgs (M : Mem) : List Nat := M.2.2.2.2.1
def gF (gr : Gr) (M : Mem) (f a : Nat) : Option (Nat × Nat) := match gr with
  | some g => g.1 f a
  | none => M.2.2.1 f a
def gE (gr : Gr) (M : Mem) (t a i : Nat) : Option (Nat × Nat) := match gr with
  | some g => g.2 t a i
  | none => M.2.2.2.1 t a i
section Enc
variable (ad : Nat → Nat → Nat)
def enc (v : mv) : Value := match v with
  | .inl x => .int (Int32.ofInt x)
  | .inr (.inl x) => .long (Int64.ofInt x)
  | .inr (.inr (t, a)) => .ref (ad t a)
def encP (q : Nat × mv) : Nat × Value := (q.1, enc ad q.2)
theorem enc_cat (v : mv) : (enc ad v).category = bif isL v then 2 else 1 := by
  rcases v with x | x | ⟨t, a⟩ <;> rfl
/-- what field k of a cell of class t holds -/
def fldV (gr : Gr) (M : Mem) (t a k : Nat) : Value := match (ftab.getD t []).getD k 9 with
  | 1 => .long (Int64.ofInt (M.2.1 a k))
  | 2 => va_rf ((gF gr M (100 * t + k) a).map fun q => ad q.1 q.2)
  | _ => .int (Int32.ofInt (M.1 a k))
def nf (t : Nat) : Nat := (clsT t).2.2
def eOf (gr : Gr) (M : Mem) (ca : Nat → ClassId) (a t : Nat) : va_E := bif Nat.ble 20 t then (match akind t with
  | 1 => .inl (ca a, alen t, .inr (.inl fun j => Int64.ofInt (M.2.1 a j)))
  | 3 => .inl (ca a, alen t, .inr (.inr (.inr (.inr fun j => (gE gr M t a j).map fun q => ad q.1 q.2))))
  | 4 => .inl (ca a, alen t, .inr (.inr (.inr (.inr fun j => (gE gr M t a j).map fun q => ad q.1 q.2))))
  | _ => .inl (ca a, alen t, .inl fun j => Int32.ofInt (M.1 a j))) else .inr (t, (List.range (nf t)).map (fldV ad gr M t a))
def wsOf (base : Nat) (gr : Gr) (M : Mem) (ca : Nat → ClassId) : va_W := (tgs M).zipIdx.map fun q => (base + q.2, eOf ad gr M ca q.2 q.1)
theorem ws_at {base : Nat} {gr : Gr} {M : Mem} {ca : Nat → ClassId} {a t : Nat} (h : (tgs M)[a]? = some t) : (wsOf ad base gr M ca)[a]? = some (base + a, eOf ad gr M ca a t) := by
  simp [wsOf, List.getElem?_map, List.getElem?_zipIdx, h]
theorem ws_inv {base : Nat} {gr : Gr} {M : Mem} {ca : Nat → ClassId} {a : Nat} {q : Nat × va_E} (h : (wsOf ad base gr M ca)[a]? = some q) : ∃ t, (tgs M)[a]? = some t ∧ q = (base + a, eOf ad gr M ca a t) := by
  simp only [wsOf, List.getElem?_map, List.getElem?_zipIdx, Option.map_map, Option.map_eq_some_iff] at h
  obtain ⟨t, h1, h2⟩ := h
  refine ⟨t, h1, ?_⟩
  rw [← h2]
  simp
theorem ws_len {base : Nat} {gr : Gr} {M : Mem} {ca : Nat → ClassId} : (wsOf ad base gr M ca).length = (tgs M).length := by simp [wsOf]
theorem ws_D (base : Nat) (gr : Gr) (M : Mem) (ca : Nat → ClassId) : va_D (fun q => base ≤ q) (wsOf ad base gr M ca) := by
  refine ⟨fun i j p q hi hj hpq => ?_, fun k q hk => ?_⟩
  · obtain ⟨t, -, rfl⟩ := ws_inv ad hi
    obtain ⟨t', -, rfl⟩ := ws_inv ad hj
    have : base + i = base + j := hpq
    omega
  · obtain ⟨t, -, rfl⟩ := ws_inv ad hk
    exact Nat.le_add_right _ _
/-- one cell is another -/
theorem ws_set {base : Nat} {gr : Gr} {M M' : Mem} {ca : Nat → ClassId} {a t : Nat} {e : va_E} (hT : tgs M' = tgs M) (ht : (tgs M)[a]? = some t) (ha : eOf ad gr M' ca a t = e) (ho : ∀ i t', (tgs M)[i]? = some t' → i ≠ a → eOf ad gr M' ca i t' = eOf ad gr M ca i t') :
    (wsOf ad base gr M ca).set a (base + a, e) = wsOf ad base gr M' ca := by
  apply List.ext_getElem?
  intro i
  have hlt : a < (wsOf ad base gr M ca).length := by rw [ws_len]; exact (List.getElem?_eq_some_iff.mp ht).1
  by_cases hi : i = a
  · subst hi
    rw [List.getElem?_set_self hlt, ws_at ad (M := M') (by rw [hT]; exact ht), ha]
  · rw [List.getElem?_set_ne (fun q => hi q.symm)]
    cases hq : (tgs M)[i]? with
    | none =>
      have h1 : (wsOf ad base gr M ca)[i]? = none := by
        rw [List.getElem?_eq_none_iff, ws_len]; exact List.getElem?_eq_none_iff.mp hq
      have h2 : (wsOf ad base gr M' ca)[i]? = none := by
        rw [List.getElem?_eq_none_iff, ws_len, hT]; exact List.getElem?_eq_none_iff.mp hq
      rw [h1, h2]
    | some t' => rw [ws_at ad hq, ws_at ad (M := M') (by rw [hT]; exact hq), ho i t' hq hi]
end Enc
def aty (t : Nat) : FieldType := match akind t with
  | 1 => .long
  | 2 => .byte
  | 3 => .object (clsT (acomp t)).1
  | 4 => .array .long
  | _ => .int
/-- a value that the memory knows -/
def Good (M : Mem) (v : mv) : Prop := match v with
  | .inl x => rI x
  | .inr (.inl x) => rL x
  | .inr (.inr (t, a)) => 90 ≤ t ∨ (tgs M)[a]? = some t
def tagOk (t : Nat) : Prop := t ≤ 12 ∨ (20 ≤ t ∧ t ≤ 40)
/-- what holds of the memory itself -/
def MOk (gr : Gr) (sc : (Nat → Int) × Nat) (M : Mem) : Prop :=
  (∀ a k, rI (M.1 a k)) ∧ (∀ a k, rL (M.2.1 a k)) ∧ (∀ a t : Nat, (tgs M)[a]? = some t → tagOk t) ∧
  (∀ (a t k : Nat) (q : Nat × Nat), (tgs M)[a]? = some t → k < 100 → gF gr M (100 * t + k) a = some q → (tgs M)[q.2]? = some q.1) ∧
  (∀ (a t i : Nat) (q : Nat × Nat), (tgs M)[a]? = some t → 20 ≤ t → i < alen t → gE gr M t a i = some q → (tgs M)[q.2]? = some q.1) ∧
  (∀ a, (tgs M).length ≤ a → (∀ k, M.1 a k = 0) ∧ (∀ k, M.2.1 a k = 0) ∧ (gr = none → (∀ f, M.2.2.1 f a = none) ∧ ∀ t i, M.2.2.2.1 t a i = none)) ∧ M.2.2.2.2.2 = sc
def HR (ad : Nat → Nat → Nat) (base : Nat) (D : va_G) (H0 : Heap) (gr : Gr) (s : State) (M : Mem) (H : Heap) : Prop := ∃ ca : Nat → ClassId,
  H.size = base + (tgs M).length ∧ va_P D vwCl (wsOf ad base gr M ca) H ∧ (∀ a t : Nat, (tgs M)[a]? = some t → 20 ≤ t → ArrOfT s (ca a) (aty t) ∧ va_RA s (ca a) (aty t)) ∧ ∀ q, q < base → H[q]? = H0[q]?
def cN (M : Mem) : Nat := (tgs M).length
def slO (t : Nat) : Nat := bif Nat.ble 20 t then alen t else nf t
def sN (M : Mem) : Nat := ((tgs M).map slO).sum
theorem HR.moved {ad : Nat → Nat → Nat} {base : Nat} {D : va_G} {H0 : Heap} {gr : Gr} {s U : State} {M : Mem} {H : Heap} (hvm : s.vm.Alike U.vm) (h : HR ad base D H0 gr s M H) : HR ad base D H0 gr U M H := by
  obtain ⟨ca, h1, h2, h3, h4⟩ := h
  exact ⟨ca, h1, h2, fun a t ht h20 => ⟨arrOfT_moved hvm (h3 a t ht h20).1, (h3 a t ht h20).2.moved hvm⟩, h4⟩
theorem Good.mono {M M' : Mem} (h : ∃ l, tgs M' = tgs M ++ l) {v : mv} (hv : Good M v) : Good M' v := by
  obtain ⟨l, hl⟩ := h
  rcases v with x | x | ⟨t, a⟩
  · exact hv
  · exact hv
  · rcases hv with h | h
    · exact Or.inl h
    · refine Or.inr ?_
      rw [hl, List.getElem?_append_left (List.getElem?_eq_some_iff.mp h).1]
      exact h
theorem encP_args (ad : Nat → Nat → Nat) : ∀ (vs : List mv) (n : Nat), lv_args n (vs.map (enc ad)) = (ent n vs).map (encP ad)
  | [], _ => rfl
  | v :: l, n => by
    have h := enc_cat ad v
    show (n, enc ad v) :: lv_args (if (enc ad v).category = 2 then n + 2 else n + 1) (l.map (enc ad)) = encP ad (n, v) :: (ent (bif isL v then n + 2 else n + 1) l).map (encP ad)
    rw [h]
    cases isL v with
    | true => exact congrArg _ (encP_args ad l (n + 2))
    | false => exact congrArg _ (encP_args ad l (n + 1))
/-- locals: fewer, and one set -/
theorem lvOnly_mem {ks : List Nat} : ∀ {lv : LV} {q : Nat × mv}, q ∈ lvOnly ks lv → q ∈ lv
  | [], _, h => h
  | p :: l, q, h => by
    unfold lvOnly at h
    cases hk : hasK p.1 ks with
    | true =>
      rw [hk] at h
      rcases List.mem_cons.mp h with rfl | h
      · exact List.mem_cons_self
      · exact List.mem_cons_of_mem _ (lvOnly_mem h)
    | false =>
      rw [hk] at h
      exact List.mem_cons_of_mem _ (lvOnly_mem h)
theorem lvCut_mem {kp : Option (List Nat)} {lv : LV} {q : Nat × mv} (h : q ∈ lvCut kp lv) : q ∈ lv := by
  cases kp with
  | none => exact h
  | some ks => exact lvOnly_mem h
theorem lvGet_mem : ∀ {lv : LV} {k : Nat} {v : mv}, lvGet lv k = some v → (k, v) ∈ lv
  | [], _, _, h => by cases h
  | q :: l, k, v, h => by
    unfold lvGet at h
    cases hk : Nat.beq q.1 k with
    | true =>
      rw [hk] at h
      have h1 : q.1 = k := Nat.eq_of_beq_eq_true hk
      have h2 : q.2 = v := Option.some.inj h
      rw [← h1, ← h2]
      exact List.mem_cons_self
    | false =>
      rw [hk] at h
      exact List.mem_cons_of_mem _ (lvGet_mem h)
theorem lvIns_mem {k : Nat} {v : mv} : ∀ {lv : LV} {q : Nat × mv}, q ∈ lvIns k v lv → q = (k, v) ∨ q ∈ lv
  | [], _, h => Or.inl (List.mem_singleton.mp h)
  | p :: l, q, h => by
    unfold lvIns at h
    cases hk : Nat.ble k p.1 with
    | true =>
      rw [hk] at h
      rcases List.mem_cons.mp h with rfl | h
      · exact Or.inl rfl
      · exact Or.inr h
    | false =>
      rw [hk] at h
      rcases List.mem_cons.mp h with rfl | h
      · exact Or.inr List.mem_cons_self
      · rcases lvIns_mem h with h | h
        · exact Or.inl h
        · exact Or.inr (List.mem_cons_of_mem _ h)
theorem lvDel_mem {k : Nat} {lg : Bool} : ∀ {lv : LV} {q : Nat × mv}, q ∈ lvDel k lg lv → q ∈ lv ∧ ((Nat.beq q.1 k || (Nat.beq (q.1 + 1) k && isL q.2)) || (lg && Nat.beq q.1 (k + 1))) = false
  | [], _, h => by cases h
  | p :: l, q, h => by
    unfold lvDel at h
    cases hk : ((Nat.beq p.1 k || (Nat.beq (p.1 + 1) k && isL p.2)) || (lg && Nat.beq p.1 (k + 1))) with
    | true =>
      rw [hk] at h
      exact ⟨List.mem_cons_of_mem _ (lvDel_mem h).1, (lvDel_mem h).2⟩
    | false =>
      rw [hk] at h
      rcases List.mem_cons.mp h with rfl | h
      · exact ⟨List.mem_cons_self, hk⟩
      · exact ⟨List.mem_cons_of_mem _ (lvDel_mem h).1, (lvDel_mem h).2⟩
theorem lv_has_sub {ls : Array Slot} {n : Nat} {l l' : List (Nat × Value)} (h : lv_has ls n l) (hs : ∀ q ∈ l', q ∈ l) : lv_has ls n l' := ⟨h.1, h.2.1, fun q hq => h.2.2 q (hs q hq)⟩
theorem enc_cat2 (ad : Nat → Nat → Nat) (v : mv) : ((enc ad v).category == 2) = isL v := by
  rw [enc_cat]; cases isL v <;> rfl
theorem nbeq (a b : Nat) : Nat.beq a b = (a == b) := by
  cases h : Nat.beq a b with
  | true =>
    have := Nat.eq_of_beq_eq_true h
    subst this
    simp
  | false =>
    have := Nat.ne_of_beq_eq_false h
    simp [this]
theorem set1_mem {ad : Nat → Nat → Nat} {lv : LV} {n : Nat} {v : mv} (hv : isL v = false) : ∀ q ∈ (lvSet lv n v).map (encP ad), q ∈ (n, enc ad v) :: (lv.map (encP ad)).filter (fun q => !(q.1 == n) && !(q.1 + 1 == n && q.2.category == 2)) := by
  intro q hq
  obtain ⟨q', hq', rfl⟩ := List.mem_map.mp hq
  rcases lvIns_mem hq' with rfl | h
  · exact List.mem_cons_self
  · obtain ⟨h1, h2⟩ := lvDel_mem h
    refine List.mem_cons_of_mem _ (List.mem_filter.mpr ⟨List.mem_map.mpr ⟨q', h1, rfl⟩, ?_⟩)
    simp only [Bool.or_eq_false_iff, nbeq] at h2
    show (!(q'.1 == n) && !(q'.1 + 1 == n && ((enc ad q'.2).category == 2))) = true
    rw [enc_cat2, h2.1.1, h2.1.2]
    rfl
theorem set2_mem {ad : Nat → Nat → Nat} {lv : LV} {n : Nat} {v : mv} (hv : isL v = true) : ∀ q ∈ (lvSet lv n v).map (encP ad), q ∈ (n, enc ad v) :: (lv.map (encP ad)).filter (fun q => !(q.1 == n) && (!(q.1 == n + 1) && !(q.1 + 1 == n && q.2.category == 2))) := by
  intro q hq
  obtain ⟨q', hq', rfl⟩ := List.mem_map.mp hq
  rcases lvIns_mem hq' with rfl | h
  · exact List.mem_cons_self
  · obtain ⟨h1, h2⟩ := lvDel_mem h
    refine List.mem_cons_of_mem _ (List.mem_filter.mpr ⟨List.mem_map.mpr ⟨q', h1, rfl⟩, ?_⟩)
    rw [hv] at h2
    simp only [Bool.or_eq_false_iff, nbeq, Bool.true_and] at h2
    show (!(q'.1 == n) && (!(q'.1 == n + 1) && !(q'.1 + 1 == n && ((enc ad q'.2).category == 2)))) = true
    rw [enc_cat2, h2.1.1, h2.1.2, h2.2]
    rfl
theorem set_good {M : Mem} {lv : LV} {n : Nat} {v : mv} (h : ∀ q ∈ lv, Good M q.2) (hv : Good M v) : ∀ q ∈ lvSet lv n v, Good M q.2 := by
  intro q hq
  rcases lvIns_mem hq with rfl | h1
  · exact hv
  · exact h q (lvDel_mem h1).1
