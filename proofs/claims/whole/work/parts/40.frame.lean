/-! frame -/
/-! what a method may change: only cells of a set that the references stay in -/
def InS (S : Nat → Nat → Prop) (v : mv) : Prop := match v with
  | .inr (.inr (t, a)) => S t a
  | _ => True
def Sm (S : Nat → Nat → Prop) (st : List mv) : Prop := ∀ v, v ∈ st → InS S v
def Lm (S : Nat → Nat → Prop) (lv : LV) : Prop := ∀ q, q ∈ lv → InS S q.2
def Fm (A : Nat → Prop) (M M' : Mem) : Prop := (∀ a, ¬ A a → M'.1 a = M.1 a ∧ M'.2.1 a = M.2.1 a) ∧ M'.2.2 = M.2.2
theorem Fm.rfl {A : Nat → Prop} {M : Mem} : Fm A M M := ⟨fun _ _ => ⟨Eq.refl _, Eq.refl _⟩, Eq.refl _⟩
theorem Fm.tr {A : Nat → Prop} {M N K : Mem} (h : Fm A M N) (g : Fm A N K) : Fm A M K := ⟨fun a ha => ⟨(g.1 a ha).1.trans (h.1 a ha).1, (g.1 a ha).2.trans (h.1 a ha).2⟩, g.2.trans h.2⟩
theorem up2_ne {f : Nat → Nat → Int} {a b k : Nat} {v : Int} (h : b ≠ a) : up2 f a k v b = f b := by
  funext j
  unfold up2
  rw [if_neg (fun q => h q.1)]
theorem Fm.putI {A : Nat → Prop} {M : Mem} {a k : Nat} {v : Int} (h : A a) : Fm A M (putI M a k v) := ⟨fun b hb => ⟨up2_ne (fun q => hb (q ▸ h)), Eq.refl _⟩, Eq.refl _⟩
theorem Fm.putL {A : Nat → Prop} {M : Mem} {a k : Nat} {v : Int} (h : A a) : Fm A M (putL M a k v) := ⟨fun b hb => ⟨Eq.refl _, up2_ne (fun q => hb (q ▸ h))⟩, Eq.refl _⟩
section Frm
variable {S : Nat → Nat → Prop} {A : Nat → Prop}
theorem Sm.nil : Sm S [] := fun _ h => by cases h
theorem Sm.tl {v : mv} {r : List mv} (h : Sm S (v :: r)) : Sm S r := fun w hw => h w (List.mem_cons_of_mem _ hw)
theorem Sm.hd {v : mv} {r : List mv} (h : Sm S (v :: r)) : InS S v := h v List.mem_cons_self
theorem Sm.cons {v : mv} {r : List mv} (g : InS S v) (h : Sm S r) : Sm S (v :: r) := fun w hw => by
  rcases List.mem_cons.mp hw with rfl | hw
  · exact g
  · exact h w hw
theorem Sm.i {x : Int} {r : List mv} (h : Sm S r) : Sm S (vI x :: r) := Sm.cons trivial h
theorem Sm.l {x : Int} {r : List mv} (h : Sm S r) : Sm S (vL x :: r) := Sm.cons trivial h
theorem Sm.r {t a : Nat} {r : List mv} (g : S t a) (h : Sm S r) : Sm S (vR t a :: r) := Sm.cons g h
theorem Sm.take {n : Nat} {r : List mv} (h : Sm S r) : Sm S (r.take n) := fun w hw => h w (List.mem_of_mem_take hw)
theorem Sm.drop {n : Nat} {r : List mv} (h : Sm S r) : Sm S (r.drop n) := fun w hw => h w (List.mem_of_mem_drop hw)
theorem Sm.rev {r : List mv} (h : Sm S r) : Sm S r.reverse := fun w hw => h w (List.mem_reverse.mp hw)
theorem Lm.get {lv : LV} {n : Nat} {v : mv} (h : Lm S lv) (g : lvGet lv n = some v) : InS S v := by
  induction lv with
  | nil => cases g
  | cons q l ih =>
    have g' : (bif Nat.beq q.1 n then some q.2 else lvGet l n) = some v := g
    cases hb : Nat.beq q.1 n with
    | true =>
      rw [hb] at g'
      have e : q.2 = v := Option.some.inj g'
      exact e ▸ h q List.mem_cons_self
    | false =>
      rw [hb] at g'
      exact ih (fun p hp => h p (List.mem_cons_of_mem _ hp)) g'
theorem Lm.only {ks : List Nat} {lv : LV} (h : Lm S lv) : Lm S (lvOnly ks lv) := by
  induction lv with
  | nil => exact h
  | cons q l ih =>
    have h2 : Lm S l := fun p hp => h p (List.mem_cons_of_mem _ hp)
    intro p hp
    have hp' : p ∈ (bif hasK q.1 ks then q :: lvOnly ks l else lvOnly ks l) := hp
    cases hb : hasK q.1 ks with
    | true =>
      rw [hb] at hp'
      rcases List.mem_cons.mp hp' with rfl | hp'
      · exact h _ List.mem_cons_self
      · exact ih h2 p hp'
    | false =>
      rw [hb] at hp'
      exact ih h2 p hp'
theorem Lm.cut {kp : Option (List Nat)} {lv : LV} (h : Lm S lv) : Lm S (lvCut kp lv) := by
  cases kp with
  | none => exact h
  | some ks => exact Lm.only h
theorem Lm.del {k : Nat} {b : Bool} {lv : LV} (h : Lm S lv) : Lm S (lvDel k b lv) := by
  induction lv with
  | nil => exact h
  | cons q l ih =>
    have h2 : Lm S l := fun p hp => h p (List.mem_cons_of_mem _ hp)
    intro p hp
    have hp' : p ∈ (bif (Nat.beq q.1 k || (Nat.beq (q.1 + 1) k && isL q.2)) || (b && Nat.beq q.1 (k + 1)) then lvDel k b l else q :: lvDel k b l) := hp
    cases hb : (Nat.beq q.1 k || (Nat.beq (q.1 + 1) k && isL q.2)) || (b && Nat.beq q.1 (k + 1)) with
    | true =>
      rw [hb] at hp'
      exact ih h2 p hp'
    | false =>
      rw [hb] at hp'
      rcases List.mem_cons.mp hp' with rfl | hp'
      · exact h _ List.mem_cons_self
      · exact ih h2 p hp'
theorem Lm.ins {k : Nat} {v : mv} {lv : LV} (g : InS S v) (h : Lm S lv) : Lm S (lvIns k v lv) := by
  induction lv with
  | nil =>
    intro p hp
    rcases List.mem_cons.mp hp with rfl | hp
    · exact g
    · cases hp
  | cons q l ih =>
    have h2 : Lm S l := fun p hp => h p (List.mem_cons_of_mem _ hp)
    intro p hp
    have hp' : p ∈ (bif Nat.ble k q.1 then (k, v) :: q :: l else q :: lvIns k v l) := hp
    cases hb : Nat.ble k q.1 with
    | true =>
      rw [hb] at hp'
      rcases List.mem_cons.mp hp' with rfl | hp'
      · exact g
      · exact h _ hp'
    | false =>
      rw [hb] at hp'
      rcases List.mem_cons.mp hp' with rfl | hp'
      · exact h _ List.mem_cons_self
      · exact ih h2 p hp'
theorem Lm.set {k : Nat} {v : mv} {lv : LV} (g : InS S v) (h : Lm S lv) : Lm S (lvSet lv k v) := Lm.ins g (Lm.del h)
theorem Lm.ent : ∀ {l : List mv} (n : Nat), Sm S l → Lm S (ent n l)
  | [], _, _ => fun _ h => by cases h
  | v :: l, n, h => fun p hp => by
    rcases List.mem_cons.mp hp with rfl | hp
    · exact h.hd
    · exact Lm.ent _ h.tl p hp
/-- what comes out of an instruction -/
def FP (S : Nat → Nat → Prop) (A : Nat → Prop) (M : Mem) (o : Out) : Prop := match o with
  | .inl (_, lv, st, M') => Lm S lv ∧ Sm S st ∧ Fm A M M'
  | .inr (.inl (_, _, lv, st)) => Lm S lv ∧ Sm S st
  | .inr (.inr r) => ∀ v, r = some v → InS S v
theorem FPI {P : Out → Prop} {β : Type} {st : List mv} {B : Int → List mv → (Out → Option β) → Option β} (h : Sm S st) (ha : ∀ x r, Sm S r → LinP P (B x r)) : LinP P (fun K => pI st fun x r => B x r K) := by
  rcases st with _ | ⟨_ | _ | _, r⟩
  · exact Or.inl fun _ => Eq.refl _
  · exact ha _ _ h.tl
  · exact Or.inl fun _ => Eq.refl _
  · exact Or.inl fun _ => Eq.refl _
theorem FPL {P : Out → Prop} {β : Type} {st : List mv} {B : Int → List mv → (Out → Option β) → Option β} (h : Sm S st) (ha : ∀ x r, Sm S r → LinP P (B x r)) : LinP P (fun K => pL st fun x r => B x r K) := by
  rcases st with _ | ⟨_ | _ | _, r⟩
  · exact Or.inl fun _ => Eq.refl _
  · exact Or.inl fun _ => Eq.refl _
  · exact ha _ _ h.tl
  · exact Or.inl fun _ => Eq.refl _
theorem FPR {P : Out → Prop} {β : Type} {st : List mv} {B : Nat → Nat → List mv → (Out → Option β) → Option β} (h : Sm S st) (ha : ∀ t a r, S t a → Sm S r → LinP P (B t a r)) : LinP P (fun K => pR st fun t a r => B t a r K) := by
  rcases st with _ | ⟨_ | _ | ⟨_, _⟩, r⟩
  · exact Or.inl fun _ => Eq.refl _
  · exact Or.inl fun _ => Eq.refl _
  · exact Or.inl fun _ => Eq.refl _
  · exact ha _ _ _ h.hd h.tl
theorem FPU {P : Out → Prop} {β : Type} {o : Option mv} {B : Nat → Nat → (Out → Option β) → Option β} (h : ∀ v, o = some v → InS S v) (ha : ∀ t a, S t a → LinP P (B t a)) : LinP P (fun K => pO o fun v => pU v fun t a => B t a K) := by
  rcases o with _ | ⟨_ | _ | ⟨_, _⟩⟩
  · exact Or.inl fun _ => Eq.refl _
  · exact Or.inl fun _ => Eq.refl _
  · exact Or.inl fun _ => Eq.refl _
  · exact ha _ _ (h _ (Eq.refl _))
theorem FPB {P : Out → Prop} {β : Type} {b : Bool} {B : (Out → Option β) → Option β} (ha : b = true → LinP P B) : LinP P (fun K => pB b (B K)) := by
  cases b
  · exact Or.inl fun _ => Eq.refl _
  · exact ha (Eq.refl _)
theorem FPO {P : Out → Prop} {β α : Type} {o : Option α} {B : α → (Out → Option β) → Option β} (ha : ∀ x, o = some x → LinP P (B x)) : LinP P (fun K => pO o fun x => B x K) := by
  cases o
  · exact Or.inl fun _ => Eq.refl _
  · exact ha _ (Eq.refl _)
theorem FPT {P : Out → Prop} {β : Type} {c : Prop} {hc : Decidable c} {B C : (Out → Option β) → Option β} (ha : c → LinP P B) (hb : LinP P C) : LinP P (fun K => @_root_.ite _ c hc (B K) (C K)) := by
  by_cases h : c
  · simp only [h, if_true]; exact ha h
  · simp only [h, if_false]; exact hb
def Clo (S : Nat → Nat → Prop) (A : Nat → Prop) : Prop := (∀ f a q, S (f / 100) a → GF f a = some q → S q.1 q.2) ∧ (∀ t a i q, S t a → i < alen t → EF t a i = some q → S q.1 q.2) ∧ (∀ t a, S t a → t < 90 → A a) ∧ S 91 0 ∧ S 92 0
def okF (i : Instr) : Bool := match i with
  | .putfield f => Nat.ble f 8999
  | .ret f => Nat.ble f 8999
  | .putstatic f => Nat.ble f 8999
  | _ => true
def okW (l : List Row) : Bool := l.all fun q => okF q.2.2
theorem f90 {t f : Nat} (h : Nat.beq t (f / 100) = true) (g : Nat.ble f 8999 = true) : t < 90 := by
  have h1 := Nat.eq_of_beq_eq_true h
  have h2 := Nat.le_of_ble_eq_true g
  omega
theorem k90 {t k : Nat} (h : Nat.beq (akind t) k = true) (g : k < 9) : t < 90 := by
  have h1 := Nat.eq_of_beq_eq_true h
  have h3 : ¬ 41 ≤ t := by
    intro h4
    have h6 : akind t = 9 := by
      unfold akind
      have : Nat.ble 20 t = true := Nat.ble_eq_true_of_le (by omega)
      rw [this]
      show (atab.getD (t - 20) (9, 0, 0)).1 = 9
      rw [List.getD_eq_getElem?_getD, List.getElem?_eq_none (by
        have : atab.length = 21 := Eq.refl _
        omega)]
      rfl
    omega
  omega

set_option maxHeartbeats 4000000 in
theorem act_frame {β : Type} (hc : Clo S A) (i : Instr) (hi : okF i = true) (lv : LV) (hl : Lm S lv) (st : List mv) (hs : Sm S st) (M : Mem) : LinP (FP S A M) (fun K : Out → Option β => act GR2 i lv st M K) := by
  cases i
  all_goals try exact LinP.no
  case aload n => exact FPU (fun v e => hl.get e) fun t a g => LinP.k ⟨hl, Sm.r g hs, Fm.rfl⟩
  case astore n => exact FPR hs fun t a r g hr => LinP.k ⟨Lm.set (v := vR t a) g hl, hr, Fm.rfl⟩
  case checkcast f => exact FPR hs fun t a r g hr => FPB fun e => FPO fun q hq => LinP.k ⟨hl, Sm.r (hc.1 f a q (Nat.eq_of_beq_eq_true e ▸ g) hq) hr, Fm.rfl⟩
  case aaload => exact FPI hs fun x r hr => FPR hr fun t a r g hr => FPB fun e => FPT (fun hx => FPO fun q hq => LinP.k ⟨hl, Sm.r (hc.2.1 t a x.toNat q g (by omega) hq) hr, Fm.rfl⟩) LinP.no
  case putfield f => exact FPI hs fun x r hr => FPR hr fun t a r g hr => FPB fun e => LinP.k ⟨hl, hr, Fm.putI (hc.2.2.1 t a g (f90 e hi))⟩
  case ret f => exact FPI hs fun x r hr => FPR hr fun t a r g hr => FPB fun e => LinP.ite (LinP.k ⟨hl, hr, Fm.putI (hc.2.2.1 t a g (f90 e hi))⟩) LinP.no
  case putstatic f => exact FPL hs fun x r hr => FPR hr fun t a r g hr => FPB fun e => LinP.k ⟨hl, hr, Fm.putL (hc.2.2.1 t a g (f90 e hi))⟩
  case iastore => exact FPI hs fun x r hr => FPI hr fun y r hr => FPR hr fun t a r g hr => FPB fun e => LinP.ite (LinP.k ⟨hl, hr, Fm.putI (hc.2.2.1 t a g (k90 e (by omega)))⟩) LinP.no
  case bastore => exact FPI hs fun x r hr => FPI hr fun y r hr => FPR hr fun t a r g hr => FPB fun e => LinP.ite (LinP.k ⟨hl, hr, Fm.putI (hc.2.2.1 t a g (k90 e (by omega)))⟩) LinP.no
  case lastore => exact FPL hs fun x r hr => FPI hr fun y r hr => FPR hr fun t a r g hr => FPB fun e => LinP.ite (LinP.k ⟨hl, hr, Fm.putL (hc.2.2.1 t a g (k90 e (by omega)))⟩) LinP.no
  case dadd =>
    refine FPI hs fun n r hr => FPI hr fun dp r hr => FPR hr fun t2 a2 r g2 hr => FPI hr fun sp r hr => FPR hr fun t1 a1 r g1 hr => FPB fun e => LinP.ite (LinP.k ⟨hl, hr, ⟨fun b hb => ⟨?_, Eq.refl _⟩, Eq.refl _⟩⟩) LinP.no
    funext j
    have e2 : Nat.beq (akind t2) 0 = true := by
      revert e
      cases Nat.beq (akind t2) 0
      · cases Nat.beq (akind t1) 0 <;> exact fun e => by cases e
      · exact fun _ => Eq.refl _
    exact if_neg (fun q : b = a2 ∧ dp.toNat ≤ j ∧ j < dp.toNat + n.toNat => hb (q.1 ▸ hc.2.2.1 t2 a2 g2 (k90 e2 (by omega))))
  case dsub =>
    refine FPI hs fun n r hr => FPI hr fun dp r hr => FPR hr fun t2 a2 r g2 hr => FPI hr fun sp r hr => FPR hr fun t1 a1 r g1 hr => FPB fun e => LinP.ite (LinP.k ⟨hl, hr, ⟨fun b hb => ⟨Eq.refl _, ?_⟩, Eq.refl _⟩⟩) LinP.no
    funext j
    have e2 : Nat.beq (akind t2) 1 = true := by
      revert e
      cases Nat.beq (akind t2) 1
      · cases Nat.beq (akind t1) 1 <;> exact fun e => by cases e
      · exact fun _ => Eq.refl _
    exact if_neg (fun q : b = a2 ∧ dp.toNat ≤ j ∧ j < dp.toNat + n.toNat => hb (q.1 ▸ hc.2.2.1 t2 a2 g2 (k90 e2 (by omega))))
  case dastore => exact LinP.k ⟨hl, Sm.r hc.2.2.2.1 hs, Fm.rfl⟩
  case castore => exact LinP.k ⟨hl, Sm.r hc.2.2.2.2 hs, Fm.rfl⟩
  case invokestatic j => exact LinP.k ⟨hl, hs⟩
  case invokevirtual j => exact LinP.k ⟨hl, hs⟩
  case invokespecial j => exact FPR hs fun t a r g hr => LinP.pB (LinP.k ⟨hl, hr, Fm.rfl⟩)
  case areturn =>
    refine FPR hs fun t a r g hr => ?_
    rcases r with _ | ⟨v, r⟩
    · exact LinP.k fun v e => by
        have := Option.some.inj e
        exact this ▸ g
    · exact LinP.no
  case dup =>
    rcases st with _ | ⟨v, r⟩
    · exact LinP.no
    · exact LinP.pB (LinP.k ⟨hl, Sm.cons hs.hd hs, Fm.rfl⟩)
  case dup2 =>
    rcases st with _ | ⟨v, _ | ⟨w, r⟩⟩
    · exact LinP.no
    · exact LinP.no
    · exact LinP.pB (LinP.k ⟨hl, Sm.cons hs.hd (Sm.cons hs.tl.hd hs), Fm.rfl⟩)
  case pop =>
    rcases st with _ | ⟨v, r⟩
    · exact LinP.no
    · exact LinP.pB (LinP.k ⟨hl, hs.tl, Fm.rfl⟩)
  case return_ =>
    rcases st with _ | ⟨v, r⟩
    · exact LinP.k fun v e => by cases e
    · exact LinP.no
  case ireturn =>
    refine FPI hs fun x r hr => ?_
    rcases r with _ | ⟨v, r⟩
    · exact LinP.k fun v e => by
        have := Option.some.inj e
        exact this ▸ trivial
    · exact LinP.no
  case freturn =>
    refine FPI hs fun x r hr => ?_
    rcases r with _ | ⟨v, r⟩
    · exact LinP.ite (LinP.k fun v e => by
        have := Option.some.inj e
        exact this ▸ trivial) LinP.no
    · exact LinP.no
  case lreturn =>
    refine FPL hs fun x r hr => ?_
    rcases r with _ | ⟨v, r⟩
    · exact LinP.k fun v e => by
        have := Option.some.inj e
        exact this ▸ trivial
    · exact LinP.no
  all_goals first
    | exact LinP.k (by first
      | exact ⟨hl, Sm.i (by assumption), Fm.rfl⟩
      | exact ⟨hl, Sm.l (by assumption), Fm.rfl⟩
      | exact ⟨hl, by assumption, Fm.rfl⟩
      | exact ⟨Lm.set (v := vI _) trivial hl, by assumption, Fm.rfl⟩
      | exact ⟨Lm.set (v := vL _) trivial hl, by assumption, Fm.rfl⟩
      | exact ⟨hl, by assumption⟩)
    | exact FPI hs fun _ _ hr => LinP.k (by first
      | exact ⟨hl, Sm.i (by assumption), Fm.rfl⟩
      | exact ⟨hl, Sm.l (by assumption), Fm.rfl⟩
      | exact ⟨hl, by assumption, Fm.rfl⟩
      | exact ⟨Lm.set (v := vI _) trivial hl, by assumption, Fm.rfl⟩
      | exact ⟨Lm.set (v := vL _) trivial hl, by assumption, Fm.rfl⟩
      | exact ⟨hl, by assumption⟩)
    | exact FPL hs fun _ _ hr => LinP.k (by first
      | exact ⟨hl, Sm.i (by assumption), Fm.rfl⟩
      | exact ⟨hl, Sm.l (by assumption), Fm.rfl⟩
      | exact ⟨hl, by assumption, Fm.rfl⟩
      | exact ⟨Lm.set (v := vI _) trivial hl, by assumption, Fm.rfl⟩
      | exact ⟨Lm.set (v := vL _) trivial hl, by assumption, Fm.rfl⟩
      | exact ⟨hl, by assumption⟩)
    | exact FPR hs fun _ _ _ _ hr => LinP.k (by first
      | exact ⟨hl, Sm.i (by assumption), Fm.rfl⟩
      | exact ⟨hl, Sm.l (by assumption), Fm.rfl⟩
      | exact ⟨hl, by assumption, Fm.rfl⟩
      | exact ⟨Lm.set (v := vI _) trivial hl, by assumption, Fm.rfl⟩
      | exact ⟨Lm.set (v := vL _) trivial hl, by assumption, Fm.rfl⟩
      | exact ⟨hl, by assumption⟩)
    | exact FPI hs fun _ _ hr => FPI hr fun _ _ hr => LinP.k (by first
      | exact ⟨hl, Sm.i (by assumption), Fm.rfl⟩
      | exact ⟨hl, Sm.l (by assumption), Fm.rfl⟩
      | exact ⟨hl, by assumption, Fm.rfl⟩
      | exact ⟨Lm.set (v := vI _) trivial hl, by assumption, Fm.rfl⟩
      | exact ⟨Lm.set (v := vL _) trivial hl, by assumption, Fm.rfl⟩
      | exact ⟨hl, by assumption⟩)
    | exact FPL hs fun _ _ hr => FPL hr fun _ _ hr => LinP.k (by first
      | exact ⟨hl, Sm.i (by assumption), Fm.rfl⟩
      | exact ⟨hl, Sm.l (by assumption), Fm.rfl⟩
      | exact ⟨hl, by assumption, Fm.rfl⟩
      | exact ⟨Lm.set (v := vI _) trivial hl, by assumption, Fm.rfl⟩
      | exact ⟨Lm.set (v := vL _) trivial hl, by assumption, Fm.rfl⟩
      | exact ⟨hl, by assumption⟩)
    | exact FPI hs fun _ _ hr => FPL hr fun _ _ hr => LinP.k (by first
      | exact ⟨hl, Sm.i (by assumption), Fm.rfl⟩
      | exact ⟨hl, Sm.l (by assumption), Fm.rfl⟩
      | exact ⟨hl, by assumption, Fm.rfl⟩
      | exact ⟨Lm.set (v := vI _) trivial hl, by assumption, Fm.rfl⟩
      | exact ⟨Lm.set (v := vL _) trivial hl, by assumption, Fm.rfl⟩
      | exact ⟨hl, by assumption⟩)
    | exact FPI hs fun _ _ hr => FPI hr fun _ _ hr => LinP.ite LinP.no (LinP.k (by first
      | exact ⟨hl, Sm.i (by assumption), Fm.rfl⟩
      | exact ⟨hl, Sm.l (by assumption), Fm.rfl⟩
      | exact ⟨hl, by assumption, Fm.rfl⟩
      | exact ⟨Lm.set (v := vI _) trivial hl, by assumption, Fm.rfl⟩
      | exact ⟨Lm.set (v := vL _) trivial hl, by assumption, Fm.rfl⟩
      | exact ⟨hl, by assumption⟩))
    | exact FPL hs fun _ _ hr => FPL hr fun _ _ hr => LinP.ite LinP.no (LinP.k (by first
      | exact ⟨hl, Sm.i (by assumption), Fm.rfl⟩
      | exact ⟨hl, Sm.l (by assumption), Fm.rfl⟩
      | exact ⟨hl, by assumption, Fm.rfl⟩
      | exact ⟨Lm.set (v := vI _) trivial hl, by assumption, Fm.rfl⟩
      | exact ⟨Lm.set (v := vL _) trivial hl, by assumption, Fm.rfl⟩
      | exact ⟨hl, by assumption⟩))
    | exact LinP.pO fun _ => LinP.pV fun _ => LinP.k (by first
      | exact ⟨hl, Sm.i (by assumption), Fm.rfl⟩
      | exact ⟨hl, Sm.l (by assumption), Fm.rfl⟩
      | exact ⟨hl, by assumption, Fm.rfl⟩
      | exact ⟨Lm.set (v := vI _) trivial hl, by assumption, Fm.rfl⟩
      | exact ⟨Lm.set (v := vL _) trivial hl, by assumption, Fm.rfl⟩
      | exact ⟨hl, by assumption⟩)
    | exact LinP.pO fun _ => LinP.pW fun _ => LinP.k (by first
      | exact ⟨hl, Sm.i (by assumption), Fm.rfl⟩
      | exact ⟨hl, Sm.l (by assumption), Fm.rfl⟩
      | exact ⟨hl, by assumption, Fm.rfl⟩
      | exact ⟨Lm.set (v := vI _) trivial hl, by assumption, Fm.rfl⟩
      | exact ⟨Lm.set (v := vL _) trivial hl, by assumption, Fm.rfl⟩
      | exact ⟨hl, by assumption⟩)
    | exact FPI hs fun _ _ hr => LinP.cmp (LinP.k (by first
      | exact ⟨hl, Sm.i (by assumption), Fm.rfl⟩
      | exact ⟨hl, Sm.l (by assumption), Fm.rfl⟩
      | exact ⟨hl, by assumption, Fm.rfl⟩
      | exact ⟨Lm.set (v := vI _) trivial hl, by assumption, Fm.rfl⟩
      | exact ⟨Lm.set (v := vL _) trivial hl, by assumption, Fm.rfl⟩
      | exact ⟨hl, by assumption⟩)) (LinP.k (by first
      | exact ⟨hl, Sm.i (by assumption), Fm.rfl⟩
      | exact ⟨hl, Sm.l (by assumption), Fm.rfl⟩
      | exact ⟨hl, by assumption, Fm.rfl⟩
      | exact ⟨Lm.set (v := vI _) trivial hl, by assumption, Fm.rfl⟩
      | exact ⟨Lm.set (v := vL _) trivial hl, by assumption, Fm.rfl⟩
      | exact ⟨hl, by assumption⟩))
    | exact FPI hs fun _ _ hr => FPI hr fun _ _ hr => LinP.cmp (LinP.k (by first
      | exact ⟨hl, Sm.i (by assumption), Fm.rfl⟩
      | exact ⟨hl, Sm.l (by assumption), Fm.rfl⟩
      | exact ⟨hl, by assumption, Fm.rfl⟩
      | exact ⟨Lm.set (v := vI _) trivial hl, by assumption, Fm.rfl⟩
      | exact ⟨Lm.set (v := vL _) trivial hl, by assumption, Fm.rfl⟩
      | exact ⟨hl, by assumption⟩)) (LinP.k (by first
      | exact ⟨hl, Sm.i (by assumption), Fm.rfl⟩
      | exact ⟨hl, Sm.l (by assumption), Fm.rfl⟩
      | exact ⟨hl, by assumption, Fm.rfl⟩
      | exact ⟨Lm.set (v := vI _) trivial hl, by assumption, Fm.rfl⟩
      | exact ⟨Lm.set (v := vL _) trivial hl, by assumption, Fm.rfl⟩
      | exact ⟨hl, by assumption⟩))
    | exact FPI hs fun _ _ hr => LinP.tb (fun _ => LinP.k (by first
      | exact ⟨hl, Sm.i (by assumption), Fm.rfl⟩
      | exact ⟨hl, Sm.l (by assumption), Fm.rfl⟩
      | exact ⟨hl, by assumption, Fm.rfl⟩
      | exact ⟨Lm.set (v := vI _) trivial hl, by assumption, Fm.rfl⟩
      | exact ⟨Lm.set (v := vL _) trivial hl, by assumption, Fm.rfl⟩
      | exact ⟨hl, by assumption⟩)) _ _
    | exact FPI hs fun _ _ hr => LinP.lu (fun _ => LinP.k (by first
      | exact ⟨hl, Sm.i (by assumption), Fm.rfl⟩
      | exact ⟨hl, Sm.l (by assumption), Fm.rfl⟩
      | exact ⟨hl, by assumption, Fm.rfl⟩
      | exact ⟨Lm.set (v := vI _) trivial hl, by assumption, Fm.rfl⟩
      | exact ⟨Lm.set (v := vL _) trivial hl, by assumption, Fm.rfl⟩
      | exact ⟨hl, by assumption⟩)) _
    | exact FPR hs fun _ _ _ _ hr => LinP.pB (LinP.k (by first
      | exact ⟨hl, Sm.i (by assumption), Fm.rfl⟩
      | exact ⟨hl, Sm.l (by assumption), Fm.rfl⟩
      | exact ⟨hl, by assumption, Fm.rfl⟩
      | exact ⟨Lm.set (v := vI _) trivial hl, by assumption, Fm.rfl⟩
      | exact ⟨Lm.set (v := vL _) trivial hl, by assumption, Fm.rfl⟩
      | exact ⟨hl, by assumption⟩))
    | exact FPI hs fun _ _ hr => FPR hr fun _ _ _ _ hr => LinP.pB (LinP.ite (LinP.k (by first
      | exact ⟨hl, Sm.i (by assumption), Fm.rfl⟩
      | exact ⟨hl, Sm.l (by assumption), Fm.rfl⟩
      | exact ⟨hl, by assumption, Fm.rfl⟩
      | exact ⟨Lm.set (v := vI _) trivial hl, by assumption, Fm.rfl⟩
      | exact ⟨Lm.set (v := vL _) trivial hl, by assumption, Fm.rfl⟩
      | exact ⟨hl, by assumption⟩)) LinP.no)
theorem okW_tl {q : Row} {l : List Row} (h : okW (q :: l) = true) : okF q.2.2 = true ∧ okW l = true := by
  unfold okW at h
  rw [List.all_cons, Bool.and_eq_true] at h
  exact h
theorem okW_drop {l : List Row} (n : Nat) (h : okW l = true) : okW (l.drop n) = true := by
  unfold okW at h ⊢
  rw [List.all_eq_true] at h ⊢
  exact fun q hq => h q (List.mem_of_mem_drop hq)
theorem run_frame (hc : Clo S A) (hm : ∀ j, okW (MT j).1 = true) : ∀ (n d : Nat) (all rows : List Row) (lv : LV) (st : List mv) (M : Mem) (r : Option mv) (Mf : Mem), okW all = true → okW rows = true → Lm S lv → Sm S st → run GR2 MT n d all rows lv st M = some (r, Mf) → Fm A M Mf ∧ ∀ v, r = some v → InS S v
  | 0, _, _, _, _, _, _, _, _, _, _, _, _, h => by cases h
  | n + 1, d, all, rows, lv, st, M, r, Mf, ha, hw, hl, hs, h => by
    rcases rows with _ | ⟨⟨pc, kp, i⟩, tl⟩
    · cases h
    · have hw2 := okW_tl hw
      rcases act_frame (β := Res) hc i hw2.1 (lvCut kp lv) hl.cut st hs M with hn | ⟨o, hg, ho⟩
      · have h2 : run GR2 MT (n + 1) d all ((pc, kp, i) :: tl) lv st M = none := hn (KK MT (run GR2 MT n) (run GR2 MT n) d all tl M)
        rw [h2] at h; cases h
      · have h1 : KK MT (run GR2 MT n) (run GR2 MT n) d all tl M o = some (r, Mf) := (ho (KK MT (run GR2 MT n) (run GR2 MT n) d all tl M)).symm.trans h
        rcases o with ⟨_ | ix, lv', st', M'⟩ | ⟨rc, j, lv', st'⟩ | r'
        · have q := run_frame hc hm n _ _ _ _ _ _ _ _ ha hw2.2 hg.1 hg.2.1 h1
          exact ⟨hg.2.2.tr q.1, q.2⟩
        · have q := run_frame hc hm n _ _ _ _ _ _ _ _ ha (okW_drop _ ha) hg.1 hg.2.1 h1
          exact ⟨hg.2.2.tr q.1, q.2⟩
        · dsimp only [KK] at h1
          have step : ∀ d', (match (MT j).2.2.2 with
              | 0 => bV (run GR2 MT n d' (MT j).1 (MT j).1 (ent 0 (st'.take (MT j).2.1).reverse) [] M) fun M => run GR2 MT n d all tl lv' (st'.drop (MT j).2.1) M
              | 1 => bI (run GR2 MT n d' (MT j).1 (MT j).1 (ent 0 (st'.take (MT j).2.1).reverse) [] M) fun x M => run GR2 MT n d all tl lv' (vI x :: st'.drop (MT j).2.1) M
              | 2 => bL (run GR2 MT n d' (MT j).1 (MT j).1 (ent 0 (st'.take (MT j).2.1).reverse) [] M) fun x M => run GR2 MT n d all tl lv' (vL x :: st'.drop (MT j).2.1) M
              | k + 3 => bR k (run GR2 MT n d' (MT j).1 (MT j).1 (ent 0 (st'.take (MT j).2.1).reverse) [] M) fun a M => run GR2 MT n d all tl lv' (vR k a :: st'.drop (MT j).2.1) M) = some (r, Mf) → Fm A M Mf ∧ ∀ v, r = some v → InS S v := by
            intro d'
            have en : Lm S (ent 0 (st'.take (MT j).2.1).reverse) := Lm.ent 0 hg.2.take.rev
            split
            · intro h
              obtain ⟨M1, e1, e2⟩ := bV_fin h
              have q1 := run_frame hc hm n _ _ _ _ _ _ _ _ (hm j) (hm j) en Sm.nil e1
              have q2 := run_frame hc hm n _ _ _ _ _ _ _ _ ha hw2.2 hg.1 hg.2.drop e2
              exact ⟨q1.1.tr q2.1, q2.2⟩
            · intro h
              obtain ⟨x1, M1, e1, e2⟩ := bI_fin h
              have q1 := run_frame hc hm n _ _ _ _ _ _ _ _ (hm j) (hm j) en Sm.nil e1
              have q2 := run_frame hc hm n _ _ _ _ _ _ _ _ ha hw2.2 hg.1 (Sm.i hg.2.drop) e2
              exact ⟨q1.1.tr q2.1, q2.2⟩
            · intro h
              obtain ⟨x1, M1, e1, e2⟩ := bL_fin h
              have q1 := run_frame hc hm n _ _ _ _ _ _ _ _ (hm j) (hm j) en Sm.nil e1
              have q2 := run_frame hc hm n _ _ _ _ _ _ _ _ ha hw2.2 hg.1 (Sm.l hg.2.drop) e2
              exact ⟨q1.1.tr q2.1, q2.2⟩
            · intro h
              obtain ⟨x1, M1, e1, e2⟩ := bR_fin h
              have q1 := run_frame hc hm n _ _ _ _ _ _ _ _ (hm j) (hm j) en Sm.nil e1
              have q2 := run_frame hc hm n _ _ _ _ _ _ _ _ ha hw2.2 hg.1 (Sm.r (q1.2 _ (Eq.refl _)) hg.2.drop) e2
              exact ⟨q1.1.tr q2.1, q2.2⟩
          cases hk : okC (MT j) st' with
          | false => rw [hk] at h1; cases h1
          | true =>
            rw [hk] at h1
            cases rc with
            | false => exact step d h1
            | true =>
              cases d with
              | zero => cases h1
              | succ d => exact step d h1
        · cases h1; exact ⟨Fm.rfl, hg⟩
end Frm
theorem mtW : (List.range 20).all (fun k => (mtT.getD k []).all fun m => okW m.1) = true := by decide +kernel
theorem okW_MT (j : Nat) : okW (MT j).1 = true := by
  have h := List.all_eq_true.mp mtW
  unfold MT
  by_cases hj : j / 20 < 20
  · have h2 := h (j / 20) (List.mem_range.mpr hj)
    have h3 := List.all_eq_true.mp h2
    by_cases hk : j % 20 < (mtT.getD (j / 20) []).length
    · have e : (mtT.getD (j / 20) []).getD (j % 20) ([], 0, 0, 0) = (mtT.getD (j / 20) [])[j % 20] := by
        rw [List.getD_eq_getElem?_getD, List.getElem?_eq_getElem hk]; rfl
      rw [e]
      exact h3 _ (List.getElem_mem hk)
    · rw [List.getD_eq_getElem?_getD, List.getElem?_eq_none (by omega)]; rfl
  · have e : mtT.getD (j / 20) [] = [] := by
      rw [List.getD_eq_getElem?_getD, List.getElem?_eq_none (by
        have : mtT.length ≤ 20 := by decide
        omega)]
      rfl
    rw [e]; rfl
/-- the frame of a call -/
theorem C2_frame {S : Nat → Nat → Prop} {A : Nat → Prop} (hc : Clo S A) {d j : Nat} {args : List mv} {M : Mem} {r : Option mv} {M' : Mem} (ha : Sm S args) (h : C2 d j args M = some (r, M')) : Fm A M M' := by
  obtain ⟨n, hn⟩ := (DD_some GR2 MT).mp h
  exact (run_frame hc okW_MT n _ _ _ _ _ _ _ _ (okW_MT j) (okW_MT j) (Lm.ent 0 ha) Sm.nil hn).1

