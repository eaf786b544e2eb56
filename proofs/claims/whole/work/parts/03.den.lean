/-! what a run comes to, without a count of steps -/
def Lin {β : Type} (A : (Out → Option β) → Option β) : Prop := (∀ K, A K = none) ∨ ∃ o, ∀ K, A K = K o
theorem Lin.no {β : Type} : Lin (fun _ : Out → Option β => none) := Or.inl fun _ => rfl
theorem Lin.k {β : Type} (o : Out) : Lin (fun K : Out → Option β => K o) := Or.inr ⟨o, fun _ => rfl⟩
theorem Lin.ite {β : Type} {c : Prop} {hc : Decidable c} {A B : (Out → Option β) → Option β} (ha : Lin A) (hb : Lin B) : Lin (fun K => @_root_.ite _ c hc (A K) (B K)) := by
  by_cases h : c
  · simp only [h, if_true]; exact ha
  · simp only [h, if_false]; exact hb
theorem Lin.pB {β : Type} {b : Bool} {A : (Out → Option β) → Option β} (ha : Lin A) : Lin (fun K => pB b (A K)) := by
  cases b
  · exact Or.inl fun _ => rfl
  · exact ha
theorem Lin.pO {β α : Type} {o : Option α} {A : α → (Out → Option β) → Option β} (ha : ∀ x, Lin (A x)) : Lin (fun K => pO o fun x => A x K) := by
  cases o
  · exact Or.inl fun _ => rfl
  · exact ha _
theorem Lin.pI {β : Type} {st : List mv} {A : Int → List mv → (Out → Option β) → Option β} (ha : ∀ x r, Lin (A x r)) : Lin (fun K => pI st fun x r => A x r K) := by
  rcases st with _ | ⟨_ | _ | _, r⟩
  · exact Or.inl fun _ => rfl
  · exact ha _ _
  · exact Or.inl fun _ => rfl
  · exact Or.inl fun _ => rfl
theorem Lin.pL {β : Type} {st : List mv} {A : Int → List mv → (Out → Option β) → Option β} (ha : ∀ x r, Lin (A x r)) : Lin (fun K => pL st fun x r => A x r K) := by
  rcases st with _ | ⟨_ | _ | _, r⟩
  · exact Or.inl fun _ => rfl
  · exact Or.inl fun _ => rfl
  · exact ha _ _
  · exact Or.inl fun _ => rfl
theorem Lin.pR {β : Type} {st : List mv} {A : Nat → Nat → List mv → (Out → Option β) → Option β} (ha : ∀ t a r, Lin (A t a r)) : Lin (fun K => pR st fun t a r => A t a r K) := by
  rcases st with _ | ⟨_ | _ | ⟨_, _⟩, r⟩
  · exact Or.inl fun _ => rfl
  · exact Or.inl fun _ => rfl
  · exact Or.inl fun _ => rfl
  · exact ha _ _ _
theorem Lin.pV {β : Type} {v : mv} {A : Int → (Out → Option β) → Option β} (ha : ∀ x, Lin (A x)) : Lin (fun K => pV v fun x => A x K) := by
  rcases v with _ | _ | _
  · exact ha _
  · exact Or.inl fun _ => rfl
  · exact Or.inl fun _ => rfl
theorem Lin.pW {β : Type} {v : mv} {A : Int → (Out → Option β) → Option β} (ha : ∀ x, Lin (A x)) : Lin (fun K => pW v fun x => A x K) := by
  rcases v with _ | _ | _
  · exact Or.inl fun _ => rfl
  · exact ha _
  · exact Or.inl fun _ => rfl
theorem Lin.pU {β : Type} {v : mv} {A : Nat → Nat → (Out → Option β) → Option β} (ha : ∀ t a, Lin (A t a)) : Lin (fun K => pU v fun t a => A t a K) := by
  rcases v with _ | _ | ⟨_, _⟩
  · exact Or.inl fun _ => rfl
  · exact Or.inl fun _ => rfl
  · exact ha _ _
theorem Lin.pG {β : Type} {gr : Gr} {M : Mem} {f a : Nat} {A : Nat × Nat → (Out → Option β) → Option β} (ha : ∀ x, Lin (A x)) : Lin (fun K => pG gr M f a fun x => A x K) := by
  cases gr
  · exact Lin.pO ha
  · exact Lin.pO ha
theorem Lin.pE {β : Type} {gr : Gr} {M : Mem} {t a i : Nat} {A : Nat × Nat → (Out → Option β) → Option β} (ha : ∀ x, Lin (A x)) : Lin (fun K => pE gr M t a i fun x => A x K) := by
  cases gr
  · exact Lin.pO ha
  · exact Lin.pO ha
theorem Lin.pN {β : Type} {gr : Gr} {A : (Out → Option β) → Option β} (ha : Lin A) : Lin (fun K => pN gr (A K)) := by
  cases gr
  · exact ha
  · exact Or.inl fun _ => rfl
theorem Lin.cmp {β : Type} {c : ClassFile.Cond} {x y : Int} {A B : (Out → Option β) → Option β} (ha : Lin A) (hb : Lin B) : Lin (fun K => cmp1 c x y (A K) (B K)) := by
  cases c <;> exact Lin.ite (by assumption) (by assumption)
theorem Lin.tb {β : Type} {x d : Int} {A : Int → (Out → Option β) → Option β} (ha : ∀ t, Lin (A t)) : ∀ (l : List Int) (lo : Int), Lin (fun K => tbk x d lo l fun t => A t K)
  | [], _ => ha _
  | _ :: l, lo => Lin.ite (ha _) (Lin.tb ha l (lo + 1))
theorem Lin.lu {β : Type} {x d : Int} {A : Int → (Out → Option β) → Option β} (ha : ∀ t, Lin (A t)) : ∀ (l : List (Int × Int)), Lin (fun K => luk x d l fun t => A t K)
  | [] => ha _
  | _ :: l => Lin.ite (ha _) (Lin.lu ha l)
set_option maxHeartbeats 4000000 in
theorem act_lin {β : Type} (gr : Gr) (i : Instr) (lv : LV) (st : List mv) (M : Mem) : Lin (fun K : Out → Option β => act gr i lv st M K) := by
  cases i
  all_goals try exact Lin.no
  all_goals first
    | exact Lin.k _
    | exact Lin.pI fun _ _ => Lin.k _
    | exact Lin.pL fun _ _ => Lin.k _
    | exact Lin.pR fun _ _ _ => Lin.k _
    | exact Lin.pI fun _ _ => Lin.pI fun _ _ => Lin.k _
    | exact Lin.pL fun _ _ => Lin.pL fun _ _ => Lin.k _
    | exact Lin.pI fun _ _ => Lin.pL fun _ _ => Lin.k _
    | exact Lin.pI fun _ _ => Lin.pI fun _ _ => Lin.ite Lin.no (Lin.k _)
    | exact Lin.pL fun _ _ => Lin.pL fun _ _ => Lin.ite Lin.no (Lin.k _)
    | exact Lin.pO fun _ => Lin.pV fun _ => Lin.k _
    | exact Lin.pO fun _ => Lin.pW fun _ => Lin.k _
    | exact Lin.pO fun _ => Lin.pU fun _ _ => Lin.k _
    | exact Lin.pI fun _ _ => Lin.cmp (Lin.k _) (Lin.k _)
    | exact Lin.pI fun _ _ => Lin.pI fun _ _ => Lin.cmp (Lin.k _) (Lin.k _)
    | exact Lin.pI fun _ _ => Lin.tb (fun _ => Lin.k _) _ _
    | exact Lin.pI fun _ _ => Lin.lu (fun _ => Lin.k _) _
    | exact Lin.pR fun _ _ _ => Lin.pB (Lin.k _)
    | exact Lin.pR fun _ _ _ => Lin.pB (Lin.pG fun _ => Lin.k _)
    | exact Lin.pI fun _ _ => Lin.pR fun _ _ _ => Lin.pB (Lin.k _)
    | exact Lin.pL fun _ _ => Lin.pR fun _ _ _ => Lin.pB (Lin.k _)
    | exact Lin.pI fun _ _ => Lin.pR fun _ _ _ => Lin.pB (Lin.ite (Lin.k _) Lin.no)
    | exact Lin.pI fun _ _ => Lin.pR fun _ _ _ => Lin.pB (Lin.ite (Lin.pE fun _ => Lin.k _) Lin.no)
    | exact Lin.pI fun _ _ => Lin.pI fun _ _ => Lin.pR fun _ _ _ => Lin.pB (Lin.ite (Lin.k _) Lin.no)
    | exact Lin.pL fun _ _ => Lin.pI fun _ _ => Lin.pR fun _ _ _ => Lin.pB (Lin.ite (Lin.k _) Lin.no)
    | exact Lin.pI fun _ _ => Lin.pI fun _ _ => Lin.pR fun _ _ _ => Lin.pI fun _ _ => Lin.pR fun _ _ _ => Lin.pB (Lin.ite (Lin.k _) Lin.no)
    | exact Lin.pN (Lin.pB (Lin.k _))
    | exact Lin.pN (Lin.pI fun _ _ => Lin.pB (Lin.ite (Lin.k _) Lin.no))
    | exact Lin.pN (Lin.pI fun _ _ => Lin.pI fun _ _ => Lin.pB (Lin.ite (Lin.k _) Lin.no))
    | exact Lin.pN (Lin.pR fun _ _ _ => Lin.pR fun _ _ _ => Lin.pB (Lin.k _))
    | exact Lin.pN (Lin.pR fun _ _ _ => Lin.pI fun _ _ => Lin.pR fun _ _ _ => Lin.pB (Lin.ite (Lin.k _) Lin.no))
    | (rcases st with _ | ⟨v, r⟩
       · exact Lin.no
       · exact Lin.pB (Lin.k _))
    | (rcases st with _ | ⟨v, _ | ⟨w, r⟩⟩
       · exact Lin.no
       · exact Lin.no
       · exact Lin.pB (Lin.k _))
    | (rcases st with _ | ⟨v, r⟩
       · exact Lin.k _
       · exact Lin.no)
    | (refine Lin.pI fun x r => ?_
       rcases r with _ | ⟨v, r⟩
       · exact Lin.k _
       · exact Lin.no)
    | (refine Lin.pI fun x r => ?_
       rcases r with _ | ⟨v, r⟩
       · exact Lin.ite (Lin.k _) Lin.no
       · exact Lin.no)
    | (refine Lin.pL fun x r => ?_
       rcases r with _ | ⟨v, r⟩
       · exact Lin.k _
       · exact Lin.no)
    | (refine Lin.pR fun t a r => ?_
       rcases r with _ | ⟨v, r⟩
       · exact Lin.k _
       · exact Lin.no)
section Den
variable (gr : Gr) (mt : Nat → Mth)
def Le (f g : Fn) : Prop := ∀ d all rows lv st M r, f d all rows lv st M = some r → g d all rows lv st M = some r
theorem bV_mono {o o' : Option Res} {f g : Mem → Option Res} {r : Res} (ho : ∀ x, o = some x → o' = some x) (hf : ∀ M, f M = some r → g M = some r) (h : bV o f = some r) : bV o' g = some r := by
  rcases o with _ | ⟨_ | _, M⟩
  · cases h
  · rw [ho _ rfl]; exact hf _ h
  · cases h
theorem bI_mono {o o' : Option Res} {f g : Int → Mem → Option Res} {r : Res} (ho : ∀ x, o = some x → o' = some x) (hf : ∀ x M, f x M = some r → g x M = some r) (h : bI o f = some r) : bI o' g = some r := by
  rcases o with _ | ⟨_ | _ | _ | _, M⟩
  · cases h
  · cases h
  · rw [ho _ rfl]; exact hf _ _ h
  · cases h
  · cases h
theorem bL_mono {o o' : Option Res} {f g : Int → Mem → Option Res} {r : Res} (ho : ∀ x, o = some x → o' = some x) (hf : ∀ x M, f x M = some r → g x M = some r) (h : bL o f = some r) : bL o' g = some r := by
  rcases o with _ | ⟨_ | _ | _ | _, M⟩
  · cases h
  · cases h
  · cases h
  · rw [ho _ rfl]; exact hf _ _ h
  · cases h
theorem bR_mono {k : Nat} {o o' : Option Res} {f g : Nat → Mem → Option Res} {r : Res} (ho : ∀ x, o = some x → o' = some x) (hf : ∀ a M, f a M = some r → g a M = some r) (h : bR k o f = some r) : bR k o' g = some r := by
  rcases o with _ | ⟨_ | _ | _ | ⟨t, _⟩, M⟩
  · cases h
  · cases h
  · cases h
  · cases h
  · rw [ho _ rfl]
    cases hk : Nat.beq t k with
    | false =>
      have h' : pB (Nat.beq t k) (f _ M) = some r := h
      rw [hk] at h'; cases h'
    | true =>
      have h' : pB (Nat.beq t k) (f _ M) = some r := h
      show pB (Nat.beq t k) (g _ M) = some r
      rw [hk] at h' ⊢
      exact hf _ _ h'
theorem FF_mono {f g f' g' : Fn} (hf : Le f f') (hg : Le g g') : Le (FF gr mt f g) (FF gr mt f' g') := by
  intro d all rows lv st M r h
  rcases rows with _ | ⟨⟨pc, kp, i⟩, tl⟩
  · cases h
  · rcases act_lin (β := Res) gr i (lvCut kp lv) st M with hn | ⟨o, ho⟩
    · have h2 : FF gr mt f g d all ((pc, kp, i) :: tl) lv st M = none := hn (KK mt f g d all tl M)
      rw [h2] at h; cases h
    · have h1 : KK mt f g d all tl M o = some r := (ho (KK mt f g d all tl M)).symm.trans h
      refine (ho (KK mt f' g' d all tl M)).trans ?_
      rcases o with ⟨_ | ix, lv', st', M'⟩ | ⟨rc, j, lv', st'⟩ | r'
      · exact hf _ _ _ _ _ _ _ h1
      · exact hf _ _ _ _ _ _ _ h1
      · dsimp only [KK] at h1 ⊢
        cases hk : okC (mt j) st' with
        | false => rw [hk] at h1; cases h1
        | true =>
          rw [hk] at h1
          have step : ∀ d', (match (mt j).2.2.2 with
              | 0 => bV (g d' (mt j).1 (mt j).1 (ent 0 (st'.take (mt j).2.1).reverse) [] M) fun M => f d all tl lv' (st'.drop (mt j).2.1) M
              | 1 => bI (g d' (mt j).1 (mt j).1 (ent 0 (st'.take (mt j).2.1).reverse) [] M) fun x M => f d all tl lv' (vI x :: st'.drop (mt j).2.1) M
              | 2 => bL (g d' (mt j).1 (mt j).1 (ent 0 (st'.take (mt j).2.1).reverse) [] M) fun x M => f d all tl lv' (vL x :: st'.drop (mt j).2.1) M
              | k + 3 => bR k (g d' (mt j).1 (mt j).1 (ent 0 (st'.take (mt j).2.1).reverse) [] M) fun a M => f d all tl lv' (vR k a :: st'.drop (mt j).2.1) M) = some r →
              (match (mt j).2.2.2 with
              | 0 => bV (g' d' (mt j).1 (mt j).1 (ent 0 (st'.take (mt j).2.1).reverse) [] M) fun M => f' d all tl lv' (st'.drop (mt j).2.1) M
              | 1 => bI (g' d' (mt j).1 (mt j).1 (ent 0 (st'.take (mt j).2.1).reverse) [] M) fun x M => f' d all tl lv' (vI x :: st'.drop (mt j).2.1) M
              | 2 => bL (g' d' (mt j).1 (mt j).1 (ent 0 (st'.take (mt j).2.1).reverse) [] M) fun x M => f' d all tl lv' (vL x :: st'.drop (mt j).2.1) M
              | k + 3 => bR k (g' d' (mt j).1 (mt j).1 (ent 0 (st'.take (mt j).2.1).reverse) [] M) fun a M => f' d all tl lv' (vR k a :: st'.drop (mt j).2.1) M) = some r := by
            intro d'
            split
            · exact bV_mono (fun x => hg _ _ _ _ _ _ x) (fun _ => hf _ _ _ _ _ _ _)
            · exact bI_mono (fun x => hg _ _ _ _ _ _ x) (fun _ _ => hf _ _ _ _ _ _ _)
            · exact bL_mono (fun x => hg _ _ _ _ _ _ x) (fun _ _ => hf _ _ _ _ _ _ _)
            · exact bR_mono (fun x => hg _ _ _ _ _ _ x) (fun _ _ => hf _ _ _ _ _ _ _)
          cases rc with
          | false => exact step d h1
          | true =>
            cases d with
            | zero => cases h1
            | succ d => exact step d h1
      · exact h1
theorem run_step : ∀ n, Le (run gr mt n) (run gr mt (n + 1))
  | 0 => fun _ _ _ _ _ _ _ h => by cases h
  | n + 1 => FF_mono gr mt (run_step n) (run_step n)
theorem run_le {n m : Nat} (h : n ≤ m) : Le (run gr mt n) (run gr mt m) := by
  induction h with
  | refl => exact fun _ _ _ _ _ _ _ h => h
  | step _ ih => exact fun _ _ _ _ _ _ _ h => run_step gr mt _ _ _ _ _ _ _ _ (ih _ _ _ _ _ _ _ h)
noncomputable def DD : Fn := fun d all rows lv st M => @dite (Option Res) (∃ n r, run gr mt n d all rows lv st M = some r) (Classical.propDecidable _) (fun h => some h.choose_spec.choose) (fun _ => none)
theorem DD_some {d : Nat} {all rows : List Row} {lv : LV} {st : List mv} {M : Mem} {r : Res} : DD gr mt d all rows lv st M = some r ↔ ∃ n, run gr mt n d all rows lv st M = some r := by
  constructor
  · intro h
    unfold DD at h
    by_cases hx : ∃ n r, run gr mt n d all rows lv st M = some r
    · rw [dif_pos hx] at h
      cases h
      exact ⟨_, hx.choose_spec.choose_spec⟩
    · rw [dif_neg hx] at h; cases h
  · rintro ⟨n, hn⟩
    have hx : ∃ n r, run gr mt n d all rows lv st M = some r := ⟨n, r, hn⟩
    unfold DD
    rw [dif_pos hx]
    have h1 := run_le gr mt (Nat.le_max_left n hx.choose) _ _ _ _ _ _ _ hn
    have h2 := run_le gr mt (Nat.le_max_right n hx.choose) _ _ _ _ _ _ _ hx.choose_spec.choose_spec
    exact h2.symm.trans h1
theorem run_DD (n : Nat) : Le (run gr mt n) (DD gr mt) := fun _ _ _ _ _ _ _ h => (DD_some gr mt).mpr ⟨n, h⟩
theorem bV_fin {o : Option Res} {f : Mem → Option Res} {r : Res} (h : bV o f = some r) : ∃ M, o = some (none, M) ∧ f M = some r := by
  rcases o with _ | ⟨_ | _, M⟩
  · cases h
  · exact ⟨_, rfl, h⟩
  · cases h
theorem bI_fin {o : Option Res} {f : Int → Mem → Option Res} {r : Res} (h : bI o f = some r) : ∃ x M, o = some (some (vI x), M) ∧ f x M = some r := by
  rcases o with _ | ⟨_ | _ | _ | _, M⟩
  · cases h
  · cases h
  · exact ⟨_, _, rfl, h⟩
  · cases h
  · cases h
theorem bL_fin {o : Option Res} {f : Int → Mem → Option Res} {r : Res} (h : bL o f = some r) : ∃ x M, o = some (some (vL x), M) ∧ f x M = some r := by
  rcases o with _ | ⟨_ | _ | _ | _, M⟩
  · cases h
  · cases h
  · cases h
  · exact ⟨_, _, rfl, h⟩
  · cases h
theorem bR_fin {k : Nat} {o : Option Res} {f : Nat → Mem → Option Res} {r : Res} (h : bR k o f = some r) : ∃ a M, o = some (some (vR k a), M) ∧ f a M = some r := by
  rcases o with _ | ⟨_ | _ | _ | ⟨t, a⟩, M⟩
  · cases h
  · cases h
  · cases h
  · cases h
  · have h' : pB (Nat.beq t k) (f a M) = some r := h
    cases hk : Nat.beq t k with
    | false => rw [hk] at h'; cases h'
    | true =>
      rw [hk] at h'
      obtain rfl := Nat.eq_of_beq_eq_true hk
      exact ⟨_, _, rfl, h'⟩
theorem bR_ok {k a : Nat} {M : Mem} {f : Nat → Mem → Option Res} : bR k (some (some (vR k a), M)) f = f a M := by
  show pB (Nat.beq k k) (f a M) = f a M
  rw [Nat.beq_refl]; rfl
theorem DD_fin {d : Nat} {all rows : List Row} {lv : LV} {st : List mv} {M : Mem} {r : Res} (h : FF gr mt (DD gr mt) (DD gr mt) d all rows lv st M = some r) : ∃ n, run gr mt n d all rows lv st M = some r := by
  rcases rows with _ | ⟨⟨pc, kp, i⟩, tl⟩
  · cases h
  · rcases act_lin (β := Res) gr i (lvCut kp lv) st M with hn | ⟨o, ho⟩
    · have h2 : FF gr mt (DD gr mt) (DD gr mt) d all ((pc, kp, i) :: tl) lv st M = none := hn (KK mt (DD gr mt) (DD gr mt) d all tl M)
      rw [h2] at h; cases h
    · have h1 : KK mt (DD gr mt) (DD gr mt) d all tl M o = some r := (ho (KK mt (DD gr mt) (DD gr mt) d all tl M)).symm.trans h
      have back : ∀ n, KK mt (run gr mt n) (run gr mt n) d all tl M o = some r → ∃ n, run gr mt n d all ((pc, kp, i) :: tl) lv st M = some r := fun n h => ⟨n + 1, (ho (KK mt (run gr mt n) (run gr mt n) d all tl M)).trans h⟩
      rcases o with ⟨_ | ix, lv', st', M'⟩ | ⟨rc, j, lv', st'⟩ | r'
      · obtain ⟨n, hn⟩ := (DD_some gr mt).mp h1
        exact back n hn
      · obtain ⟨n, hn⟩ := (DD_some gr mt).mp h1
        exact back n hn
      · dsimp only [KK] at h1 back
        cases hk : okC (mt j) st' with
        | false => rw [hk] at h1; cases h1
        | true =>
          rw [hk] at h1 back
          have step : ∀ d', (match (mt j).2.2.2 with
              | 0 => bV (DD gr mt d' (mt j).1 (mt j).1 (ent 0 (st'.take (mt j).2.1).reverse) [] M) fun M => DD gr mt d all tl lv' (st'.drop (mt j).2.1) M
              | 1 => bI (DD gr mt d' (mt j).1 (mt j).1 (ent 0 (st'.take (mt j).2.1).reverse) [] M) fun x M => DD gr mt d all tl lv' (vI x :: st'.drop (mt j).2.1) M
              | 2 => bL (DD gr mt d' (mt j).1 (mt j).1 (ent 0 (st'.take (mt j).2.1).reverse) [] M) fun x M => DD gr mt d all tl lv' (vL x :: st'.drop (mt j).2.1) M
              | k + 3 => bR k (DD gr mt d' (mt j).1 (mt j).1 (ent 0 (st'.take (mt j).2.1).reverse) [] M) fun a M => DD gr mt d all tl lv' (vR k a :: st'.drop (mt j).2.1) M) = some r →
              ∃ n, (match (mt j).2.2.2 with
              | 0 => bV (run gr mt n d' (mt j).1 (mt j).1 (ent 0 (st'.take (mt j).2.1).reverse) [] M) fun M => run gr mt n d all tl lv' (st'.drop (mt j).2.1) M
              | 1 => bI (run gr mt n d' (mt j).1 (mt j).1 (ent 0 (st'.take (mt j).2.1).reverse) [] M) fun x M => run gr mt n d all tl lv' (vI x :: st'.drop (mt j).2.1) M
              | 2 => bL (run gr mt n d' (mt j).1 (mt j).1 (ent 0 (st'.take (mt j).2.1).reverse) [] M) fun x M => run gr mt n d all tl lv' (vL x :: st'.drop (mt j).2.1) M
              | k + 3 => bR k (run gr mt n d' (mt j).1 (mt j).1 (ent 0 (st'.take (mt j).2.1).reverse) [] M) fun a M => run gr mt n d all tl lv' (vR k a :: st'.drop (mt j).2.1) M) = some r := by
            intro d'
            split
            · intro h
              obtain ⟨M1, e1, e2⟩ := bV_fin h
              obtain ⟨n1, h1⟩ := (DD_some gr mt).mp e1
              obtain ⟨n2, h2⟩ := (DD_some gr mt).mp e2
              refine ⟨max n1 n2, ?_⟩
              rw [run_le gr mt (Nat.le_max_left n1 n2) _ _ _ _ _ _ _ h1]
              exact run_le gr mt (Nat.le_max_right n1 n2) _ _ _ _ _ _ _ h2
            · intro h
              obtain ⟨x1, M1, e1, e2⟩ := bI_fin h
              obtain ⟨n1, h1⟩ := (DD_some gr mt).mp e1
              obtain ⟨n2, h2⟩ := (DD_some gr mt).mp e2
              refine ⟨max n1 n2, ?_⟩
              rw [run_le gr mt (Nat.le_max_left n1 n2) _ _ _ _ _ _ _ h1]
              exact run_le gr mt (Nat.le_max_right n1 n2) _ _ _ _ _ _ _ h2
            · intro h
              obtain ⟨x1, M1, e1, e2⟩ := bL_fin h
              obtain ⟨n1, h1⟩ := (DD_some gr mt).mp e1
              obtain ⟨n2, h2⟩ := (DD_some gr mt).mp e2
              refine ⟨max n1 n2, ?_⟩
              rw [run_le gr mt (Nat.le_max_left n1 n2) _ _ _ _ _ _ _ h1]
              exact run_le gr mt (Nat.le_max_right n1 n2) _ _ _ _ _ _ _ h2
            · intro h
              obtain ⟨x1, M1, e1, e2⟩ := bR_fin h
              obtain ⟨n1, h1⟩ := (DD_some gr mt).mp e1
              obtain ⟨n2, h2⟩ := (DD_some gr mt).mp e2
              refine ⟨max n1 n2, ?_⟩
              rw [run_le gr mt (Nat.le_max_left n1 n2) _ _ _ _ _ _ _ h1, bR_ok]
              exact run_le gr mt (Nat.le_max_right n1 n2) _ _ _ _ _ _ _ h2
          cases rc with
          | false =>
            obtain ⟨n, hn⟩ := step d h1
            exact back n hn
          | true =>
            cases d with
            | zero => cases h1
            | succ d =>
              obtain ⟨n, hn⟩ := step d h1
              exact back n hn
      · exact back 0 h1
theorem opt_ext {α : Type} {a b : Option α} (h : ∀ r, a = some r ↔ b = some r) : a = b := by
  cases a with
  | none => cases b with
    | none => rfl
    | some y => exact absurd ((h y).mpr rfl) (by simp)
  | some x => exact ((h x).mp rfl).symm
theorem DD_fix (d : Nat) (all rows : List Row) (lv : LV) (st : List mv) (M : Mem) : DD gr mt d all rows lv st M = FF gr mt (DD gr mt) (DD gr mt) d all rows lv st M := by
  apply opt_ext
  intro r
  constructor
  · intro h
    obtain ⟨n, hn⟩ := (DD_some gr mt).mp h
    cases n with
    | zero => cases hn
    | succ n => exact FF_mono gr mt (run_DD gr mt n) (run_DD gr mt n) _ _ _ _ _ _ _ hn
  · intro h
    exact (DD_some gr mt).mpr (DD_fin gr mt h)
theorem lvOnly_twice (ks : List Nat) : ∀ lv : LV, lvOnly ks (lvOnly ks lv) = lvOnly ks lv
  | [] => rfl
  | q :: l => by
    cases h : hasK q.1 ks with
    | true =>
      have e : lvOnly ks (q :: l) = q :: lvOnly ks l := by simp [lvOnly, h]
      rw [e]
      simp [lvOnly, h, lvOnly_twice ks l]
    | false =>
      have e : lvOnly ks (q :: l) = lvOnly ks l := by simp [lvOnly, h]
      rw [e]
      exact lvOnly_twice ks l
theorem DD_cut {d : Nat} {all tl : List Row} {pc : Nat} {ks : List Nat} {i : Instr} {lv : LV} {st : List mv} {M : Mem} : DD gr mt d all ((pc, some ks, i) :: tl) (lvOnly ks lv) st M = DD gr mt d all ((pc, some ks, i) :: tl) lv st M := by
  rw [DD_fix, DD_fix (lv := lv)]
  show act gr i (lvCut (some ks) (lvOnly ks lv)) st M (KK mt (DD gr mt) (DD gr mt) d all tl M) = act gr i (lvCut (some ks) lv) st M (KK mt (DD gr mt) (DD gr mt) d all tl M)
  have e : lvCut (some ks) (lvOnly ks lv) = lvCut (some ks) lv := lvOnly_twice ks lv
  rw [e]
/-- so many instructions on, to the next cuts -/
noncomputable def ex : Nat → Fn
  | 0 => DD gr mt
  | k + 1 => fun d all rows lv st M => match rows with
    | [] => none
    | (pc, some ks, i) :: tl => DD gr mt d all ((pc, some ks, i) :: tl) (lvOnly ks lv) st M
    | (pc, none, i) :: tl => FF gr mt (ex k) (DD gr mt) d all ((pc, none, i) :: tl) lv st M
theorem ex_eq : ∀ k, ex gr mt k = DD gr mt
  | 0 => rfl
  | k + 1 => by
    funext d all rows lv st M
    rcases rows with _ | ⟨⟨pc, _ | ks, i⟩, tl⟩
    · rw [DD_fix]; rfl
    · rw [DD_fix]
      show FF gr mt (ex gr mt k) (DD gr mt) d all ((pc, none, i) :: tl) lv st M = _
      rw [ex_eq k]
    · exact DD_cut gr mt
theorem DD_ex (k : Nat) (d : Nat) (all rows : List Row) (lv : LV) (st : List mv) (M : Mem) : DD gr mt d all rows lv st M = FF gr mt (ex gr mt k) (DD gr mt) d all rows lv st M := by
  rw [ex_eq]; exact DD_fix gr mt _ _ _ _ _ _
end Den
