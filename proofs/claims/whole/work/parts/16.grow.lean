/-! the memory only grows -/
def Grow (M : Mem) (o : Out) : Prop := match o with
  | .inl (_, _, _, M') => ∃ l, tgs M' = tgs M ++ l
  | _ => True
def LinP {β : Type} (P : Out → Prop) (A : (Out → Option β) → Option β) : Prop := (∀ K, A K = none) ∨ ∃ o, P o ∧ ∀ K, A K = K o
theorem LinP.no {P : Out → Prop} {β : Type} : LinP P (fun _ : Out → Option β => none) := Or.inl fun _ => rfl
theorem LinP.k {β : Type} {P : Out → Prop} {o : Out} (h : P o) : LinP P (fun K : Out → Option β => K o) := Or.inr ⟨o, h, fun _ => rfl⟩
theorem LinP.ite {P : Out → Prop} {β : Type} {c : Prop} {hc : Decidable c} {A B : (Out → Option β) → Option β} (ha : LinP P A) (hb : LinP P B) : LinP P (fun K => @_root_.ite _ c hc (A K) (B K)) := by
  by_cases h : c
  · simp only [h, if_true]; exact ha
  · simp only [h, if_false]; exact hb
theorem LinP.pB {P : Out → Prop} {β : Type} {b : Bool} {A : (Out → Option β) → Option β} (ha : LinP P A) : LinP P (fun K => pB b (A K)) := by
  cases b
  · exact Or.inl fun _ => rfl
  · exact ha
theorem LinP.pO {P : Out → Prop} {β α : Type} {o : Option α} {A : α → (Out → Option β) → Option β} (ha : ∀ x, LinP P (A x)) : LinP P (fun K => pO o fun x => A x K) := by
  cases o
  · exact Or.inl fun _ => rfl
  · exact ha _
theorem LinP.pI {P : Out → Prop} {β : Type} {st : List mv} {A : Int → List mv → (Out → Option β) → Option β} (ha : ∀ x r, LinP P (A x r)) : LinP P (fun K => pI st fun x r => A x r K) := by
  rcases st with _ | ⟨_ | _ | _, r⟩
  · exact Or.inl fun _ => rfl
  · exact ha _ _
  · exact Or.inl fun _ => rfl
  · exact Or.inl fun _ => rfl
theorem LinP.pL {P : Out → Prop} {β : Type} {st : List mv} {A : Int → List mv → (Out → Option β) → Option β} (ha : ∀ x r, LinP P (A x r)) : LinP P (fun K => pL st fun x r => A x r K) := by
  rcases st with _ | ⟨_ | _ | _, r⟩
  · exact Or.inl fun _ => rfl
  · exact Or.inl fun _ => rfl
  · exact ha _ _
  · exact Or.inl fun _ => rfl
theorem LinP.pR {P : Out → Prop} {β : Type} {st : List mv} {A : Nat → Nat → List mv → (Out → Option β) → Option β} (ha : ∀ t a r, LinP P (A t a r)) : LinP P (fun K => pR st fun t a r => A t a r K) := by
  rcases st with _ | ⟨_ | _ | ⟨_, _⟩, r⟩
  · exact Or.inl fun _ => rfl
  · exact Or.inl fun _ => rfl
  · exact Or.inl fun _ => rfl
  · exact ha _ _ _
theorem LinP.pV {P : Out → Prop} {β : Type} {v : mv} {A : Int → (Out → Option β) → Option β} (ha : ∀ x, LinP P (A x)) : LinP P (fun K => pV v fun x => A x K) := by
  rcases v with _ | _ | _
  · exact ha _
  · exact Or.inl fun _ => rfl
  · exact Or.inl fun _ => rfl
theorem LinP.pW {P : Out → Prop} {β : Type} {v : mv} {A : Int → (Out → Option β) → Option β} (ha : ∀ x, LinP P (A x)) : LinP P (fun K => pW v fun x => A x K) := by
  rcases v with _ | _ | _
  · exact Or.inl fun _ => rfl
  · exact ha _
  · exact Or.inl fun _ => rfl
theorem LinP.pU {P : Out → Prop} {β : Type} {v : mv} {A : Nat → Nat → (Out → Option β) → Option β} (ha : ∀ t a, LinP P (A t a)) : LinP P (fun K => pU v fun t a => A t a K) := by
  rcases v with _ | _ | ⟨_, _⟩
  · exact Or.inl fun _ => rfl
  · exact Or.inl fun _ => rfl
  · exact ha _ _
theorem LinP.pG {P : Out → Prop} {β : Type} {gr : Gr} {M : Mem} {f a : Nat} {A : Nat × Nat → (Out → Option β) → Option β} (ha : ∀ x, LinP P (A x)) : LinP P (fun K => pG gr M f a fun x => A x K) := by
  cases gr
  · exact LinP.pO ha
  · exact LinP.pO ha
theorem LinP.pE {P : Out → Prop} {β : Type} {gr : Gr} {M : Mem} {t a i : Nat} {A : Nat × Nat → (Out → Option β) → Option β} (ha : ∀ x, LinP P (A x)) : LinP P (fun K => pE gr M t a i fun x => A x K) := by
  cases gr
  · exact LinP.pO ha
  · exact LinP.pO ha
theorem LinP.pN {P : Out → Prop} {β : Type} {gr : Gr} {A : (Out → Option β) → Option β} (ha : LinP P A) : LinP P (fun K => pN gr (A K)) := by
  cases gr
  · exact ha
  · exact Or.inl fun _ => rfl
theorem LinP.cmp {P : Out → Prop} {β : Type} {c : ClassFile.Cond} {x y : Int} {A B : (Out → Option β) → Option β} (ha : LinP P A) (hb : LinP P B) : LinP P (fun K => cmp1 c x y (A K) (B K)) := by
  cases c <;> exact LinP.ite (by assumption) (by assumption)
theorem LinP.tb {P : Out → Prop} {β : Type} {x d : Int} {A : Int → (Out → Option β) → Option β} (ha : ∀ t, LinP P (A t)) : ∀ (l : List Int) (lo : Int), LinP P (fun K => tbk x d lo l fun t => A t K)
  | [], _ => ha _
  | _ :: l, lo => LinP.ite (ha _) (LinP.tb ha l (lo + 1))
theorem LinP.lu {P : Out → Prop} {β : Type} {x d : Int} {A : Int → (Out → Option β) → Option β} (ha : ∀ t, LinP P (A t)) : ∀ (l : List (Int × Int)), LinP P (fun K => luk x d l fun t => A t K)
  | [] => ha _
  | _ :: l => LinP.ite (ha _) (LinP.lu ha l)
set_option maxHeartbeats 4000000 in
theorem act_grow {β : Type} (gr : Gr) (i : Instr) (lv : LV) (st : List mv) (M : Mem) : LinP (Grow M) (fun K : Out → Option β => act gr i lv st M K) := by
  cases i
  all_goals try exact LinP.no
  all_goals first
    | exact LinP.k (by first | exact trivial | exact ⟨[], (List.append_nil _).symm⟩ | exact ⟨_, rfl⟩)
    | exact LinP.pI fun _ _ => LinP.k (by first | exact trivial | exact ⟨[], (List.append_nil _).symm⟩ | exact ⟨_, rfl⟩)
    | exact LinP.pL fun _ _ => LinP.k (by first | exact trivial | exact ⟨[], (List.append_nil _).symm⟩ | exact ⟨_, rfl⟩)
    | exact LinP.pR fun _ _ _ => LinP.k (by first | exact trivial | exact ⟨[], (List.append_nil _).symm⟩ | exact ⟨_, rfl⟩)
    | exact LinP.pI fun _ _ => LinP.pI fun _ _ => LinP.k (by first | exact trivial | exact ⟨[], (List.append_nil _).symm⟩ | exact ⟨_, rfl⟩)
    | exact LinP.pL fun _ _ => LinP.pL fun _ _ => LinP.k (by first | exact trivial | exact ⟨[], (List.append_nil _).symm⟩ | exact ⟨_, rfl⟩)
    | exact LinP.pI fun _ _ => LinP.pL fun _ _ => LinP.k (by first | exact trivial | exact ⟨[], (List.append_nil _).symm⟩ | exact ⟨_, rfl⟩)
    | exact LinP.pI fun _ _ => LinP.pI fun _ _ => LinP.ite LinP.no (LinP.k (by first | exact trivial | exact ⟨[], (List.append_nil _).symm⟩ | exact ⟨_, rfl⟩))
    | exact LinP.pL fun _ _ => LinP.pL fun _ _ => LinP.ite LinP.no (LinP.k (by first | exact trivial | exact ⟨[], (List.append_nil _).symm⟩ | exact ⟨_, rfl⟩))
    | exact LinP.pO fun _ => LinP.pV fun _ => LinP.k (by first | exact trivial | exact ⟨[], (List.append_nil _).symm⟩ | exact ⟨_, rfl⟩)
    | exact LinP.pO fun _ => LinP.pW fun _ => LinP.k (by first | exact trivial | exact ⟨[], (List.append_nil _).symm⟩ | exact ⟨_, rfl⟩)
    | exact LinP.pO fun _ => LinP.pU fun _ _ => LinP.k (by first | exact trivial | exact ⟨[], (List.append_nil _).symm⟩ | exact ⟨_, rfl⟩)
    | exact LinP.pI fun _ _ => LinP.cmp (LinP.k (by first | exact trivial | exact ⟨[], (List.append_nil _).symm⟩ | exact ⟨_, rfl⟩)) (LinP.k (by first | exact trivial | exact ⟨[], (List.append_nil _).symm⟩ | exact ⟨_, rfl⟩))
    | exact LinP.pI fun _ _ => LinP.pI fun _ _ => LinP.cmp (LinP.k (by first | exact trivial | exact ⟨[], (List.append_nil _).symm⟩ | exact ⟨_, rfl⟩)) (LinP.k (by first | exact trivial | exact ⟨[], (List.append_nil _).symm⟩ | exact ⟨_, rfl⟩))
    | exact LinP.pI fun _ _ => LinP.tb (fun _ => LinP.k (by first | exact trivial | exact ⟨[], (List.append_nil _).symm⟩ | exact ⟨_, rfl⟩)) _ _
    | exact LinP.pI fun _ _ => LinP.lu (fun _ => LinP.k (by first | exact trivial | exact ⟨[], (List.append_nil _).symm⟩ | exact ⟨_, rfl⟩)) _
    | exact LinP.pR fun _ _ _ => LinP.pB (LinP.k (by first | exact trivial | exact ⟨[], (List.append_nil _).symm⟩ | exact ⟨_, rfl⟩))
    | exact LinP.pR fun _ _ _ => LinP.pB (LinP.pG fun _ => LinP.k (by first | exact trivial | exact ⟨[], (List.append_nil _).symm⟩ | exact ⟨_, rfl⟩))
    | exact LinP.pI fun _ _ => LinP.pR fun _ _ _ => LinP.pB (LinP.k (by first | exact trivial | exact ⟨[], (List.append_nil _).symm⟩ | exact ⟨_, rfl⟩))
    | exact LinP.pL fun _ _ => LinP.pR fun _ _ _ => LinP.pB (LinP.k (by first | exact trivial | exact ⟨[], (List.append_nil _).symm⟩ | exact ⟨_, rfl⟩))
    | exact LinP.pI fun _ _ => LinP.pR fun _ _ _ => LinP.pB (LinP.ite (LinP.k (by first | exact trivial | exact ⟨[], (List.append_nil _).symm⟩ | exact ⟨_, rfl⟩)) LinP.no)
    | exact LinP.pI fun _ _ => LinP.pR fun _ _ _ => LinP.pB (LinP.ite (LinP.pE fun _ => LinP.k (by first | exact trivial | exact ⟨[], (List.append_nil _).symm⟩ | exact ⟨_, rfl⟩)) LinP.no)
    | exact LinP.pI fun _ _ => LinP.pI fun _ _ => LinP.pR fun _ _ _ => LinP.pB (LinP.ite (LinP.k (by first | exact trivial | exact ⟨[], (List.append_nil _).symm⟩ | exact ⟨_, rfl⟩)) LinP.no)
    | exact LinP.pL fun _ _ => LinP.pI fun _ _ => LinP.pR fun _ _ _ => LinP.pB (LinP.ite (LinP.k (by first | exact trivial | exact ⟨[], (List.append_nil _).symm⟩ | exact ⟨_, rfl⟩)) LinP.no)
    | exact LinP.pI fun _ _ => LinP.pI fun _ _ => LinP.pR fun _ _ _ => LinP.pI fun _ _ => LinP.pR fun _ _ _ => LinP.pB (LinP.ite (LinP.k (by first | exact trivial | exact ⟨[], (List.append_nil _).symm⟩ | exact ⟨_, rfl⟩)) LinP.no)
    | exact LinP.pN (LinP.pB (LinP.k (by first | exact trivial | exact ⟨[], (List.append_nil _).symm⟩ | exact ⟨_, rfl⟩)))
    | exact LinP.pN (LinP.pI fun _ _ => LinP.pB (LinP.ite (LinP.k (by first | exact trivial | exact ⟨[], (List.append_nil _).symm⟩ | exact ⟨_, rfl⟩)) LinP.no))
    | exact LinP.pN (LinP.pI fun _ _ => LinP.pI fun _ _ => LinP.pB (LinP.ite (LinP.k (by first | exact trivial | exact ⟨[], (List.append_nil _).symm⟩ | exact ⟨_, rfl⟩)) LinP.no))
    | exact LinP.pN (LinP.pR fun _ _ _ => LinP.pR fun _ _ _ => LinP.pB (LinP.k (by first | exact trivial | exact ⟨[], (List.append_nil _).symm⟩ | exact ⟨_, rfl⟩)))
    | exact LinP.pN (LinP.pR fun _ _ _ => LinP.pI fun _ _ => LinP.pR fun _ _ _ => LinP.pB (LinP.ite (LinP.k (by first | exact trivial | exact ⟨[], (List.append_nil _).symm⟩ | exact ⟨_, rfl⟩)) LinP.no))
    | (rcases st with _ | ⟨v, r⟩
       · exact LinP.no
       · exact LinP.pB (LinP.k (by first | exact trivial | exact ⟨[], (List.append_nil _).symm⟩ | exact ⟨_, rfl⟩)))
    | (rcases st with _ | ⟨v, _ | ⟨w, r⟩⟩
       · exact LinP.no
       · exact LinP.no
       · exact LinP.pB (LinP.k (by first | exact trivial | exact ⟨[], (List.append_nil _).symm⟩ | exact ⟨_, rfl⟩)))
    | (rcases st with _ | ⟨v, r⟩
       · exact LinP.k (by first | exact trivial | exact ⟨[], (List.append_nil _).symm⟩ | exact ⟨_, rfl⟩)
       · exact LinP.no)
    | (refine LinP.pI fun x r => ?_
       rcases r with _ | ⟨v, r⟩
       · exact LinP.k (by first | exact trivial | exact ⟨[], (List.append_nil _).symm⟩ | exact ⟨_, rfl⟩)
       · exact LinP.no)
    | (refine LinP.pI fun x r => ?_
       rcases r with _ | ⟨v, r⟩
       · exact LinP.ite (LinP.k (by first | exact trivial | exact ⟨[], (List.append_nil _).symm⟩ | exact ⟨_, rfl⟩)) LinP.no
       · exact LinP.no)
    | (refine LinP.pL fun x r => ?_
       rcases r with _ | ⟨v, r⟩
       · exact LinP.k (by first | exact trivial | exact ⟨[], (List.append_nil _).symm⟩ | exact ⟨_, rfl⟩)
       · exact LinP.no)
    | (refine LinP.pR fun t a r => ?_
       rcases r with _ | ⟨v, r⟩
       · exact LinP.k (by first | exact trivial | exact ⟨[], (List.append_nil _).symm⟩ | exact ⟨_, rfl⟩)
       · exact LinP.no)
theorem run_grow (gr : Gr) (mt : Nat → Mth) : ∀ (n d : Nat) (all rows : List Row) (lv : LV) (st : List mv) (M : Mem) (r : Option mv) (Mf : Mem), run gr mt n d all rows lv st M = some (r, Mf) → ∃ l, tgs Mf = tgs M ++ l
  | 0, _, _, _, _, _, _, _, _, h => by cases h
  | n + 1, d, all, rows, lv, st, M, r, Mf, h => by
    have tr : ∀ {A B C : Mem}, (∃ l, tgs B = tgs A ++ l) → (∃ l, tgs C = tgs B ++ l) → ∃ l, tgs C = tgs A ++ l := by
      rintro A B C ⟨l1, h1⟩ ⟨l2, h2⟩
      exact ⟨l1 ++ l2, by rw [h2, h1, List.append_assoc]⟩
    rcases rows with _ | ⟨⟨pc, kp, i⟩, tl⟩
    · cases h
    · rcases act_grow (β := Res) gr i (lvCut kp lv) st M with hn | ⟨o, hg, ho⟩
      · have h2 : run gr mt (n + 1) d all ((pc, kp, i) :: tl) lv st M = none := hn (KK mt (run gr mt n) (run gr mt n) d all tl M)
        rw [h2] at h; cases h
      · have h1 : KK mt (run gr mt n) (run gr mt n) d all tl M o = some (r, Mf) := (ho (KK mt (run gr mt n) (run gr mt n) d all tl M)).symm.trans h
        rcases o with ⟨_ | ix, lv', st', M'⟩ | ⟨rc, j, lv', st'⟩ | r'
        · exact tr hg (run_grow gr mt n _ _ _ _ _ _ _ _ h1)
        · exact tr hg (run_grow gr mt n _ _ _ _ _ _ _ _ h1)
        · dsimp only [KK] at h1
          have step : ∀ d', (match (mt j).2.2.2 with
              | 0 => bV (run gr mt n d' (mt j).1 (mt j).1 (ent 0 (st'.take (mt j).2.1).reverse) [] M) fun M => run gr mt n d all tl lv' (st'.drop (mt j).2.1) M
              | 1 => bI (run gr mt n d' (mt j).1 (mt j).1 (ent 0 (st'.take (mt j).2.1).reverse) [] M) fun x M => run gr mt n d all tl lv' (vI x :: st'.drop (mt j).2.1) M
              | 2 => bL (run gr mt n d' (mt j).1 (mt j).1 (ent 0 (st'.take (mt j).2.1).reverse) [] M) fun x M => run gr mt n d all tl lv' (vL x :: st'.drop (mt j).2.1) M
              | k + 3 => bR k (run gr mt n d' (mt j).1 (mt j).1 (ent 0 (st'.take (mt j).2.1).reverse) [] M) fun a M => run gr mt n d all tl lv' (vR k a :: st'.drop (mt j).2.1) M) = some (r, Mf) → ∃ l, tgs Mf = tgs M ++ l := by
            intro d'
            split
            · intro h
              obtain ⟨M1, e1, e2⟩ := bV_fin h
              exact tr (run_grow gr mt n _ _ _ _ _ _ _ _ e1) (run_grow gr mt n _ _ _ _ _ _ _ _ e2)
            · intro h
              obtain ⟨x1, M1, e1, e2⟩ := bI_fin h
              exact tr (run_grow gr mt n _ _ _ _ _ _ _ _ e1) (run_grow gr mt n _ _ _ _ _ _ _ _ e2)
            · intro h
              obtain ⟨x1, M1, e1, e2⟩ := bL_fin h
              exact tr (run_grow gr mt n _ _ _ _ _ _ _ _ e1) (run_grow gr mt n _ _ _ _ _ _ _ _ e2)
            · intro h
              obtain ⟨x1, M1, e1, e2⟩ := bR_fin h
              exact tr (run_grow gr mt n _ _ _ _ _ _ _ _ e1) (run_grow gr mt n _ _ _ _ _ _ _ _ e2)
          cases hk : okC (mt j) st' with
          | false => rw [hk] at h1; cases h1
          | true =>
            rw [hk] at h1
            cases rc with
            | false => exact step d h1
            | true =>
              cases d with
              | zero => cases h1
              | succ d => exact step d h1
        · cases h1; exact ⟨[], (List.append_nil _).symm⟩
theorem grow_c {M M' : Mem} (h : ∃ l, tgs M' = tgs M ++ l) : cN M ≤ cN M' ∧ sN M ≤ sN M' := by
  obtain ⟨l, h⟩ := h
  unfold cN sN
  rw [h]
  constructor
  · simp
  · simp
