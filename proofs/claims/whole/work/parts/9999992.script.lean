/-! the script: what doesn't look at it doesn't depend on it -/
def setS (M : Mem) (s : (Nat → Int) × Nat) : Mem := (M.1, M.2.1, M.2.2.1, M.2.2.2.1, M.2.2.2.2.1, s)
def sO (s : (Nat → Int) × Nat) (o : Out) : Out := match o with
  | .inl (x, lv, st, M) => .inl (x, lv, st, setS M s)
  | .inr z => .inr z
def noS (i : Instr) : Bool := match i with
  | .faload | .fastore => false
  | .invokestatic j => decide (j < 384)
  | .invokevirtual j => decide (j < 384)
  | _ => true
theorem act_S {β : Type} (gr : Gr) (i : Instr) (lv : LV) (st : List mv) (M : Mem) (s : (Nat → Int) × Nat) (K : Out → Option β) (hi : noS i = true) : act gr i lv st (setS M s) K = act gr i lv st M (fun o => K (sO s o)) := by
  cases i
  all_goals first
    | rfl
    | (cases gr <;> rfl)
    | (exact absurd hi (by intro q; cases q))
def CaO (o : Out) : Prop := match o with
  | .inr (.inl (_, j, _, _)) => j < 384
  | _ => True
theorem act_ca {β : Type} (gr : Gr) (i : Instr) (lv : LV) (st : List mv) (M : Mem) (hi : noS i = true) : LinP CaO (fun K : Out → Option β => act gr i lv st M K) := by
  cases i
  all_goals try exact LinP.no
  all_goals first
    | exact LinP.k (by exact trivial)
    | exact Or.inr ⟨.inr (.inl (false, _, lv, st)), of_decide_eq_true (p := _ < 384) hi, fun _ => rfl⟩
    | exact Or.inr ⟨.inr (.inl (true, _, lv, st)), of_decide_eq_true (p := _ < 384) hi, fun _ => rfl⟩
    | exact LinP.pI fun _ _ => LinP.k (by first | exact trivial | exact of_decide_eq_true hi)
    | exact LinP.pL fun _ _ => LinP.k (by first | exact trivial | exact of_decide_eq_true hi)
    | exact LinP.pR fun _ _ _ => LinP.k (by first | exact trivial | exact of_decide_eq_true hi)
    | exact LinP.pI fun _ _ => LinP.pI fun _ _ => LinP.k (by first | exact trivial | exact of_decide_eq_true hi)
    | exact LinP.pL fun _ _ => LinP.pL fun _ _ => LinP.k (by first | exact trivial | exact of_decide_eq_true hi)
    | exact LinP.pI fun _ _ => LinP.pL fun _ _ => LinP.k (by first | exact trivial | exact of_decide_eq_true hi)
    | exact LinP.pI fun _ _ => LinP.pI fun _ _ => LinP.ite LinP.no (LinP.k (by first | exact trivial | exact of_decide_eq_true hi))
    | exact LinP.pL fun _ _ => LinP.pL fun _ _ => LinP.ite LinP.no (LinP.k (by first | exact trivial | exact of_decide_eq_true hi))
    | exact LinP.pO fun _ => LinP.pV fun _ => LinP.k (by first | exact trivial | exact of_decide_eq_true hi)
    | exact LinP.pO fun _ => LinP.pW fun _ => LinP.k (by first | exact trivial | exact of_decide_eq_true hi)
    | exact LinP.pO fun _ => LinP.pU fun _ _ => LinP.k (by first | exact trivial | exact of_decide_eq_true hi)
    | exact LinP.pI fun _ _ => LinP.cmp (LinP.k (by first | exact trivial | exact of_decide_eq_true hi)) (LinP.k (by first | exact trivial | exact of_decide_eq_true hi))
    | exact LinP.pI fun _ _ => LinP.pI fun _ _ => LinP.cmp (LinP.k (by first | exact trivial | exact of_decide_eq_true hi)) (LinP.k (by first | exact trivial | exact of_decide_eq_true hi))
    | exact LinP.pI fun _ _ => LinP.tb (fun _ => LinP.k (by first | exact trivial | exact of_decide_eq_true hi)) _ _
    | exact LinP.pI fun _ _ => LinP.lu (fun _ => LinP.k (by first | exact trivial | exact of_decide_eq_true hi)) _
    | exact LinP.pR fun _ _ _ => LinP.pB (LinP.k (by first | exact trivial | exact of_decide_eq_true hi))
    | exact LinP.pR fun _ _ _ => LinP.pB (LinP.pG fun _ => LinP.k (by first | exact trivial | exact of_decide_eq_true hi))
    | exact LinP.pI fun _ _ => LinP.pR fun _ _ _ => LinP.pB (LinP.k (by first | exact trivial | exact of_decide_eq_true hi))
    | exact LinP.pL fun _ _ => LinP.pR fun _ _ _ => LinP.pB (LinP.k (by first | exact trivial | exact of_decide_eq_true hi))
    | exact LinP.pI fun _ _ => LinP.pR fun _ _ _ => LinP.pB (LinP.ite (LinP.k (by first | exact trivial | exact of_decide_eq_true hi)) LinP.no)
    | exact LinP.pI fun _ _ => LinP.pR fun _ _ _ => LinP.pB (LinP.ite (LinP.pE fun _ => LinP.k (by first | exact trivial | exact of_decide_eq_true hi)) LinP.no)
    | exact LinP.pI fun _ _ => LinP.pI fun _ _ => LinP.pR fun _ _ _ => LinP.pB (LinP.ite (LinP.k (by first | exact trivial | exact of_decide_eq_true hi)) LinP.no)
    | exact LinP.pL fun _ _ => LinP.pI fun _ _ => LinP.pR fun _ _ _ => LinP.pB (LinP.ite (LinP.k (by first | exact trivial | exact of_decide_eq_true hi)) LinP.no)
    | exact LinP.pI fun _ _ => LinP.pI fun _ _ => LinP.pR fun _ _ _ => LinP.pI fun _ _ => LinP.pR fun _ _ _ => LinP.pB (LinP.ite (LinP.k (by first | exact trivial | exact of_decide_eq_true hi)) LinP.no)
    | exact LinP.pN (LinP.pB (LinP.k (by first | exact trivial | exact of_decide_eq_true hi)))
    | exact LinP.pN (LinP.pI fun _ _ => LinP.pB (LinP.ite (LinP.k (by first | exact trivial | exact of_decide_eq_true hi)) LinP.no))
    | exact LinP.pN (LinP.pI fun _ _ => LinP.pI fun _ _ => LinP.pB (LinP.ite (LinP.k (by first | exact trivial | exact of_decide_eq_true hi)) LinP.no))
    | exact LinP.pN (LinP.pR fun _ _ _ => LinP.pR fun _ _ _ => LinP.pB (LinP.k (by first | exact trivial | exact of_decide_eq_true hi)))
    | exact LinP.pN (LinP.pR fun _ _ _ => LinP.pI fun _ _ => LinP.pR fun _ _ _ => LinP.pB (LinP.ite (LinP.k (by first | exact trivial | exact of_decide_eq_true hi)) LinP.no))
    | (rcases st with _ | ⟨v, r⟩
       · exact LinP.no
       · exact LinP.pB (LinP.k (by first | exact trivial | exact of_decide_eq_true hi)))
    | (rcases st with _ | ⟨v, _ | ⟨w, r⟩⟩
       · exact LinP.no
       · exact LinP.no
       · exact LinP.pB (LinP.k (by first | exact trivial | exact of_decide_eq_true hi)))
    | (rcases st with _ | ⟨v, r⟩
       · exact LinP.k (by first | exact trivial | exact of_decide_eq_true hi)
       · exact LinP.no)
    | (refine LinP.pI fun x r => ?_
       rcases r with _ | ⟨v, r⟩
       · exact LinP.k (by first | exact trivial | exact of_decide_eq_true hi)
       · exact LinP.no)
    | (refine LinP.pI fun x r => ?_
       rcases r with _ | ⟨v, r⟩
       · exact LinP.ite (LinP.k (by first | exact trivial | exact of_decide_eq_true hi)) LinP.no
       · exact LinP.no)
    | (refine LinP.pL fun x r => ?_
       rcases r with _ | ⟨v, r⟩
       · exact LinP.k (by first | exact trivial | exact of_decide_eq_true hi)
       · exact LinP.no)
    | (refine LinP.pR fun t a r => ?_
       rcases r with _ | ⟨v, r⟩
       · exact LinP.k (by first | exact trivial | exact of_decide_eq_true hi)
       · exact LinP.no)
def mapR (s : (Nat → Int) × Nat) (q : Res) : Res := (q.1, setS q.2 s)
theorem act_map (gr : Gr) (i : Instr) (lv : LV) (st : List mv) (M : Mem) (hi : noS i = true) (K K' : Out → Option Res) (g : Res → Res) (h : ∀ o, CaO o → K' o = (K o).map g) : act gr i lv st M K' = (act gr i lv st M K).map g := by
  rcases act_ca (β := Res) gr i lv st M hi with h1 | ⟨o, h2, h1⟩
  · exact (h1 K').trans (by rw [show act gr i lv st M K = none from h1 K]; rfl)
  · exact (h1 K').trans ((h o h2).trans (by rw [show act gr i lv st M K = K o from h1 K]))
theorem mem_drop {α : Type} {P : α → Prop} {l : List α} (n : Nat) (h : ∀ q ∈ l, P q) : ∀ q ∈ l.drop n, P q := fun q hq => h q (List.mem_of_mem_drop hq)
theorem run_S {gr : Gr} {mt : Nat → Mth} (s : (Nat → Int) × Nat) (hmt : ∀ j, j < 384 → ∀ q ∈ (mt j).1, noS q.2.2 = true) : ∀ (n d : Nat) (all rows : List Row) (lv : LV) (st : List mv) (M : Mem), (∀ q ∈ all, noS q.2.2 = true) → (∀ q ∈ rows, noS q.2.2 = true) → run gr mt n d all rows lv st (setS M s) = (run gr mt n d all rows lv st M).map (mapR s)
  | 0, _, _, _, _, _, _, _, _ => rfl
  | n + 1, d, all, [], lv, st, M, _, _ => rfl
  | n + 1, d, all, (pc, kp, i) :: tl, lv, st, M, hall, hrow => by
    have hi : noS i = true := hrow _ List.mem_cons_self
    have htl : ∀ q ∈ tl, noS q.2.2 = true := fun q hq => hrow q (List.mem_cons_of_mem _ hq)
    show act gr i (lvCut kp lv) st (setS M s) (KK mt (run gr mt n) (run gr mt n) d all tl (setS M s)) = (act gr i (lvCut kp lv) st M (KK mt (run gr mt n) (run gr mt n) d all tl M)).map (mapR s)
    rw [act_S gr i (lvCut kp lv) st M s _ hi]
    refine act_map gr i (lvCut kp lv) st M hi _ _ (mapR s) fun o ho => ?_
    rcases o with ⟨x, lv', st', M'⟩ | ⟨rc, j, lv', st'⟩ | r
    · cases x with
      | none => exact run_S s hmt n d all tl lv' st' M' hall htl
      | some ix => exact run_S s hmt n d all (all.drop ix) lv' st' M' hall (mem_drop ix hall)
    · have hj : j < 384 := ho
      have hjm := hmt j hj
      show pB (okC (mt j) st') (dpt rc d fun d' => match (mt j).2.2.2 with
        | 0 => bV (run gr mt n d' (mt j).1 (mt j).1 (ent 0 (st'.take (mt j).2.1).reverse) [] (setS M s)) fun M => run gr mt n d all tl lv' (st'.drop (mt j).2.1) M
        | 1 => bI (run gr mt n d' (mt j).1 (mt j).1 (ent 0 (st'.take (mt j).2.1).reverse) [] (setS M s)) fun x M => run gr mt n d all tl lv' (vI x :: st'.drop (mt j).2.1) M
        | 2 => bL (run gr mt n d' (mt j).1 (mt j).1 (ent 0 (st'.take (mt j).2.1).reverse) [] (setS M s)) fun x M => run gr mt n d all tl lv' (vL x :: st'.drop (mt j).2.1) M
        | k + 3 => bR k (run gr mt n d' (mt j).1 (mt j).1 (ent 0 (st'.take (mt j).2.1).reverse) [] (setS M s)) fun a M => run gr mt n d all tl lv' (vR k a :: st'.drop (mt j).2.1) M) = (pB (okC (mt j) st') (dpt rc d fun d' => match (mt j).2.2.2 with
        | 0 => bV (run gr mt n d' (mt j).1 (mt j).1 (ent 0 (st'.take (mt j).2.1).reverse) [] M) fun M => run gr mt n d all tl lv' (st'.drop (mt j).2.1) M
        | 1 => bI (run gr mt n d' (mt j).1 (mt j).1 (ent 0 (st'.take (mt j).2.1).reverse) [] M) fun x M => run gr mt n d all tl lv' (vI x :: st'.drop (mt j).2.1) M
        | 2 => bL (run gr mt n d' (mt j).1 (mt j).1 (ent 0 (st'.take (mt j).2.1).reverse) [] M) fun x M => run gr mt n d all tl lv' (vL x :: st'.drop (mt j).2.1) M
        | k + 3 => bR k (run gr mt n d' (mt j).1 (mt j).1 (ent 0 (st'.take (mt j).2.1).reverse) [] M) fun a M => run gr mt n d all tl lv' (vR k a :: st'.drop (mt j).2.1) M)).map (mapR s)
      cases okC (mt j) st' with
      | false => rfl
      | true =>
        have key : ∀ d', (match (mt j).2.2.2 with
            | 0 => bV (run gr mt n d' (mt j).1 (mt j).1 (ent 0 (st'.take (mt j).2.1).reverse) [] (setS M s)) fun M => run gr mt n d all tl lv' (st'.drop (mt j).2.1) M
            | 1 => bI (run gr mt n d' (mt j).1 (mt j).1 (ent 0 (st'.take (mt j).2.1).reverse) [] (setS M s)) fun x M => run gr mt n d all tl lv' (vI x :: st'.drop (mt j).2.1) M
            | 2 => bL (run gr mt n d' (mt j).1 (mt j).1 (ent 0 (st'.take (mt j).2.1).reverse) [] (setS M s)) fun x M => run gr mt n d all tl lv' (vL x :: st'.drop (mt j).2.1) M
            | k + 3 => bR k (run gr mt n d' (mt j).1 (mt j).1 (ent 0 (st'.take (mt j).2.1).reverse) [] (setS M s)) fun a M => run gr mt n d all tl lv' (vR k a :: st'.drop (mt j).2.1) M) = (match (mt j).2.2.2 with
            | 0 => bV (run gr mt n d' (mt j).1 (mt j).1 (ent 0 (st'.take (mt j).2.1).reverse) [] M) fun M => run gr mt n d all tl lv' (st'.drop (mt j).2.1) M
            | 1 => bI (run gr mt n d' (mt j).1 (mt j).1 (ent 0 (st'.take (mt j).2.1).reverse) [] M) fun x M => run gr mt n d all tl lv' (vI x :: st'.drop (mt j).2.1) M
            | 2 => bL (run gr mt n d' (mt j).1 (mt j).1 (ent 0 (st'.take (mt j).2.1).reverse) [] M) fun x M => run gr mt n d all tl lv' (vL x :: st'.drop (mt j).2.1) M
            | k + 3 => bR k (run gr mt n d' (mt j).1 (mt j).1 (ent 0 (st'.take (mt j).2.1).reverse) [] M) fun a M => run gr mt n d all tl lv' (vR k a :: st'.drop (mt j).2.1) M).map (mapR s) := by
          intro d'
          have e := run_S (gr := gr) s hmt n d' (mt j).1 (mt j).1 (ent 0 (st'.take (mt j).2.1).reverse) [] M hjm hjm
          rw [e]
          generalize run gr mt n d' (mt j).1 (mt j).1 (ent 0 (st'.take (mt j).2.1).reverse) [] M = o
          match (mt j).2.2.2 with
          | 0 =>
            rcases o with _ | ⟨_ | v, M2⟩
            · rfl
            · exact run_S s hmt n d all tl lv' _ M2 hall htl
            · rfl
          | 1 =>
            rcases o with _ | ⟨_ | v | v | v, M2⟩
            · rfl
            · rfl
            · exact run_S s hmt n d all tl lv' _ M2 hall htl
            · rfl
            · rfl
          | 2 =>
            rcases o with _ | ⟨_ | v | v | v, M2⟩
            · rfl
            · rfl
            · rfl
            · exact run_S s hmt n d all tl lv' _ M2 hall htl
            · rfl
          | k + 3 =>
            rcases o with _ | ⟨_ | v | v | ⟨t, a⟩, M2⟩
            · rfl
            · rfl
            · rfl
            · rfl
            · show pB (Nat.beq t k) _ = (pB (Nat.beq t k) _).map _
              cases Nat.beq t k with
              | false => rfl
              | true => exact run_S s hmt n d all tl lv' _ M2 hall htl
        cases rc with
        | false => exact key d
        | true =>
          cases d with
          | zero => rfl
          | succ d => exact key d
    · rfl
theorem MT_noS : (List.range 384).all (fun j => (MT j).1.all fun q => noS q.2.2) = true := by decide +kernel
theorem MT_S {j : Nat} (h : j < 384) : ∀ q ∈ (MT j).1, noS q.2.2 = true := fun q hq => List.all_eq_true.mp (List.all_eq_true.mp MT_noS j (List.mem_range.mpr h)) q hq
