/-! what is known at the law's entry -/
abbrev tmS : Term := .static "SeaFire" "SETS_WITH" "[J"
abbrev tmK : Term := .string "SeaFire$Reader" 57
abbrev tmB : Term := .field tmK "java/lang/String" "value" "[B"
abbrev preC : Cond := .and given_1 narrow_1
theorem pre_sets : (List.range 6).all (fun j => decide ((flatC preC)[12 + j]? = some (Cond.eq (.elem tmS (.int (Int32.ofNat j))) (.long (Int64.ofInt (setsF.getD j 0)))))) = true := by decide +kernel
theorem pre_text : (List.range 152).all (fun j => decide ((flatC preC)[87 + j]? = some (Cond.eq (.elem tmB (.int (Int32.ofNat j))) (.int (Int32.ofInt (keyT.getD j 0)))))) = true := by decide +kernel
theorem pre_one : (flatC preC)[4]? = some (Cond.eq (.static "java/lang/String" "COMPACT_STRINGS" "Z") (.int 1)) ∧ (flatC preC)[5]? = some (Cond.isRef (.static "jdk/internal/util/Preconditions" "SIOOBE_FORMATTER" "Ljava/util/function/BiFunction;")) ∧ (flatC preC)[10]? = some (Cond.arrayOf tmS .long) ∧ (flatC preC)[11]? = some (Cond.eq (.length tmS) (.int (Int32.ofNat 6))) ∧ (flatC preC)[83]? = some (Cond.exactly tmK "java/lang/String") ∧ (flatC preC)[84]? = some (Cond.eq (.field tmK "java/lang/String" "coder" "B") (.int 0)) ∧ (flatC preC)[85]? = some (Cond.arrayOf tmB .byte) ∧ (flatC preC)[86]? = some (Cond.eq (.length tmB) (.int (Int32.ofNat 152))) := by decide +kernel
theorem tbl_one : lw_tbl[150]? = some (Cond.initialized "SeaFire") ∧ lw_tbl[152]? = some (Cond.initialized "java/lang/String") ∧ lw_tbl[154]? = some (Cond.initialized "jdk/internal/util/Preconditions") ∧ lw_tbl[187]? = some (Cond.stringRef "SeaFire$Reader" 57 keyS) ∧ lw_tbl[197]? = some (Cond.laysStatic "java/lang/String" "COMPACT_STRINGS" "Z") ∧ lw_tbl[213]? = some (Cond.laysStatic "jdk/internal/util/Preconditions" "SIOOBE_FORMATTER" "Ljava/util/function/BiFunction;") := by decide +kernel
theorem tbl_two : lw_tbl[1407]? = some nestS ∧ lw_tbl[1408]? = some (Cond.laysStatic "SeaFire" "SETS_WITH" "[J") ∧ lw_tbl[544]? = some (Cond.arrayOver (.array .long)) := by decide +kernel
theorem tbl_ao : (List.range 90).all (fun t => decide (akind t = 3 → Cond.arrayOver (.object (clsT (acomp t)).1) ∈ lw_tbl)) = true := by decide +kernel
theorem Kn_start {s : State} {b L : Nat} {xs : Nat → Int32} (hts : ∀ w ∈ lw_tbl, w.before #[Value.ref b] s = true) (hX : va_X b L xs s s.heap) (hgv : preC.before #[Value.ref b] s = true) : ∃ (D : va_G) (aS aK aV fm : Nat), Kn D (XtD s.heap.size b L aS xs s.heap (StT s.heap.size aK aV fm s.heap)) s := by
  have hs := flat_of_before _ hgv
  have at' : ∀ {k : Nat} {w : Cond}, (flatC preC)[k]? = some w → w.before #[Value.ref b] s = true := fun h => hs _ (List.mem_of_getElem? h)
  have tb' : ∀ {k : Nat} {w : Cond}, lw_tbl[k]? = some w → w.before #[Value.ref b] s = true := fun h => hts _ (List.mem_of_getElem? h)
  obtain ⟨p1, p2, p3, p4, p5, p6, p7, p8⟩ := pre_one
  obtain ⟨t1, t2, t3, t4, t5, t6⟩ := tbl_one
  obtain ⟨t7, t8, t9⟩ := tbl_two
  have hA : ∀ a : Nat, a < s.heap.size → ¬ (fun q => s.heap.size ≤ q) a := fun a h1 h2 => Nat.not_le_of_lt h1 h2
  have h0 : ∀ k : Nat, ∃ r : ClassId × (Nat → Nat), ∀ q : vw_C, vwCl[k]? = some q → u_Kn s q.1 q.2.1 q.2.2 r.1 r.2 := by
    intro k
    cases hk : vwCl[k]? with
    | none => exact ⟨(0, fun _ => 0), fun q hq => by cases hq⟩
    | some q =>
      have h13 : k < 13 := (List.getElem?_eq_some_iff.mp hk).1
      have e : clsT k = q := by
        unfold clsT
        rw [List.getD_eq_getElem?_getD, hk]
        rfl
      have h1 := of_decide_eq_true (all_r cls_ok h13)
      have h2 := of_decide_eq_true (all_r clsI_ok h13)
      rw [e] at h1 h2
      obtain ⟨cC, iS, h3⟩ := u_known hts (fun w hw => (h1 w hw).1) (hts _ h2.1.1)
      refine ⟨(cC, iS), fun q' hq => ?_⟩
      cases hq
      exact h3
  obtain ⟨aS, hS1, hS2⟩ := va_Tof (A := fun q => s.heap.size ≤ q) (f := fun j => .long (Int64.ofInt (setsF.getD j 0))) (by decide : 6 < 2 ^ 31) (at' p3) (va_eqt (at' p4)) (fun j hj => va_eqtl (at' (of_decide_eq_true (all_r pre_sets hj)))) hA
  obtain ⟨aK, cK, cA, kA, q1, q2, q3, q4, q5, q6, -⟩ := Cond.exactly_spec (args := #[Value.ref b]) (first := s) (o := none) (s := s) (idx := []) (t := tmK) (cls := "java/lang/String") (at' p5)
  obtain ⟨aV, hV1, hV2⟩ := va_Tof (A := fun q => s.heap.size ≤ q) (f := fun j => .int (Int32.ofInt (keyT.getD j 0))) (by decide : 152 < 2 ^ 31) (at' p7) (va_eqt (at' p8)) (fun j hj => va_eqt (at' (of_decide_eq_true (all_r pre_text hj)))) hA
  obtain ⟨vf, hf1, hf2⟩ := Cond.isRef_spec (args := #[Value.ref b]) (first := s) (o := none) (s := s) (idx := []) (at' p2)
  obtain ⟨fm, rfl⟩ : ∃ fm : Nat, vf = fv fm := by
    cases vf with
    | null => exact ⟨0, rfl⟩
    | ref a => exact ⟨a + 1, rfl⟩
    | _ => cases hf2
  refine ⟨(fun k => (h0 k).choose.1, fun k => (h0 k).choose.2), aS, aK, aV, fm, fun w hw hg a => word_at (State.WarmedH.refl s) (good_of_word hg) (hts w hw), fun q hq a => ?_, ⟨fun k q hq => (h0 k).choose_spec q hq, fun k q hq => by cases hq⟩, hX, va_Nw.of rfl (tb' t7), va_Zof (tb' t8) (tb' t1) hS1 hA, hS2, fun t ht => ?_, vk_R.of (tb' t4) q1, ⟨va_Oof (at' p5) q1 hA, vk_OFof q1 (va_eqt (at' p6)) hA, vk_OFof q1 hV1 hA, hV2, va_Zof (tb' t5) (tb' t2) (va_eqt (at' p1)) hA, va_Zof (tb' t6) (tb' t3) hf1 hA⟩, ?_⟩
  · have h1 := of_decide_eq_true (List.all_eq_true.mp mnT_ok q hq)
    exact va_Nw.use rfl (va_Nw.of rfl (tb' h1))
  · have h90 : t < 90 := k90 (k := 3) (by rw [ht]; rfl) (by decide)
    exact va_AO.of (hts _ (of_decide_eq_true (all_r tbl_ao h90) ht))
  · exact arrayOver_alikeB (Vm.Alike.refl s.vm) (tb' t9)
