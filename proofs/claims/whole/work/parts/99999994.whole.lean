theorem keep22 {n d : Nat} {all rows : List Row} {lv : LV} {M : Mem} {r : Option mv} {Mf : Mem} (h1 : okW all = true) (h2 : okW rows = true) (h : run GR2 MT n d all rows lv [] M = some (r, Mf)) : Mf.2.2 = M.2.2 :=
  (run_frame (S := fun _ _ => True) (A := fun _ => True) ⟨fun _ _ _ _ _ => trivial, fun _ _ _ _ _ _ _ => trivial, fun _ _ _ _ => trivial, trivial, trivial⟩ okW_MT n d all rows lv [] M r Mf h1 h2 (fun q _ => by unfold InS; split <;> trivial) Sm.nil h).1.2
theorem law_head : headPc (r_law_law.drop 10) = some 18 ∧ ownN 13 = "SeaFireLaw" ∧ rkO 384 = 12 := by decide +kernel
/-- from the entry, for every script of at most 3072 ints, the law comes to its end with true -/
theorem whole_start {p : Program} {e : Env} {s : State} {m : MethodId} {below : List Frame} {meth : Method} {c : Code} (l : Launch) {b L : Nat} {xs : Nat → Int32} (hL : L ≤ 3072) (C0 : lw_At p s m meth c b L xs) : W p l e room_1 s m #[Value.ref b] below meth c s.heap [] 0 0 (lw_Z below #[Value.ref b] s) (entryFrame m ([Value.ref b] : List Value).toArray 4) := by
  obtain ⟨hx, hb, hr, hml, hown, hts, hX, hbl, hlocks, hgv, hnm⟩ := C0
  obtain ⟨D, aS, aK, aV, fm, hKn⟩ := Kn_start hts hX hgv
  obtain ⟨ad, had, ha90, ha91, ha92⟩ : ∃ ad : Nat → Nat → Nat, (∀ t a, t < 90 → ad t a = s.heap.size + a) ∧ (∀ a, ad 90 a = b) ∧ (∀ a, ad 91 a = aS) ∧ ∀ a, ad 92 a = aK := ⟨fun t a => if t < 90 then s.heap.size + a else if t = 90 then b else if t = 91 then aS else aK, fun t a h => if_pos h, fun _ => rfl, fun _ => rfl, fun _ => rfl⟩
  obtain ⟨sc, hsc⟩ : ∃ sc : (Nat → Int) × Nat, sc = (fun j => (xs j).toInt, L) := ⟨_, rfl⟩
  have hL31 : L < 2 ^ 31 := by omega
  have hsim : ∀ (gr : Gr) (n : Nat), SIM l ad s.heap.size D s.heap gr sc (XtD s.heap.size b L aS xs s.heap (StT s.heap.size aK aV fm s.heap)) n := fun gr n => sim_it l D gr had ha90 ha91 ha92 hbl hL31 hsc rfl n
  obtain ⟨M1, M2, e1, e2, t1, t2, s2, g1, g2, g3, g4⟩ := init_ex
  have inv2 : Inv (setS M2 sc) := inv_init (M := setS M2 sc) g2 g3 g4
  obtain ⟨m1, m2, m3, m4, m5, m6⟩ := MI_384
  obtain ⟨k1, k2, k3⟩ := law_head
  have hCX : CX D (XtD s.heap.size b L aS xs s.heap (StT s.heap.size aK aV fm s.heap)) 384 3 p room_1 s m meth c := by
    refine ⟨hx, hb.trans m1.symm, hml.trans m2.symm, ?_, hKn, hnm.trans m6.symm, ?_, ?_⟩
    · rw [m4, k2]; exact hown
    · rw [k3]; decide
    · rw [k3]; decide
  have hsn : (sc.2 : Int) ≤ 2147483647 := by rw [hsc]; show (L : Int) ≤ 2147483647; omega
  have hsr : ∀ k, rI (sc.1 k) := fun k => by
    rw [hsc]
    exact ⟨Int32.le_toInt _, Int32.toInt_lt _⟩
  obtain ⟨n, M', hrun⟩ := law_runs (d := 3) inv2 rfl hsn hsr (Nat.le_refl _)
  have k22 : M'.2.2 = (setS M2 sc).2.2 := keep22 (okW_MT 384) (okW_drop 10 (okW_MT 384)) hrun
  have kT : tgs M' = tgs M2 := congrArg (fun q => q.2.2.1) k22
  have c1 : cN M' = 191 := by unfold cN; rw [kT]; exact t2
  have c2 : sN M' = sN M2 := by unfold sN; rw [kT]
  have hl := lv_entry ([vR 90 0].map (enc ad)) (n := 4) (by rw [lg_sl_len]; decide)
  rw [encP_args] at hl
  have hen : ([vR 90 0].map (enc ad)) = [Value.ref b] := by
    show [Value.ref (ad 90 0)] = [Value.ref b]
    rw [ha90]
  rw [hen] at hl
  rw [lg_entry_eq]
  generalize (lg_sl [Value.ref b] ++ List.replicate (4 - (lg_sl [Value.ref b]).length) Slot.unset).toArray = ls at hl ⊢
  have hH0 : HR ad s.heap.size D s.heap none s (setS mem0 sc) s.heap := ⟨fun _ => 0, rfl, (fun k q hq => by cases hq), (fun a t hh => by cases hh), fun _ _ => rfl⟩
  have hM0 : MOk none sc (setS mem0 sc) := ⟨fun _ _ => (by unfold rI; decide : rI 0), fun _ _ => (by unfold rL; decide : rL 0), (fun a t hh => by cases hh), (fun a t k q hh => by cases hh), (fun a t k q hh => by cases hh), fun a _ => ⟨fun _ => rfl, fun _ => rfl, fun _ => ⟨fun _ => rfl, fun _ _ => rfl⟩⟩, rfl⟩
  refine law_begin (XtD.ok StT.ok) had (hsim none 20000) e1 e2 t1 t2 s2 (by decide) (by decide) (by decide) hCX ⟨hl, ?_, (fun v hv => by cases hv), hH0, hM0, (fun q hq => by cases hq)⟩ ?_
  · intro q hq
    rcases List.mem_cons.mp hq with rfl | hq
    · exact Or.inl (by decide)
    · cases hq
  · intro ls H locs hF
    have hF' : FR ad s.heap.size D s.heap GR2 sc (MI 384).2.2.1 s [(0, vR 90 0), (1, vR 11 0), (2, vR 12 179), (3, vI 0)] [] (setS M2 sc) ls H locs := by
      rw [m2]
      exact ⟨hF.1, hF.2.1, hF.2.2.1, HR.gr2 hF.2.2.2.1 g1 t2 hF.2.2.2.2.1.2.2.1, MOk.gr2 hF.2.2.2.2.1 g1 t2, hF.2.2.2.2.2⟩
    refine hsim GR2 n 384 3 (r_law_law.drop 10) _ [] (setS M2 sc) (some (vI 1)) M' row_law (by rw [MT_384]; exact hrun) ⟨10, by rw [MT_384]⟩ p e room_1 s m _ below meth c _ 0 0 18 ls H locs k1 hCX ?_ (Nat.zero_le _) (Nat.zero_le _) (by rw [c1]; decide) (by rw [c2]; exact s2) hF'
    intro pc ls H locs raw hd hk hH hM hg hlo
    obtain ⟨rfl, hk2⟩ := hk
    rw [m1] at hd
    refine va_forget hlo (W.widen (k := 600000) (n := 7302250) (by rw [c1]; decide) (by rw [c2]; exact s2) ?_)
    exact lw_ret hx hb hr hlocks hd
