/-! from the graph of the memory to the closed one -/
theorem tab_f : (List.range 13).all (fun t => (List.range 100).all fun k => match (gtab.getD t []).getD k none with
  | some _ => decide (k < nf t ∧ fkd (100 * t + k) = 2)
  | none => true) = true := by decide +kernel
theorem tab_e : (List.range 21).all (fun k => match etab.getD k none with
  | some _ => decide (akind (20 + k) = 3 ∨ akind (20 + k) = 4)
  | none => true) = true := by decide +kernel
theorem GF_some {t k a : Nat} {q : Nat × Nat} (hk : k < 100) (h : GF (100 * t + k) a = some q) : t < 13 ∧ k < nf t ∧ fkd (100 * t + k) = 2 := by
  unfold GF at h
  rw [show (100 * t + k) / 100 = t by omega, show (100 * t + k) % 100 = k by omega] at h
  have h13 : t < 13 := by
    by_cases c : t < 13
    · exact c
    · have e : gtab.getD t [] = [] := by
        rw [List.getD_eq_getElem?_getD, List.getElem?_eq_none (by show 13 ≤ t; omega)]; rfl
      rw [e] at h
      cases h
  refine ⟨h13, ?_⟩
  have h1 := all_r (all_r tab_f h13) hk
  cases e : (gtab.getD t []).getD k none with
  | none => rw [e] at h; cases h
  | some z =>
    rw [e] at h1
    exact of_decide_eq_true h1
theorem EF_some {t a i : Nat} {q : Nat × Nat} (ht : 20 ≤ t) (h : EF t a i = some q) : akind t = 3 ∨ akind t = 4 := by
  unfold EF at h
  have h21 : t - 20 < 21 := by
    by_cases c : t - 20 < 21
    · exact c
    · have e : etab.getD (t - 20) none = none := by
        rw [List.getD_eq_getElem?_getD, List.getElem?_eq_none (by show 21 ≤ t - 20; omega)]; rfl
      rw [e] at h
      cases h
  have h1 := all_r tab_e h21
  cases e : etab.getD (t - 20) none with
  | none => rw [e] at h; cases h
  | some z =>
    rw [e, show 20 + (t - 20) = t by omega] at h1
    exact of_decide_eq_true h1
theorem MOk.gr2 {sc : (Nat → Int) × Nat} {M : Mem} (h : MOk none sc M) (hG : okG M = true) (h191 : (tgs M).length = 191) : MOk GR2 sc M := by
  obtain ⟨h1, h2, h3, h4, h5, h6, h7⟩ := h
  refine ⟨h1, h2, h3, fun a t k q hT hk hq => ?_, fun a t i q hT h20 hi hq => ?_, fun a ha => ⟨(h6 a ha).1, (h6 a ha).2.1, fun g => by cases g⟩, h7⟩
  · obtain ⟨h13, hn, hf⟩ := GF_some hk hq
    exact h4 a t k q hT hk ((okG_f hG h191 hT h13 hn hf).trans hq)
  · exact h5 a t i q hT h20 hi ((okG_e hG h191 hT (EF_some h20 hq) hi).trans hq)
theorem HR.gr2 {ad : Nat → Nat → Nat} {base : Nat} {D : va_G} {H0 : Heap} {s : State} {M : Mem} {H : Heap} (h : HR ad base D H0 none s M H) (hG : okG M = true) (h191 : (tgs M).length = 191) (hT3 : ∀ a t : Nat, (tgs M)[a]? = some t → tagOk t) : HR ad base D H0 GR2 s M H := by
  obtain ⟨ca, h1, hP, h3, h4⟩ := h
  refine ⟨ca, h1, fun b q hq => ?_, h3, h4⟩
  obtain ⟨t, ht, eq⟩ := ws_inv ad hq
  rw [eq]
  have hp := hP b _ (ws_at ad ht)
  rcases hT3 b t ht with g | ⟨g1, g2⟩
  · have h13 : t < 13 := by omega
    rw [eOf_obj h13] at hp ⊢
    have e : (List.range (nf t)).map (fldV ad GR2 M t b) = (List.range (nf t)).map (fldV ad none M t b) := by
      apply List.map_congr_left
      intro k hk
      have hk' : k < nf t := List.mem_range.mp hk
      unfold fldV
      by_cases c : (ftab.getD t []).getD k 9 = 2
      · rw [c]
        have hnf : nf t ≤ 100 := by
          have h9 : (List.range 13).all (fun t => decide (nf t ≤ 100)) = true := by decide +kernel
          exact of_decide_eq_true (all_r h9 h13)
        have hf : fkd (100 * t + k) = 2 := by
          unfold fkd
          rw [show (100 * t + k) / 100 = t by omega, show (100 * t + k) % 100 = k by omega]
          exact c
        rw [okG_f hG h191 ht h13 hk' hf]
      · generalize (ftab.getD t []).getD k 9 = kd at c
        match kd, c with
        | 0, _ => rfl
        | 1, _ => rfl
        | 2, c => exact absurd rfl c
        | _ + 3, _ => rfl
    rw [e]
    exact hp
  · by_cases c : akind t = 3 ∨ akind t = 4
    · rw [eOf_ref c] at hp ⊢
      have hp' : H[base + b]? = some (vp_cell _ _) := hp
      show H[base + b]? = some (vp_cell _ _)
      rw [hp', vp_cell_q, vp_cell_q]
      unfold arrV
      congr 2
      refine congrArg Array.ofFn (funext fun j => ?_)
      have hj : j.val < alen t := j.isLt
      show va_rf (Option.map (fun q => ad q.1 q.2) (gE none M t b j.val)) = va_rf (Option.map (fun q => ad q.1 q.2) (gE GR2 M t b j.val))
      rw [okG_e hG h191 ht c hj]
    · have e : eOf ad GR2 M ca b t = eOf ad none M ca b t := by
        unfold eOf
        have hb : Nat.ble 20 t = true := Nat.ble_eq_true_of_le g1
        rw [hb]
        generalize hk : akind t = kd at c
        match kd, c with
        | 0, _ => rfl
        | 1, _ => rfl
        | 2, _ => rfl
        | 3, c => exact absurd (Or.inl rfl) c
        | 4, c => exact absurd (Or.inr rfl) c
        | _ + 5, _ => rfl
      rw [e]
      exact hp
