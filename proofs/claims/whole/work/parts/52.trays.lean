/-! trays -/
theorem pI_s {M : Mem} {a k : Nat} {v : Int} : (putI M a k v).1 a k = v := up2_same
theorem pI_ne {M : Mem} {a b k : Nat} {v : Int} (h : b ≠ a) : (putI M a k v).1 b = M.1 b := up2_ne h
theorem pI_nk {M : Mem} {a b k j : Nat} {v : Int} (h : j ≠ k) : (putI M a k v).1 b j = M.1 b j := up2_nk h
theorem pI_L {M : Mem} {a k : Nat} {v : Int} : (putI M a k v).2.1 = M.2.1 := rfl
theorem pL_s {M : Mem} {a k : Nat} {v : Int} : (putL M a k v).2.1 a k = v := up2_same
theorem pL_ne {M : Mem} {a b k : Nat} {v : Int} (h : b ≠ a) : (putL M a k v).2.1 b = M.2.1 b := up2_ne h
theorem pL_nk {M : Mem} {a b k j : Nat} {v : Int} (h : j ≠ k) : (putL M a k v).2.1 b j = M.2.1 b j := up2_nk h
theorem pL_I {M : Mem} {a k : Nat} {v : Int} : (putL M a k v).1 = M.1 := rfl
def fL (M : Mem) (a o n : Nat) (f : Nat → Int) : Mem := (M.1, fun b j => if b = a ∧ o ≤ j ∧ j < o + n then f (j - o) else M.2.1 b j, M.2.2)
theorem fL_0 {M : Mem} {a o : Nat} {f : Nat → Int} : fL M a o 0 f = M := by
  unfold fL
  refine Prod.ext rfl (Prod.ext (funext fun b => funext fun j => ?_) rfl)
  exact if_neg (by omega)
theorem fL_s {M : Mem} {a o i : Nat} {f : Nat → Int} : putL (fL M a o i f) a (o + i) (f i) = fL M a o (i + 1) f := by
  unfold fL
  refine Prod.ext rfl (Prod.ext (funext fun b => funext fun j => ?_) rfl)
  show up2 _ a (o + i) (f i) b j = _
  unfold up2
  by_cases h : b = a ∧ j = o + i
  · rw [if_pos h]
    show f i = if b = a ∧ o ≤ j ∧ j < o + (i + 1) then f (j - o) else M.2.1 b j
    rw [if_pos (by omega), show j - o = i by omega]
  · rw [if_neg h]
    by_cases h2 : b = a ∧ o ≤ j ∧ j < o + i
    · simp only [if_pos h2]
      rw [if_pos (by omega)]
    · simp only [if_neg h2]
      rw [if_neg (by omega)]
theorem fL_d {M : Mem} {a o n k : Nat} {f : Nat → Int} (h : k < n) : putL (fL M a (o + (n - k)) k (fun x => f (n - k + x))) a (o + (n - 1 - k)) (f (n - 1 - k)) = fL M a (o + (n - (k + 1))) (k + 1) (fun x => f (n - (k + 1) + x)) := by
  unfold fL
  refine Prod.ext rfl (Prod.ext (funext fun b => funext fun j => ?_) rfl)
  show up2 _ a _ _ b j = _
  unfold up2
  by_cases h1 : b = a ∧ j = o + (n - 1 - k)
  · rw [if_pos h1]
    show f (n - 1 - k) = if b = a ∧ o + (n - (k + 1)) ≤ j ∧ j < o + (n - (k + 1)) + (k + 1) then f (n - (k + 1) + (j - (o + (n - (k + 1))))) else M.2.1 b j
    rw [if_pos (by omega), show n - (k + 1) + (j - (o + (n - (k + 1)))) = n - 1 - k by omega]
  · rw [if_neg h1]
    by_cases h2 : b = a ∧ o + (n - k) ≤ j ∧ j < o + (n - k) + k
    · simp only [if_pos h2]
      rw [if_pos (by omega), show n - k + (j - (o + (n - k))) = n - (k + 1) + (j - (o + (n - (k + 1)))) by omega]
    · simp only [if_neg h2]
      rw [if_neg (by omega)]
theorem fL_at {M : Mem} {a o n j : Nat} {f : Nat → Int} (h : o ≤ j ∧ j < o + n) : (fL M a o n f).2.1 a j = f (j - o) := if_pos ⟨rfl, h⟩
theorem fL_nj {M : Mem} {a o n j b : Nat} {f : Nat → Int} (h : ¬ (o ≤ j ∧ j < o + n)) : (fL M a o n f).2.1 b j = M.2.1 b j := if_neg (fun q => h q.2)
theorem fL_na {M : Mem} {a o n b : Nat} {f : Nat → Int} (h : b ≠ a) : (fL M a o n f).2.1 b = M.2.1 b := funext fun _ => if_neg (fun q => h q.1)
theorem Inv.trs {M M2 : Mem} (h : Inv M) (hF : ∀ a, Rc a → ¬ (87 ≤ a ∧ a < 95) → a ≠ 180 → a ≠ 181 → a ≠ 182 → M2.1 a = M.1 a ∧ M2.2.1 a = M.2.1 a) (hT : ∀ t, t < 4 → TrR M2 t) (hs : M2.1 0 0 = M2.1 179 0) (hk : KpH M M2) : Inv M2 := by
  obtain ⟨⟨a1, a2, a3, a4, a5, a6, a7, a8, a9, a10, a11⟩, hB⟩ := h
  obtain ⟨k1, k2, k3, k4, k5, k6, k7, k8, k9, k10, k11, k12, k13, k14⟩ := hk
  refine ⟨⟨hs, ?_, ?_, ?_, ?_, ?_, ?_, ?_, ?_, ?_, ?_⟩, ?_⟩
  · rw [k1, k3, a2]
  · rw [k2, k4, a3]
  · rw [k5, k6, a4]
  · rw [k7, k8, a5]
  · rw [k9, k10, a6]
  · rw [k11, k12, a7]
  · rw [k13, k14, a8]
  · rw [k5]; exact a9
  · rw [k11]; exact a10
  · rw [k13]; exact a11
  · rw [k5, k11, k13]
    obtain ⟨b1, b2, b3, b4, b5, b6⟩ := hB
    refine ⟨hT, ?_, b3.cong fun a ha => hF a (by unfold Ec at ha; unfold Rc; omega) (by unfold Ec at ha; omega) (by unfold Ec at ha; omega) (by unfold Ec at ha; omega) (by unfold Ec at ha; omega), fun i hi => (b4 i hi).cong fun a ha => hF a (by unfold Ec at ha; unfold Rc; omega) (by unfold Ec at ha; omega) (by unfold Ec at ha; omega) (by unfold Ec at ha; omega) (by unfold Ec at ha; omega), ?_, ?_⟩
    · unfold TpR
      rw [(hF 2 (by unfold Rc; omega) (by omega) (by omega) (by omega) (by omega)).1, (hF 183 (by unfold Rc; omega) (by omega) (by omega) (by omega) (by omega)).1]; exact b2
    · unfold LvR
      rw [(hF 83 (by unfold Rc; omega) (by omega) (by omega) (by omega) (by omega)).1, (hF 190 (by unfold Rc; omega) (by omega) (by omega) (by omega) (by omega)).1]; exact b5
    · unfold KyR
      rw [(hF 4 (by unfold Rc; omega) (by omega) (by omega) (by omega) (by omega)).2]; exact b6
/-- what a tray can't give -/
def tTr (M : Mem) (p n : Int) : Int := if 0 ≤ p ∧ p ≤ 3 then (if M.1 (87 + 2 * p.toNat) 1 = -1 then 3 else if M.1 (87 + 2 * p.toNat) 2 < n then 4 else 0) else 1
def tPl (M : Mem) (p k : Int) : Int := if 0 ≤ p ∧ p ≤ 3 then (if M.1 (87 + 2 * p.toNat) 1 = -1 then 3 else if 0 ≤ k ∧ k < M.1 (87 + 2 * p.toNat) 2 then 0 else 4) else 1
section Trs
variable {M : Mem} (d : Nat)
theorem x_missing (a : Nat) : C2 d j_ty_isMissing [vR 10 a] M = some (some (vI (if M.1 a 1 = -1 then 1 else 0)), M) := by
  rw [q_ty_isMissing]
  by_cases c : M.1 a 1 = -1
  · rw [if_pos c, if_pos c]
  · rw [if_neg c, if_neg c]
theorem x_tTr (p n : Int) : C2 d j_x_trayTrouble [vR 11 0, vI p, vL n] M = some (some (vI (tTr M p n)), M) := by
  rw [q_x_trayTrouble, x_isTray, bI_k]
  unfold tTr
  by_cases c : 0 ≤ p ∧ p ≤ 3
  · rw [if_pos c, if_pos c, if_neg (by decide), if_pos (by omega), x_missing, bI_k]
    by_cases c2 : M.1 (87 + 2 * p.toNat) 1 = -1
    · rw [if_pos (show M.1 (1 + 86 + 2 * p.toNat) 1 = -1 from c2), if_neg (by decide), if_pos c2]
    · rw [if_neg (show ¬ M.1 (1 + 86 + 2 * p.toNat) 1 = -1 from c2), if_pos rfl, if_neg c2, if_pos (by omega)]
      simp only [ycmp_gt]
      by_cases c3 : M.1 (87 + 2 * p.toNat) 2 < n
      · rw [if_pos (show M.1 (1 + 86 + 2 * p.toNat) 2 < n from c3), if_pos c3]
      · rw [if_neg (show ¬ M.1 (1 + 86 + 2 * p.toNat) 2 < n from c3), if_neg c3]
  · rw [if_neg c, if_neg c, if_pos rfl]
theorem tr_c (h : Inv M) {p : Int} (hp : 0 ≤ p ∧ p ≤ 3) : TrR M p.toNat := h.2.1 p.toNat (by omega)
theorem x_tPl (h : Inv M) (p k : Int) : C2 d j_x_placeTrouble [vR 11 0, vI p, vI k] M = some (some (vI (tPl M p k)), M) := by
  rw [q_x_placeTrouble, x_tTr, bI_k]
  unfold tTr tPl
  by_cases c : 0 ≤ p ∧ p ≤ 3
  · rw [if_pos c, if_pos c]
    rcases tr_c h c with g | g
    · rw [if_pos g.1, if_pos g.1, if_neg (by decide)]
    · have g1 : ¬ M.1 (87 + 2 * p.toNat) 1 = -1 := by omega
      rw [if_neg g1, if_neg g1, if_neg (show ¬ M.1 (87 + 2 * p.toNat) 2 < 0 by omega), if_pos rfl, if_pos (by omega), x_within, bI_k, show M.1 (1 + 86 + 2 * p.toNat) 2 = M.1 (87 + 2 * p.toNat) 2 from rfl, w32s (by omega)]
      by_cases c3 : 0 ≤ k ∧ k < M.1 (87 + 2 * p.toNat) 2
      · rw [if_pos c3, if_pos (show 0 ≤ k ∧ k ≤ M.1 (87 + 2 * p.toNat) 2 - 1 by omega), if_neg (by decide)]
      · rw [if_neg c3, if_neg (show ¬ (0 ≤ k ∧ k ≤ M.1 (87 + 2 * p.toNat) 2 - 1) by omega), if_pos rfl]
  · rw [if_neg c, if_neg c, if_neg (by decide)]
theorem m_tPl {N : Mem} (h : Inv M) (hA : ∀ a, a ≠ 0 → a ≠ 179 → N.1 a = M.1 a) (p k : Int) : C2 d j_m_placed [vR 12 179, vI p, vI k] N = some (some (vI (tPl M p k)), N) := by
  rw [q_m_placed, q_m_trayed, hA 181 (by decide) (by decide)]
  unfold tPl
  by_cases c : 0 ≤ p ∧ p ≤ 3
  · rw [if_pos c, if_neg (by omega), if_pos (by omega), if_pos (by omega)]
    rcases tr_c h c with g | g
    · rw [if_pos g.1, if_pos (by omega), bI_k, if_pos (by decide)]
    · rw [if_neg (show ¬ M.1 (87 + 2 * p.toNat) 1 = -1 by omega), if_neg (by omega), bI_k, if_neg (by decide), hA 181 (by decide) (by decide), g.2.2.1]
      by_cases c1 : k < 0
      · rw [if_pos c1, if_neg (by omega)]
      · rw [if_neg c1, if_pos (by omega)]
        by_cases c2 : k < M.1 (87 + 2 * p.toNat) 2
        · rw [if_pos c2, if_pos (by omega)]
        · rw [if_neg c2, if_neg (by omega)]
  · rw [if_neg c]
    by_cases c1 : p < 0
    · rw [if_pos c1, bI_k, if_pos (by decide)]
    · rw [if_neg c1, if_neg (by omega), bI_k, if_pos (by decide)]
theorem tPl_0 {p k : Int} (h : tPl M p k = 0) : (0 ≤ p ∧ p ≤ 3) ∧ ¬ M.1 (87 + 2 * p.toNat) 1 = -1 ∧ 0 ≤ k ∧ k < M.1 (87 + 2 * p.toNat) 2 := by
  unfold tPl at h
  by_cases c : 0 ≤ p ∧ p ≤ 3
  · rw [if_pos c] at h
    by_cases c1 : M.1 (87 + 2 * p.toNat) 1 = -1
    · rw [if_pos c1] at h; cases h
    · rw [if_neg c1] at h
      by_cases c2 : 0 ≤ k ∧ k < M.1 (87 + 2 * p.toNat) 2
      · exact ⟨c, c1, c2⟩
      · rw [if_neg c2] at h; cases h
  · rw [if_neg c] at h; cases h
theorem tPl_b {p k : Int} : 0 ≤ tPl M p k := by
  unfold tPl
  by_cases c : 0 ≤ p ∧ p ≤ 3
  · rw [if_pos c]
    by_cases c1 : M.1 (87 + 2 * p.toNat) 1 = -1
    · rw [if_pos c1]; omega
    · rw [if_neg c1]
      by_cases c2 : 0 ≤ k ∧ k < M.1 (87 + 2 * p.toNat) 2
      · rw [if_pos c2]; omega
      · rw [if_neg c2]; omega
  · rw [if_neg c]; omega
theorem o_read (h : Inv M) (p k : Int) : OpL d j_x_read j_m_read [vI p, vI k] M := by
  have hA : ∀ s a, a ≠ 0 → a ≠ 179 → (putI (putI M 0 0 s) 179 1 0).1 a = M.1 a := fun s a h1 h2 => (up2_ne h2).trans (up2_ne h1)
  by_cases c : tPl M p k = 0
  · obtain ⟨c1, c2, c3⟩ := tPl_0 c
    have g : TrR M p.toNat := tr_c h c1
    rcases g with g | g
    · exact absurd g.1 c2
    · refine ⟨M.2.1 (88 + 2 * p.toNat) k.toNat, putI M 0 0 0, putI (putI (putI M 0 0 0) 179 1 0) 179 0 0, ?_, ?_, h.keep (Kp.ofB SameB.rfl.i0.i1.i1) (by simp [up2]) (by simp [up2, KpH])⟩
      · rw [q_x_read, x_tPl d h, bI_k, if_pos c, if_pos (by omega), if_pos (by omega)]
        exact congrArg (fun a => some (some (vL (M.2.1 a k.toNat)), _)) (show 1 + 86 + 2 * p.toNat + 1 = 88 + 2 * p.toNat by omega)
      · rw [q_m_read, m_tPl d h (hA 0), bI_k, c, if_neg (by rw [pI_s]; decide), w32s (x := 60 * p) (by omega), w32s (x := 60 * p + k) (by omega), if_pos (by omega), g.2.2.2.2 k.toNat (by omega)]
        exact congrArg (fun a => some (some (vL (M.2.1 182 a)), _)) (show (60 * p + k).toNat = 60 * p.toNat + k.toNat by omega)
  · have hb := tPl_b (M := M) (p := p) (k := k)
    refine ⟨-1, putI M 0 0 (tPl M p k), putI (putI (putI M 0 0 (tPl M p k)) 179 1 0) 179 0 (tPl M p k), ?_, ?_, h.keep (Kp.ofB SameB.rfl.i0.i1.i1) (by simp [up2]) (by simp [up2, KpH])⟩
    · rw [q_x_read, x_tPl d h, bI_k, if_neg c, q_x_refuse, bI_k]
    · rw [q_m_read, m_tPl d h (hA _), bI_k, if_pos (by rw [pI_s]; omega)]
/-- what is cut to a sort -/
def cutS (s v : Int) : Int := if s = 0 then x8 (w32 v) else if s = 1 then x16 (w32 v) else if s = 2 then w32 v else v
theorem x_cut (a : Nat) (v : Int) : C2 d j_ty_cutToSort [vR 10 a, vL v] M = some (some (vL (cutS (M.1 a 1) v)), M) := by
  rw [q_ty_cutToSort]
  unfold cutS
  by_cases c0 : M.1 a 1 = 0
  · rw [if_pos c0, if_pos c0]
  · rw [if_neg c0, if_neg c0]
    by_cases c1 : M.1 a 1 = 1
    · rw [if_pos c1, if_pos c1]
    · rw [if_neg c1, if_neg c1]
      by_cases c2 : M.1 a 1 = 2
      · rw [if_pos c2, if_pos c2]
      · rw [if_neg c2, if_neg c2]
theorem m_cut (s v : Int) : C2 d j_m_cut [vI s, vL v] M = some (some (vL (cutS s v)), M) := by
  rw [q_m_cut]
  unfold cutS
  by_cases c0 : s = 0
  · rw [if_pos c0, if_pos c0]
  · rw [if_neg c0, if_neg c0]
    by_cases c1 : s = 1
    · rw [if_pos c1, if_pos c1]
    · rw [if_neg c1, if_neg c1]
      by_cases c2 : s = 2
      · rw [if_pos c2, if_pos c2]
      · rw [if_neg c2, if_neg c2]
/-- trays where the numbers of one have changed alike -/
theorem tr_put {M M2 : Mem} {t : Nat} (ht : t < 4) (h : ∀ t, t < 4 → TrR M t) (hI : ∀ a, a ≠ 0 → a ≠ 179 → M2.1 a = M.1 a) (hL : ∀ a, a ≠ 182 → a ≠ 88 + 2 * t → M2.2.1 a = M.2.1 a) (hO : ∀ j, ¬ (60 * t ≤ j ∧ j < 60 * t + 60) → M2.2.1 182 j = M.2.1 182 j) (hN : TrR M t → ∀ k : Nat, (k : Int) < M.1 (87 + 2 * t) 2 → M.1 (87 + 2 * t) 2 ≤ 60 → M2.2.1 (88 + 2 * t) k = M2.2.1 182 (60 * t + k)) : ∀ t, t < 4 → TrR M2 t := by
  intro u hu
  have hu' := h u hu
  unfold TrR at hu' ⊢
  rw [hI _ (by omega) (by omega), hI _ (by omega) (by omega), hI _ (by omega) (by omega)]
  rcases hu' with g | ⟨g1, g2, g3, g4, g5⟩
  · exact Or.inl g
  · refine Or.inr ⟨g1, g2, g3, g4, fun k hk => ?_⟩
    by_cases c : u = t
    · subst c
      exact hN (h u hu) k hk g4.2
    · rw [hL _ (by omega) (by omega), hO _ (by omega)]
      exact g5 k hk
theorem o_write (h : Inv M) (p k v : Int) : OpI d j_x_write j_m_write [vI p, vI k, vL v] M := by
  by_cases c : tPl M p k = 0
  · obtain ⟨c1, c2, c3⟩ := tPl_0 c
    have g : TrR M p.toNat := tr_c h c1
    rcases g with g | g
    · exact absurd g.1 c2
    · have hA : ∀ a, a ≠ 0 → a ≠ 179 → (putI (putI (putL M (87 + 2 * p.toNat + 1) k.toNat (cutS (M.1 (87 + 2 * p.toNat) 1) v)) 0 0 0) 179 1 0).1 a = M.1 a := fun a h1 h2 => (up2_ne h2).trans (up2_ne h1)
      have hA2 : ∀ a, a ≠ 0 → a ≠ 179 → (putI (putI (putI (putL M (87 + 2 * p.toNat + 1) k.toNat (cutS (M.1 (87 + 2 * p.toNat) 1) v)) 0 0 0) 179 1 0) 179 0 0).1 a = M.1 a := fun a h1 h2 => (up2_ne h2).trans ((up2_ne h2).trans (up2_ne h1))
      refine ⟨1, putI (putL M (87 + 2 * p.toNat + 1) k.toNat (cutS (M.1 (87 + 2 * p.toNat) 1) v)) 0 0 0, putL (putI (putI (putI (putL M (87 + 2 * p.toNat + 1) k.toNat (cutS (M.1 (87 + 2 * p.toNat) 1) v)) 0 0 0) 179 1 0) 179 0 0) 182 (60 * p.toNat + k.toNat) (cutS (M.1 (87 + 2 * p.toNat) 1) v), ?_, ?_, ?_⟩
      · rw [q_x_write, x_tPl d h, bI_k, if_pos c, if_pos (by omega), q_ty_put, x_cut, bL_k, if_pos (by omega), bV_k, q_x_grant, bI_k, if_pos (by decide)]
      · rw [q_m_write, m_tPl d h hA, bI_k, c, if_neg (by rw [pI_s]; decide), if_pos (by omega), hA2 180 (by decide) (by decide), m_cut, bL_k, w32s (x := 60 * p) (by omega), w32s (x := 60 * p + k) (by omega), if_pos (by omega), g.2.1, show (60 * p + k).toNat = 60 * p.toNat + k.toNat by omega]
      · refine h.trs ?_ (tr_put (t := p.toNat) (by omega) h.2.1 ?_ ?_ ?_ ?_) ?_ ?_
        · intro a g1 g2 g3 g4 g5
          unfold Rc at g1
          refine ⟨hA2 a (by omega) (by omega), ?_⟩
          exact (up2_ne g5).trans (up2_ne (by omega))
        · exact hA2
        · intro a g1 g2
          exact (up2_ne g1).trans (up2_ne (by omega))
        · intro j hj
          exact (up2_nk (by omega)).trans (up2_na (by omega))
        · intro _ j hj hl
          by_cases e : j = k.toNat
          · subst e
            rw [pL_ne (by omega), pL_s, show 88 + 2 * p.toNat = 87 + 2 * p.toNat + 1 by omega]
            exact up2_same
          · rw [pL_ne (by omega), pL_nk e, pL_nk (by omega), pL_ne (by omega)]
            exact g.2.2.2.2 j hj
        · simp [up2]
        · simp [up2, KpH, show ¬ (0 = 87 + 2 * p.toNat + 1) by omega, show ¬ (179 = 87 + 2 * p.toNat + 1) by omega]
  · have hb := tPl_b (M := M) (p := p) (k := k)
    have hA : ∀ a, a ≠ 0 → a ≠ 179 → (putI (putI M 0 0 (tPl M p k)) 179 1 0).1 a = M.1 a := fun a h1 h2 => (up2_ne h2).trans (up2_ne h1)
    refine ⟨0, putI M 0 0 (tPl M p k), putI (putI (putI M 0 0 (tPl M p k)) 179 1 0) 179 0 (tPl M p k), ?_, ?_, h.keep (Kp.ofB SameB.rfl.i0.i1.i1) (by simp [up2]) (by simp [up2, KpH])⟩
    · rw [q_x_write, x_tPl d h, bI_k, if_neg c, q_x_deny, bI_k, if_pos (by decide)]
    · rw [q_m_write, m_tPl d h hA, bI_k, if_pos (by rw [pI_s]; omega)]
end Trs
