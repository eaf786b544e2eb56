/-! what holds between two calls -/
/-- a block of the reference's numbers -/
def blk (M : Mem) (b : Nat) : Nat → Int := fun k => M.1 184 (345 * b + k)
theorem blk_0 (M : Mem) : blk M 0 = mV M := by
  funext k
  unfold blk mV
  rw [Nat.mul_zero, Nat.zero_add]
def Wf (V : Nat → Int) : Prop := Wc V ∧ (10 ≤ V 3 ∧ V 3 ≤ 99) ∧ (0 ≤ V 4 ∧ V 4 ≤ 999) ∧ (0 ≤ V 5 ∧ V 5 ≤ 9999) ∧ (0 ≤ V 6 ∧ V 6 ≤ 9999) ∧ (0 ≤ V 7 ∧ V 7 ≤ 9999) ∧ (0 ≤ V 8 ∧ V 8 ≤ 63) ∧
  (∀ p : Nat, (p : Int) < V 0 → (1 ≤ V (9 + p) ∧ V (9 + p) ≤ 99) ∧ (1 ≤ V (15 + p) ∧ V (15 + p) ≤ 9) ∧ (V (21 + p) = 0 ∨ V (21 + p) = 1) ∧ (0 ≤ V (27 + p) ∧ V (27 + p) ≤ 99)) ∧
  (∀ h : Nat, (h : Int) < V 1 → (0 ≤ V (33 + h) ∧ V (33 + h) ≤ 100) ∧ (0 ≤ V (41 + h) ∧ V (41 + h) ≤ 99) ∧ (0 ≤ V (49 + h) ∧ V (49 + h) ≤ 63) ∧ (0 ≤ V (57 + h) ∧ V (57 + h) ≤ 2) ∧ (V (57 + h) = 0 → V (33 + h) ≤ 99)) ∧
  (∀ s : Nat, (s : Int) < V 2 → (0 ≤ V (65 + s) ∧ V (65 + s) ≤ 999) ∧ (0 ≤ V (69 + s) ∧ V (69 + s) ≤ 99))
/-- names of parts and hands -/
def NmR (M : Mem) (e b : Nat) : Prop := (∀ p : Nat, (p : Int) < blk M b 0 → M.2.1 ((e + 1) + 9 + 1 * p) 0 = M.2.1 187 (18 * b + p)) ∧ (∀ h : Nat, (h : Int) < blk M b 1 → M.2.1 ((e + 2) + 14 + 1 * h) 0 = M.2.1 187 (18 * b + 6 + h))
/-- a step of the reference, a row of the class -/
def kwOf (k : Int) : Int := if k ≤ 8 then 14 + k else if k = 9 then 25 else 27
def StR (M : Mem) (q : Nat) (P : Nat → Int) (s r : Nat) : Prop :=
  (0 ≤ P (75 + 9 * s) ∧ P (75 + 9 * s) ≤ 10) ∧ M.1 (q + 1) r = kwOf (P (75 + 9 * s)) ∧
  (P (75 + 9 * s) = 0 → M.1 (q + 2) r = P (76 + 9 * s) ∧ 1 ≤ P (76 + 9 * s) ∧ P (76 + 9 * s) ≤ 20) ∧
  (P (75 + 9 * s) = 1 → M.1 (q + 2) r = P (76 + 9 * s) ∧ 1 ≤ P (76 + 9 * s) ∧ P (76 + 9 * s) ≤ 999) ∧
  (P (75 + 9 * s) = 3 → M.1 (q + 2) r = P (76 + 9 * s) ∧ M.1 (q + 3) r = P (77 + 9 * s) ∧ M.1 (q + 4) r = P (78 + 9 * s) ∧ (0 ≤ P (76 + 9 * s) ∧ P (76 + 9 * s) < P 1) ∧ (0 ≤ P (77 + 9 * s) ∧ P (77 + 9 * s) < P 1) ∧ (0 ≤ P (78 + 9 * s) ∧ P (78 + 9 * s) < P 0)) ∧
  (P (75 + 9 * s) = 4 ∨ P (75 + 9 * s) = 5 → M.1 (q + 2) r = P (76 + 9 * s) ∧ 0 ≤ P (76 + 9 * s) ∧ P (76 + 9 * s) < P 0) ∧
  (P (75 + 9 * s) = 6 → M.1 (q + 2) r = P (76 + 9 * s) ∧ 0 ≤ P (76 + 9 * s) ∧ P (76 + 9 * s) < P 1) ∧
  (P (75 + 9 * s) = 8 → (P (81 + 9 * s) = 0 ∧ M.1 (q + 2) r = 23 ∧ M.1 (q + 3) r = P (76 + 9 * s) ∧ 0 ≤ P (76 + 9 * s) ∧ P (76 + 9 * s) < P 0) ∨ (P (81 + 9 * s) = 1 ∧ M.1 (q + 2) r = 24) ∨ (P (81 + 9 * s) = 2 ∧ M.1 (q + 2) r = 2 ∧ M.1 (q + 3) r = P (82 + 9 * s) ∧ M.1 (q + 4) r = P (76 + 9 * s))) ∧
  (P (75 + 9 * s) = 9 → M.1 (q + 2) r = P (76 + 9 * s) ∧ 1 ≤ P (76 + 9 * s) ∧ P (76 + 9 * s) ≤ 99)
def Seg (M : Mem) (q : Nat) (P : Nat → Int) : Nat → Nat → Nat → Nat → Nat → Nat → Prop
  | 0, _, _, _, _, _ => False
  | k + 1, D, s, t, r, r' => (s = t ∧ r = r') ∨ (s < t ∧ StR M q P s r ∧
      (((P (75 + 9 * s) = 8 ∨ P (75 + 9 * s) = 9) ∧ ∃ E D' u, D = D' + 1 ∧ P (83 + 9 * s) = ((u : Nat) : Int) ∧ u ≤ t ∧ E < 60 ∧ M.1 (q + 5) r = ((E : Nat) : Int) ∧ M.1 (q + 5) E = (r : Int) ∧ M.1 (q + 1) E = 26 ∧ Seg M q P k D' (s + 1) u (r + 1) E ∧ Seg M q P k D u t (E + 1) r') ∨
       (¬ (P (75 + 9 * s) = 8 ∨ P (75 + 9 * s) = 9) ∧ P (83 + 9 * s) = ((s + 1 : Nat) : Int) ∧ Seg M q P k D (s + 1) t (r + 1) r')))
def PlR (M : Mem) (e : Nat) (P : Nat → Int) : Prop :=
  M.1 (e + 4) 7 = P 73 ∧ (P 73 = 0 ∨ P 73 = 1) ∧ (0 ≤ M.1 (e + 4) 5 ∧ M.1 (e + 4) 5 ≤ 60) ∧
  (P 73 = 1 → M.1 (e + 4) 6 = P 74 ∧ ∃ n m : Nat, P 74 = (n : Int) ∧ n ≤ 30 ∧ M.1 (e + 4) 5 = (m : Int) ∧ m ≤ 60 ∧ Seg M (e + 4) P 100 3 0 n 0 m)
def EmpR (M : Mem) (e b : Nat) : Prop := Rl M e (blk M b) ∧ Wf (blk M b) ∧ NmR M e b ∧ PlR M e (blk M b)
/-- trays -/
def TrR (M : Mem) (t : Nat) : Prop :=
  (M.1 (87 + 2 * t) 1 = -1 ∧ M.1 181 t = -1) ∨
  ((0 ≤ M.1 (87 + 2 * t) 1 ∧ M.1 (87 + 2 * t) 1 ≤ 3) ∧ M.1 180 t = M.1 (87 + 2 * t) 1 ∧ M.1 181 t = M.1 (87 + 2 * t) 2 ∧ (0 ≤ M.1 (87 + 2 * t) 2 ∧ M.1 (87 + 2 * t) 2 ≤ 60) ∧
    (∀ k : Nat, (k : Int) < M.1 (87 + 2 * t) 2 → M.2.1 (88 + 2 * t) k = M.2.1 182 (60 * t + k)))
def TpR (M : Mem) (n : Int) : Prop := ∀ k : Nat, (k : Int) < n → M.1 2 k = M.1 183 k ∧ -128 ≤ M.1 2 k ∧ M.1 2 k ≤ 127
def LvR (M : Mem) (l : Int) : Prop := l = 1 → M.1 83 1 = M.1 190 0 ∧ M.1 83 2 = M.1 190 1 ∧ M.1 83 3 = M.1 190 2 ∧ M.1 83 4 = M.1 190 3 ∧ M.1 83 5 = M.1 190 4 ∧ (M.1 190 4 = 0 ∨ M.1 190 4 = 1)
def keyC : List Int := [402629, 83431602, 329299, 525908, 6328499, 755507, 25310154926, 263620, 1253, 17376357, 12009203, 654910919, 52, 7657651, 824370, 427365, 22117, 21136488, 24716933, 87630, 3272234565, 1497, 762030, 12009198, 24395141, 409072, 5572, 643568]
def KyR (M : Mem) : Prop := ∀ i : Nat, i < 28 → M.2.1 4 i = keyC.getD i 0
def Hd (M : Mem) : Prop := M.1 0 0 = M.1 179 0 ∧ M.2.1 0 1 = M.2.1 179 2 ∧ M.2.1 0 2 = M.2.1 179 3 ∧ M.1 0 5 = M.1 179 8 ∧ M.1 0 9 = M.1 179 10 ∧ M.1 0 10 = M.1 179 11 ∧ M.1 0 14 = M.1 179 24 ∧ M.1 0 18 = M.1 179 34 ∧ (0 ≤ M.1 0 5 ∧ M.1 0 5 ≤ 900) ∧ (0 ≤ M.1 0 14 ∧ M.1 0 14 ≤ 3) ∧ (M.1 0 18 = 0 ∨ M.1 0 18 = 1)
def Bd (M : Mem) (tp mk lv : Int) : Prop := (∀ t, t < 4 → TrR M t) ∧ TpR M tp ∧ EmpR M 11 0 ∧ (∀ i : Nat, (i : Int) < mk → EmpR M (95 + 28 * i) (i + 1)) ∧ LvR M lv ∧ KyR M
def Inv (M : Mem) : Prop := Hd M ∧ Bd M (M.1 0 5) (M.1 0 14) (M.1 0 18)
/-- cells that are looked at -/
def Rc (a : Nat) : Prop := a = 2 ∨ a = 4 ∨ (11 ≤ a ∧ a < 39) ∨ a = 83 ∨ (87 ≤ a ∧ a < 179) ∨ (180 ≤ a ∧ a ≤ 184) ∨ a = 187 ∨ a = 190
def Kp (M M' : Mem) : Prop := ∀ a, Rc a → M'.1 a = M.1 a ∧ M'.2.1 a = M.2.1 a
theorem Kp.ofB {M M' : Mem} (h : SameB M M') : Kp M M' := fun a ha => h a (by unfold Rc at ha; omega) (by unfold Rc at ha; omega)
theorem Kp.tr {M N K : Mem} (h : Kp M N) (g : Kp N K) : Kp M K := fun a ha => ⟨(g a ha).1.trans (h a ha).1, (g a ha).2.trans (h a ha).2⟩
/-- the cells of an empire -/
def Ec (e a : Nat) : Prop := (e ≤ a ∧ a < e + 28) ∨ a = 184 ∨ a = 187
theorem Rl.cong {M M' : Mem} {e : Nat} {V : Nat → Int} (H : ∀ a, e ≤ a → a < e + 28 → M'.1 a = M.1 a) (h : Rl M e V) : Rl M' e V := by
  obtain ⟨hc, hs, hp, hh, hq⟩ := h
  have hc' := hc
  unfold Wc at hc'
  refine ⟨hc, ?_, ?_, ?_, ?_⟩
  · rw [H e (by omega) (by omega)]; exact hs
  · intro p hp'
    rw [H _ (by omega) (by omega)]; exact hp p hp'
  · intro p hp'
    rw [H _ (by omega) (by omega)]; exact hh p hp'
  · intro p hp'
    rw [H _ (by omega) (by omega)]; exact hq p hp'
theorem Rl.view {M : Mem} {e : Nat} {V W : Nat → Int} (H : ∀ k, k < 73 → W k = V k) (h : Rl M e V) : Rl M e W := by
  obtain ⟨hc, hs, hp, hh, hq⟩ := h
  have hc' := hc
  unfold Wc at hc'
  have e0 := H 0 (by omega)
  have e1 := H 1 (by omega)
  have e2 := H 2 (by omega)
  refine ⟨?_, ?_, ?_, ?_, ?_⟩
  · unfold Wc; rw [e0, e1, e2]; exact hc'
  · rw [H 3 (by omega), H 4 (by omega), H 5 (by omega), H 6 (by omega), H 7 (by omega), H 8 (by omega), e0, e1, e2]
    have : sWr W = sWr V := by
      unfold sWr
      rw [e0]
      apply un_congr
      · intro i hi; rw [H _ (by omega)]
      · intros; rfl
    rw [this]; exact hs
  · intro p hp'
    rw [e0] at hp'
    rw [H _ (by omega), H _ (by omega), H _ (by omega)]; exact hp p hp'
  · intro p hp'
    rw [e1] at hp'
    rw [H _ (by omega), H _ (by omega), H _ (by omega), H _ (by omega)]; exact hh p hp'
  · intro p hp'
    rw [e2] at hp'
    rw [H _ (by omega), H _ (by omega)]; exact hq p hp'
theorem StR.cong {M M' : Mem} {q : Nat} {P : Nat → Int} {s r : Nat} (H : ∀ a, q < a → a < q + 6 → M'.1 a = M.1 a) (h : StR M q P s r) : StR M' q P s r := by
  unfold StR at h ⊢
  rw [H (q + 1) (by omega) (by omega), H (q + 2) (by omega) (by omega), H (q + 3) (by omega) (by omega), H (q + 4) (by omega) (by omega)]
  exact h
theorem Seg.cong {M M' : Mem} {q : Nat} {P : Nat → Int} (H : ∀ a, q < a → a < q + 6 → M'.1 a = M.1 a) : ∀ {k D s t r r' : Nat}, Seg M q P k D s t r r' → Seg M' q P k D s t r r'
  | 0, _, _, _, _, _, h => h
  | k + 1, D, s, t, r, r', h => by
    rcases h with h | ⟨h1, h2, h3⟩
    · exact Or.inl h
    · refine Or.inr ⟨h1, h2.cong H, ?_⟩
      rcases h3 with ⟨hk, E, D', u, g1, g2, g3, g4, g5, g6, g7, g8, g9⟩ | ⟨hk, g1, g2⟩
      · refine Or.inl ⟨hk, E, D', u, g1, g2, g3, g4, ?_, ?_, ?_, Seg.cong H g8, Seg.cong H g9⟩
        · rw [H _ (by omega) (by omega)]; exact g5
        · rw [H _ (by omega) (by omega)]; exact g6
        · rw [H _ (by omega) (by omega)]; exact g7
      · exact Or.inr ⟨hk, g1, Seg.cong H g2⟩
theorem PlR.cong {M M' : Mem} {e : Nat} {P : Nat → Int} (H : ∀ a, e + 4 ≤ a → a < e + 10 → M'.1 a = M.1 a) (h : PlR M e P) : PlR M' e P := by
  obtain ⟨h1, h2, h3, h4⟩ := h
  have e4 := H (e + 4) (by omega) (by omega)
  refine ⟨by rw [e4]; exact h1, h2, by rw [e4]; exact h3, fun g => ?_⟩
  obtain ⟨a1, n, m, a2, a3, a4, a5, a6⟩ := h4 g
  exact ⟨by rw [e4]; exact a1, n, m, a2, a3, by rw [e4]; exact a4, a5, Seg.cong (fun a h1 h2 => H a (by omega) (by omega)) a6⟩
theorem EmpR.cong {M M' : Mem} {e b : Nat} (H : ∀ a, Ec e a → M'.1 a = M.1 a ∧ M'.2.1 a = M.2.1 a) (h : EmpR M e b) : EmpR M' e b := by
  obtain ⟨h1, h2, h3, h4⟩ := h
  have eb : blk M' b = blk M b := by
    unfold blk
    rw [(H 184 (Or.inr (Or.inl rfl))).1]
  have hc := h1.1
  unfold Wc at hc
  unfold EmpR
  rw [eb]
  refine ⟨h1.cong fun a g1 g2 => (H a (Or.inl ⟨g1, g2⟩)).1, h2, ?_, h4.cong fun a g1 g2 => (H a (Or.inl (by omega))).1⟩
  unfold NmR
  rw [eb, (H 187 (Or.inr (Or.inr rfl))).2]
  constructor
  · intro p hp
    rw [(H _ (Or.inl (by omega))).2]; exact h3.1 p hp
  · intro p hp
    rw [(H _ (Or.inl (by omega))).2]; exact h3.2 p hp
theorem TrR.cong {M M' : Mem} {t : Nat} (H : ∀ a, a = 87 + 2 * t ∨ a = 88 + 2 * t ∨ a = 180 ∨ a = 181 ∨ a = 182 → M'.1 a = M.1 a ∧ M'.2.1 a = M.2.1 a) (h : TrR M t) : TrR M' t := by
  unfold TrR at h ⊢
  rw [(H (87 + 2 * t) (by omega)).1, (H 180 (by omega)).1, (H 181 (by omega)).1, (H 182 (by omega)).2, (H (88 + 2 * t) (by omega)).2]
  exact h
theorem Bd.cong {M M' : Mem} {tp mk lv : Int} (H : Kp M M') (hm : mk ≤ 3) (h : Bd M tp mk lv) : Bd M' tp mk lv := by
  obtain ⟨h1, h2, h3, h4, h5, h6⟩ := h
  refine ⟨fun t ht => (h1 t ht).cong fun a ha => H a (by unfold Rc; omega), ?_, h3.cong fun a ha => H a (by unfold Ec at ha; unfold Rc; omega), fun i hi => (h4 i hi).cong fun a ha => H a (by unfold Ec at ha; unfold Rc; omega), ?_, ?_⟩
  · unfold TpR
    rw [(H 2 (by unfold Rc; omega)).1, (H 183 (by unfold Rc; omega)).1]; exact h2
  · unfold LvR
    rw [(H 83 (by unfold Rc; omega)).1, (H 190 (by unfold Rc; omega)).1]; exact h5
  · unfold KyR
    rw [(H 4 (by unfold Rc; omega)).2]; exact h6
/-- only what a call says of itself has changed -/
def KpH (M M' : Mem) : Prop := M'.2.1 0 1 = M.2.1 0 1 ∧ M'.2.1 0 2 = M.2.1 0 2 ∧ M'.2.1 179 2 = M.2.1 179 2 ∧ M'.2.1 179 3 = M.2.1 179 3 ∧ M'.1 0 5 = M.1 0 5 ∧ M'.1 179 8 = M.1 179 8 ∧ M'.1 0 9 = M.1 0 9 ∧ M'.1 179 10 = M.1 179 10 ∧ M'.1 0 10 = M.1 0 10 ∧ M'.1 179 11 = M.1 179 11 ∧ M'.1 0 14 = M.1 0 14 ∧ M'.1 179 24 = M.1 179 24 ∧ M'.1 0 18 = M.1 0 18 ∧ M'.1 179 34 = M.1 179 34
theorem Inv.keep {M M' : Mem} (h : Inv M) (hb : Kp M M') (hs : M'.1 0 0 = M'.1 179 0) (hk : KpH M M') : Inv M' := by
  obtain ⟨⟨a1, a2, a3, a4, a5, a6, a7, a8, a9, a10, a11⟩, hB⟩ := h
  obtain ⟨k1, k2, k3, k4, k5, k6, k7, k8, k9, k10, k11, k12, k13, k14⟩ := hk
  refine ⟨⟨hs, ?_, ?_, ?_, ?_, ?_, ?_, ?_, ?_, ?_, ?_⟩, ?_⟩
  · rw [k1, k3, a2]
  · rw [k2, k4, a3]
  · rw [k5, k6, a4]
  · rw [k7, k8, a5]
  · rw [k9, k10, a6]
  · rw [k11, k12, a7]
  · rw [k13, k14, a8]
  · rw [k5]; exact a9
  · rw [k11]; exact a10
  · rw [k13]; exact a11
  · rw [k5, k11, k13]
    exact hB.cong hb a10.2
theorem mV_i {M : Mem} {a k : Nat} {v : Int} (h : 184 ≠ a) : mV (putI M a k v) = mV M := funext fun _ => up2_na h
theorem mV_l {M : Mem} {a k : Nat} {v : Int} : mV (putL M a k v) = mV M := rfl
/-- the memory in which the reference begins to answer -/
abbrev bg (M : Mem) (s : Int) : Mem := putI (putI (putI M 0 0 s) 179 1 0) 179 0 0
theorem mV_bg {M : Mem} {s : Int} : mV (putI (putI (putI M 0 0 s) 179 1 0) 179 0 0) = mV M := by rw [mV_i (by decide), mV_i (by decide), mV_i (by decide)]
theorem Inv.rl {M : Mem} (h : Inv M) : Rl M 11 (mV M) := by
  have := h.2.2.2.1.1
  rw [blk_0] at this; exact this
theorem Inv.wf {M : Mem} (h : Inv M) : Wf (mV M) := by
  have := h.2.2.2.1.2.1
  rw [blk_0] at this; exact this
theorem Inv.wc {M : Mem} (h : Inv M) : Wc (mV M) := h.wf.1
theorem Inv.wb {M : Mem} (h : Inv M) (s : Int) : Wc (mV (putI (putI (putI M 0 0 s) 179 1 0) 179 0 0)) := by rw [mV_bg]; exact h.wc
def OpI (d jx jm : Nat) (ax : List mv) (M : Mem) : Prop := ∃ x M1 M2, C2 d jx (vR 11 0 :: ax) M = some (some (vI x), M1) ∧ C2 d jm (vR 12 179 :: ax) M1 = some (some (vI x), M2) ∧ Inv M2
def OpL (d jx jm : Nat) (ax : List mv) (M : Mem) : Prop := ∃ x M1 M2, C2 d jx (vR 11 0 :: ax) M = some (some (vL x), M1) ∧ C2 d jm (vR 12 179 :: ax) M1 = some (some (vL x), M2) ∧ Inv M2
/-- answered, with nothing changed -/
theorem opA {d jx jm : Nat} {ax : List mv} {M : Mem} (h : Inv M) (x : Int) (hx : C2 d jx (vR 11 0 :: ax) M = some (some (vI x), putI M 0 0 0)) (hm : C2 d jm (vR 12 179 :: ax) (putI M 0 0 0) = some (some (vI x), putI (putI (putI M 0 0 0) 179 1 0) 179 0 0)) : OpI d jx jm ax M :=
  ⟨x, _, _, hx, hm, h.keep (Kp.ofB SameB.rfl.i0.i1.i1) (by simp [up2]) (by simp [up2, KpH])⟩
/-- refused -/
theorem opR {d jx jm : Nat} {ax : List mv} {M : Mem} (h : Inv M) (x s : Int) (hx : C2 d jx (vR 11 0 :: ax) M = some (some (vI x), putI M 0 0 s)) (hm : C2 d jm (vR 12 179 :: ax) (putI M 0 0 s) = some (some (vI x), putI (putI (putI (putI M 0 0 s) 179 1 0) 179 0 0) 179 0 s)) : OpI d jx jm ax M :=
  ⟨x, _, _, hx, hm, h.keep (Kp.ofB SameB.rfl.i0.i1.i1.i1) (by simp [up2]) (by simp [up2, KpH])⟩
theorem opAL {d jx jm : Nat} {ax : List mv} {M : Mem} (h : Inv M) (x : Int) (hx : C2 d jx (vR 11 0 :: ax) M = some (some (vL x), putI M 0 0 0)) (hm : C2 d jm (vR 12 179 :: ax) (putI M 0 0 0) = some (some (vL x), putI (putI (putI M 0 0 0) 179 1 0) 179 0 0)) : OpL d jx jm ax M :=
  ⟨x, _, _, hx, hm, h.keep (Kp.ofB SameB.rfl.i0.i1.i1) (by simp [up2]) (by simp [up2, KpH])⟩
theorem opRL {d jx jm : Nat} {ax : List mv} {M : Mem} (h : Inv M) (x s : Int) (hx : C2 d jx (vR 11 0 :: ax) M = some (some (vL x), putI M 0 0 s)) (hm : C2 d jm (vR 12 179 :: ax) (putI M 0 0 s) = some (some (vL x), putI (putI (putI (putI M 0 0 s) 179 1 0) 179 0 0) 179 0 s)) : OpL d jx jm ax M :=
  ⟨x, _, _, hx, hm, h.keep (Kp.ofB SameB.rfl.i0.i1.i1.i1) (by simp [up2]) (by simp [up2, KpH])⟩
