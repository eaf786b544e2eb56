section New
variable (d : Nat) {f : Nat → Int} {n T i : Nat} {X Y : Mem}
/-- a name that is borne already -/
def tkB (X : Mem) (e : Nat) (w : Int) (a b c : Nat) : Bool := !(decide (fnd (fun p => X.2.1 ((e + 1) + 9 + 1 * p) 0) w a 0 = -1) && (decide (fnd (fun p => X.2.1 ((e + 2) + 14 + 1 * p) 0) w b 0 = -1) && decide (fnd (fun p => X.2.1 ((e + 3) + 21 + 1 * p) 0) w c 0 = -1)))
theorem c_has {e a b c : Nat} (ha : X.1 e 7 = (a : Int)) (h6 : a ≤ 6) (hb : X.1 e 8 = (b : Int)) (h8 : b ≤ 8) (hc : X.1 e 9 = (c : Int)) (h4 : c ≤ 4) (w : Int) : C2 d j_em_hasName [vR 1 e, vL w] X = some (some (vI (b01 (tkB X e w a b c))), X) := by
  unfold tkB
  have key : ∀ j p : Nat, p + j = c → E2 d r_em_hasName 2 [(0, vR 1 e), (1, vL w), (3, vI (p : Int))] [] X = some (some (vI (b01 (!(decide (fnd (fun p => X.2.1 ((e + 1) + 9 + 1 * p) 0) w a 0 = -1) && (decide (fnd (fun p => X.2.1 ((e + 2) + 14 + 1 * p) 0) w b 0 = -1) && decide (fnd (fun p => X.2.1 ((e + 3) + 21 + 1 * p) 0) w j p = -1)))))), X) := by
    intro j
    induction j with
    | zero =>
      intro p hp
      rw [q_em_hasName_2, hc, if_neg (by omega), c_part d ha h6, bI_k, c_hand d hb h8]
      have e0 : fnd (fun p => X.2.1 ((e + 3) + 21 + 1 * p) 0) w 0 p = -1 := rfl
      rw [e0, decide_eq_true rfl, Bool.and_true]
      by_cases c1 : fnd (fun p => X.2.1 ((e + 1) + 9 + 1 * p) 0) w a 0 = -1
      · rw [if_pos c1, decide_eq_true c1, Bool.true_and, bI_k]
        by_cases c2 : fnd (fun p => X.2.1 ((e + 2) + 14 + 1 * p) 0) w b 0 = -1
        · rw [if_pos c2, decide_eq_true c2]; rfl
        · rw [if_neg c2, decide_eq_false c2]; rfl
      · rw [if_neg c1, decide_eq_false c1]; rfl
    | succ j ih =>
      intro p hp
      rw [q_em_hasName_2, hc, if_pos (by omega), if_pos (by omega), Int.toNat_natCast, w32n (by omega), ih (p + 1) (by omega)]
      have es : fnd (fun p => X.2.1 ((e + 3) + 21 + 1 * p) 0) w (j + 1) p = if X.2.1 ((e + 3) + 21 + 1 * p) 0 = w then (p : Int) else fnd (fun p => X.2.1 ((e + 3) + 21 + 1 * p) 0) w j (p + 1) := rfl
      rw [es]
      by_cases c3 : X.2.1 ((e + 3) + 21 + 1 * p) 0 = w
      · rw [if_pos (show ycmp (X.2.1 ((e + 3) + 21 + 1 * p) 0) w = 0 by rw [ycmp_eq]; exact c3), if_pos c3, decide_eq_false (show ¬ (p : Int) = -1 by omega), Bool.and_false, Bool.and_false]; rfl
      · rw [if_neg (show ¬ ycmp (X.2.1 ((e + 3) + 21 + 1 * p) 0) w = 0 by rw [ycmp_eq]; exact c3), if_neg c3]
  rw [q_em_hasName]
  exact key c 0 (by omega)
/-- the reference asks the same -/
theorem m_taken (hM : Mk X Y 39 4) {a b c : Nat} (ha : blk Y 4 0 = (a : Int)) (hb : blk Y 4 1 = (b : Int)) (hc : blk Y 4 2 = (c : Int)) : C2 d j_m_isTaken [vR 12 179] Y = some (some (vI (b01 (tkB X 39 (Y.2.1 179 19) a b c))), Y) := by
  obtain ⟨m1, m2, m3, m4, m5, _⟩ := hM
  have wc := m1.1
  unfold Wc at wc
  have e0 : C2 d j_m_named [vR 12 179, vI 4, vI 0] Y = some (some (vI (fnd (fun p => X.2.1 ((39 + 1) + 9 + 1 * p) 0) (Y.2.1 179 19) a 0)), Y) := by
    have := m_nam d (Y := Y) (b := 4) (k := 0) (m := a) (by decide) (by decide) ha (by show 0 + a ≤ 18; omega)
    rw [fnd_c a 0 (g := fun p => X.2.1 ((39 + 1) + 9 + 1 * p) 0) (g' := fun p => Y.2.1 187 (18 * 4 + stW 0 + p)) (fun q _ h2 => m3 q (by omega))]
    exact this
  have e1 : C2 d j_m_named [vR 12 179, vI 4, vI 1] Y = some (some (vI (fnd (fun p => X.2.1 ((39 + 2) + 14 + 1 * p) 0) (Y.2.1 179 19) b 0)), Y) := by
    have := m_nam d (Y := Y) (b := 4) (k := 1) (m := b) (by decide) (by decide) hb (by show 6 + b ≤ 18; omega)
    rw [fnd_c b 0 (g := fun p => X.2.1 ((39 + 2) + 14 + 1 * p) 0) (g' := fun p => Y.2.1 187 (18 * 4 + stW 1 + p)) (fun q _ h2 => m4 q (by omega))]
    exact this
  have e2 : C2 d j_m_named [vR 12 179, vI 4, vI 2] Y = some (some (vI (fnd (fun p => X.2.1 ((39 + 3) + 21 + 1 * p) 0) (Y.2.1 179 19) c 0)), Y) := by
    have := m_nam d (Y := Y) (b := 4) (k := 2) (m := c) (by decide) (by decide) hc (by show 14 + c ≤ 18; omega)
    rw [fnd_c c 0 (g := fun p => X.2.1 ((39 + 3) + 21 + 1 * p) 0) (g' := fun p => Y.2.1 187 (18 * 4 + stW 2 + p)) (fun q _ h2 => m5 q (by omega))]
    exact this
  unfold tkB
  have neg : ∀ (g : Nat → Int) (w : Int) (j : Nat), (fnd g w j 0 < 0) = (fnd g w j 0 = -1) := fun g w j => by
    have := fnd_b (g := g) (w := w) j 0
    apply propext
    omega
  rw [q_m_isTaken, e0, bI_k, e1, bI_k, e2, bI_k]
  by_cases c1 : fnd (fun p => X.2.1 ((39 + 1) + 9 + 1 * p) 0) (Y.2.1 179 19) a 0 = -1
  · rw [if_pos (by rw [neg]; exact c1), decide_eq_true c1, Bool.true_and]
    by_cases c2 : fnd (fun p => X.2.1 ((39 + 2) + 14 + 1 * p) 0) (Y.2.1 179 19) b 0 = -1
    · rw [if_pos (by rw [neg]; exact c2), decide_eq_true c2, Bool.true_and]
      by_cases c3 : fnd (fun p => X.2.1 ((39 + 3) + 21 + 1 * p) 0) (Y.2.1 179 19) c 0 = -1
      · rw [if_pos (by rw [neg]; exact c3), decide_eq_true c3]; rfl
      · rw [if_neg (by rw [neg]; exact c3), decide_eq_false c3]; rfl
    · rw [if_neg (by rw [neg]; exact c2), decide_eq_false c2]; rfl
  · rw [if_neg (by rw [neg]; exact c1), decide_eq_false c1]; rfl
end New
