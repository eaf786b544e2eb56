section Thing
variable (d : Nat) {f : Nat → Int} {n T i : Nat} {X Y : Mem}
theorem any_sign (c : Int) : ∃ b, C2 d j_m_isSign [vR 12 179, vI c] Y = some (some (vI (b01 b)), Y) := by
  rw [q_m_isSign]
  by_cases h1 : Y.1 179 14 = 3
  · rw [if_pos h1]
    by_cases h2 : Y.1 179 17 = c
    · rw [if_pos h2]; exact ⟨true, rfl⟩
    · rw [if_neg h2]; exact ⟨false, rfl⟩
  · rw [if_neg h1]; exact ⟨false, rfl⟩
theorem ok_once {V : Nat → Int} : (∀ v : Int, 10 ≤ v → v ≤ 99 → OkAt V (3 + 0) v) ∧ (∀ v : Int, 0 ≤ v → v ≤ 999 → OkAt V (3 + 1) v) ∧ (∀ v : Int, 0 ≤ v → v ≤ 9999 → OkAt V (3 + 2) v) := by
  unfold OkAt
  refine ⟨fun v h1 h2 => ?_, fun v h1 h2 => ?_, fun v h1 h2 => ?_⟩
  · refine ⟨by omega, fun _ => ⟨h1, h2⟩, ?_⟩
    refine ⟨?_, ?_, ?_, ?_, ?_, ?_, ?_, ?_, ?_, ?_, ?_, ?_, ?_, ?_, ?_⟩ <;> intros <;> omega
  · refine ⟨by omega, fun h => absurd h (by decide), fun _ => ⟨h1, h2⟩, ?_⟩
    refine ⟨?_, ?_, ?_, ?_, ?_, ?_, ?_, ?_, ?_, ?_, ?_, ?_, ?_, ?_⟩ <;> intros <;> omega
  · refine ⟨by omega, fun h => absurd h (by decide), fun h => absurd h (by decide), fun _ => ⟨h1, h2⟩, ?_⟩
    refine ⟨?_, ?_, ?_, ?_, ?_, ?_, ?_, ?_, ?_, ?_, ?_, ?_, ?_⟩ <;> intros <;> omega
/-- one thing -/
theorem p_thing (h : StE X Y f n T i) (hz : Zr Y) : ∃ X' Y' b, C2 d j_er_parseThing [vR 2 8, vR 8 3, vR 1 39] X = some (some (vI (b01 b)), X') ∧ C2 d j_m_readOne [vR 12 179] Y = some (none, Y') ∧ ThL d X Y X' Y' f n T i b := by
  have k10 : X.1 3 10 = kwI (wdF f n (tkA f n i)) := h.1.2.2.1.2.2.2.1
  have ex := q_er_parseThing 39 d X
  have em := q_m_readOne d Y
  have hS := h.1.2.2.2.2
  rw [k10] at ex
  rw [is_life d hS, bI_k] at em
  have hk := kw_rng (w := wdF f n (tkA f n i))
  generalize hkk : kwI (wdF f n (tkA f n i)) = k at *
  by_cases c0 : k = 0
  · obtain ⟨X', Y', b, a1, a2, a3⟩ := p_once d h (k := 0) (by decide) (hkk.trans c0) (lo := 10) (hi := 99) ok_once.1
    rw [if_pos c0, a1, bI_k, if_pos (b01_or _)] at ex
    have a2' : C2 d j_m_readOnce [vR 12 179, vI 0, vI 10, vI 99] Y = some (none, Y') := a2
    rw [decide_eq_true c0, if_neg (by decide), a2', bV_k] at em
    exact ⟨X', Y', b, ex, em, a3.l d⟩
  rw [if_neg c0] at ex
  rw [decide_eq_false c0, if_pos b01_f, is_border d hS, bI_k, hkk] at em
  by_cases c1 : k = 1
  · obtain ⟨X', Y', b, a1, a2, a3⟩ := p_once d h (k := 1) (by decide) (hkk.trans c1) (lo := 0) (hi := 999) ok_once.2.1
    rw [if_pos c1, a1, bI_k, if_pos (b01_or _)] at ex
    have a2' : C2 d j_m_readOnce [vR 12 179, vI 1, vI 0, vI 999] Y = some (none, Y') := a2
    rw [decide_eq_true c1, if_neg (by decide), a2', bV_k] at em
    exact ⟨X', Y', b, ex, em, a3.l d⟩
  rw [if_neg c1] at ex
  rw [decide_eq_false c1, if_pos b01_f, is_test d hS, bI_k, hkk] at em
  by_cases c2 : k = 2
  · obtain ⟨X', Y', b, a1, a2, a3⟩ := p_once d h (k := 2) (by decide) (hkk.trans c2) (lo := 0) (hi := 9999) ok_once.2.2
    rw [if_pos c2, a1, bI_k, if_pos (b01_or _)] at ex
    have a2' : C2 d j_m_readOnce [vR 12 179, vI 2, vI 0, vI 9999] Y = some (none, Y') := a2
    rw [if_pos (show teK k = 2 by rw [c2]; decide), a2', bV_k] at em
    exact ⟨X', Y', b, ex, em, a3.l d⟩
  rw [if_neg c2] at ex
  have tk : ¬ teK k = 2 := by
    unfold teK
    by_cases e1 : k = 23
    · rw [if_pos e1]; decide
    · rw [if_neg e1]
      by_cases e2 : k = 24
      · rw [if_pos e2]; decide
      · rw [if_neg e2, if_neg c2]; decide
  rw [if_neg tk, is_part d hS, bI_k, hkk] at em
  by_cases c3 : k = 3
  · obtain ⟨X', Y', b, a1, a2, a3⟩ := p_part d h hz (hkk.trans c3)
    rw [if_pos c3, a1, bI_k, if_pos (b01_or _)] at ex
    rw [decide_eq_true c3, if_neg (by decide), a2, bV_k] at em
    exact ⟨X', Y', b, ex, em, a3.l d⟩
  rw [if_neg c3] at ex
  rw [decide_eq_false c3, if_pos b01_f, is_hand d hS, bI_k, hkk] at em
  by_cases c7 : k = 7
  · obtain ⟨X', Y', b, a1, a2, a3⟩ := p_hand d h hz (hkk.trans c7)
    rw [if_neg (by omega), if_neg (by omega), if_neg (by omega), if_pos c7, a1, bI_k, if_pos (b01_or _)] at ex
    rw [decide_eq_true c7, if_neg (by decide), a2, bV_k] at em
    exact ⟨X', Y', b, ex, em, a3⟩
  rw [decide_eq_false c7, if_pos b01_f, is_spring d hS, bI_k, hkk] at em
  by_cases c11 : k = 11
  · obtain ⟨X', Y', b, a1, a2, a3⟩ := p_spring d h (hkk.trans c11)
    rw [if_neg (by omega), if_neg (by omega), if_neg (by omega), if_neg c7, if_neg (by omega), if_neg (by omega), if_neg (by omega), if_pos c11, a1, bI_k, if_pos (b01_or _)] at ex
    rw [decide_eq_true c11, if_neg (by decide), a2, bV_k] at em
    exact ⟨X', Y', b, ex, em, a3.l d⟩
  rw [decide_eq_false c11, if_pos b01_f] at em
  obtain ⟨X', Y', a1, a2, a3⟩ := mis d h.1 h.2.1
  have em2 : (bI (C2 d j_rd_misplaced [vR 8 3] X) fun x M => if x = 0 ∨ x = 1 then some (some (vI x), M) else none) = some (some (vI 0), X') := by
    rw [a1, bI_k, if_pos (Or.inl rfl)]
  rw [em2, if_neg c7, if_neg c11] at ex
  simp only [ite_self] at ex
  rw [a2, bV_k] at em
  exact ⟨X', Y', false, ex, em, a3.2.1.e, fw_n a3.2.2, Or.inr (Or.inl ⟨rfl, a3.1⟩)⟩
/-- a thing and its sign -/
theorem p_one (h : StE X Y f n T i) (hz : Zr Y) (K K' : Mem → Option Res) : ∃ X' Y' b, (bI (C2 d j_er_parseThing [vR 2 8, vR 8 3, vR 1 39] X) fun x4 M3 => if x4 = 0 then (some (some (vI 0), M3)) else (bI (C2 d j_rd_takeSign [vR 8 3, vI 59] M3) fun x6 M5 => if x6 = 0 then (some (some (vI 0), M5)) else K M5)) = (if b = true then K X' else some (some (vI 0), X')) ∧ (bV (C2 d j_m_readOne [vR 12 179] Y) fun M4 => bI (C2 d j_m_isSign [vR 12 179, vI 59] M4) fun x6 M5 => bV (C2 d j_m_must [vR 12 179, vI x6] M5) fun M7 => K' M7) = K' Y' ∧ FE X X' ∧ FN Y Y' ∧ ((b = true ∧ ∃ i', i < i' ∧ StE X' Y' f n T i') ∨ (b = false ∧ Bad X' Y')) := by
  obtain ⟨X1, Y1, b, a1, a2, a3, a4, a5⟩ := p_thing d h hz
  rw [a1, bI_k, a2, bV_k]
  rcases a5 with ⟨rfl, j, hj, ⟨s1, s2, s3, s4⟩⟩ | ⟨rfl, hB⟩ | ⟨rfl, X0, j, l1, l2, l3, l4⟩
  · obtain ⟨X2, Y2, g, t1, t2, t3⟩ := t_sign d s1 s2 59
    rw [m_sign d s1, bI_k] at t2
    rw [if_neg (by decide), t1, bI_k, m_sign d s1, bI_k, t2, bV_k]
    rcases t3 with ⟨rfl, ⟨g1, g2, g3, g4⟩, g5⟩ | ⟨rfl, g1⟩
    · refine ⟨X2, Y2, true, ?_, rfl, a3.tr g3.e, a4.tr (fw_n g4.w), Or.inl ⟨rfl, min (j + 1) T, ?_, g1, g2, s3.tok g3 g4.w, ?_⟩⟩
      · rw [if_neg (by decide), if_pos rfl]
      · have := s1.2.1
        omega
      · rw [(g3 8 (by decide)).1, g4.2.1 25 (by decide)]; exact s4
    · refine ⟨X2, Y2, false, ?_, rfl, a3.tr g1.2.1.e, a4.tr (fw_n g1.2.2), Or.inr ⟨rfl, g1.1⟩⟩
      rw [if_pos b01_f] <;> rfl
  · obtain ⟨g, hg⟩ := any_sign (Y := Y1) d 59
    rw [if_pos b01_f, hg, bI_k, f_must d hB.pos, bV_k]
    exact ⟨X1, Y1, false, rfl, rfl, a3, a4, Or.inr ⟨rfl, hB⟩⟩
  · obtain ⟨X2, Y2, m1, m2, m3⟩ := must_f d l1 l2
    rw [l4] at m1
    injection m1 with m1
    injection m1 with _ m1
    subst m1
    have m2' : C2 d j_m_must [vR 12 179, vI (b01 false)] Y1 = some (none, Y2) := m2
    rw [if_pos b01_f, m_sign d l1, bI_k, l3, m2', bV_k]
    exact ⟨X1, Y2, false, rfl, rfl, a3, a4.tr (fw_n m3.2.2), Or.inr ⟨rfl, m3.1⟩⟩
/-- all things -/
theorem e_loop : ∀ (m i p : Nat) (X Y : Mem), T - i = m → p ≤ i → StE X Y f n T i → Zr Y → ∃ X' Y' b, E2 d r_er_parse 7 [(0, vR 2 8), (1, vR 8 3), (2, vR 1 39), (3, vI (p : Int))] [] X = some (some (vI (b01 b)), X') ∧ E2 d r_m_empire 19 [(0, vR 12 179)] [] Y = E2 d r_m_empire 19 [(0, vR 12 179)] [] Y' ∧ FE X X' ∧ FN Y Y' ∧ ((b = true ∧ ∃ i', StE X' Y' f n T i' ∧ tK f n (tkA f n i') = 0) ∨ (b = false ∧ Bad X' Y')) := by
  intro m
  induction m using Nat.strongRecOn with
  | _ m ih =>
    intro i p X Y hm hp h hz
    have k7 : X.1 3 7 = tK f n (tkA f n i) := h.1.2.2.1.2.1
    have k6 : X.1 3 6 = (n : Int) := h.1.1.2.2.2.2.1
    have hT := h.1.1.2.2.2.2.2.2.1
    have hn := h.1.1.2.2.2.2.2.1
    have hi := h.1.2.1
    have k14 : Y.1 179 14 = tK f n (tkA f n i) := h.1.2.2.2.2.1
    have ex := q_er_parse_7 39 (p : Int) d X
    have em := q_m_empire_19 d Y
    have u1 : ∀ _ : Unit, ¬ (n : Int) < (p : Int) := by intro _; omega
    have u2 : ∀ _ : Unit, w32 ((p : Int) + 1) = ((p + 1 : Nat) : Int) := by intro _; rw [w32s (by omega)]; omega
    rw [k6, if_neg (u1 ()), q_rd_atEnd, k7] at ex
    by_cases c : tK f n (tkA f n i) = 0
    · rw [if_pos c, bI_k, if_neg (by decide)] at ex
      exact ⟨X, Y, true, ex, rfl, FE.rfl, FN.rfl, Or.inl ⟨rfl, i, h, c⟩⟩
    · rw [if_neg c, bI_k, if_pos rfl] at ex
      rw [if_pos h.2.1, k14, if_neg c] at em
      obtain ⟨X1, Y1, b, a1, a2, a3, a4, a5⟩ := p_one d h hz (fun M5 => E2 d r_er_parse 7 [(0, vR 2 8), (1, vR 8 3), (2, vR 1 39), (3, vI (w32 ((p : Int) + 1)))] [] M5) (fun M7 => E2 d r_m_empire 19 [(0, vR 12 179)] [] M7)
      rw [a1] at ex
      rw [a2] at em
      rcases a5 with ⟨rfl, j, hj, hs⟩ | ⟨rfl, hB⟩
      · have hj2 := hs.1.2.1
        obtain ⟨X2, Y2, b, g1, g2, g3, g4, g5⟩ := ih (T - j) (by omega) j (p + 1) X1 Y1 rfl (by omega) hs (hz.fn a4)
        refine ⟨X2, Y2, b, ?_, em.trans g2, a3.tr g3, a4.tr g4, g5⟩
        rw [ex, if_pos rfl, (u2 ())]; exact g1
      · refine ⟨X1, Y1, false, ?_, em, a3, a4, Or.inr ⟨rfl, hB⟩⟩
        rw [ex] <;> rfl
end Thing
