section New2
variable (d : Nat) {f : Nat → Int} {n T i : Nat} {X Y : Mem}
theorem RT.y187 {k : Nat} {v : Int} (h : RT X Y f n T i) : RT X (putL Y 187 k v) f n T i := by
  obtain ⟨h1, h2, h3, ⟨g1, g2, g3⟩, ⟨t1, t2, t3, t4, t5, t6⟩⟩ := h
  refine ⟨h1, h2, h3, ⟨g1, g2, g3⟩, ⟨t1, t2, t3, fun c => ⟨(t4 c).1, ?_⟩, t5, t6⟩⟩
  rw [pL_ne (by decide)]; exact (t4 c).2
/-- one too many -/
theorem new_max (h : RT X Y f n T i) (h0 : Y.1 179 12 = 0) {k mx : Nat} (hk : k ≤ 2) (hm : Y.1 184 (1380 + k) = (mx : Int)) : ∃ Y', C2 d j_m_readNew [vR 12 179, vI (k : Int), vI (mx : Int)] Y = some (some (vI 0), Y') ∧ BdO X Y (putI (putI X 3 12 6) 3 13 ((tkA f n i : Nat) : Int)) Y' := by
  refine ⟨_, ?_, bad_put 6 ((tkA f n i : Nat) : Int) (by decide)⟩
  rw [q_m_readNew, w32s (x := 1380 + (k : Int)) (by omega), show (1380 + (k : Int)).toNat = 1380 + k by omega, if_pos (by omega), hm, if_pos rfl, fail_m d h h0, bV_k, if_pos (by rw [pI_nk (by decide), pI_s]; decide)]
/-- a new name: looked at by both -/
theorem new_name (h : RT X Y f n T i) (h0 : Y.1 179 12 = 0) (hM : Mk X Y 39 4) {k m mx : Nat} (hk : k ≤ 2) (hm : Y.1 184 (1380 + k) = (m : Int)) (hx : m < mx) (h4 : stW k + m < 18) : ∃ X1 Y1, C2 d j_rd_advance [vR 8 3] X = some (none, X1) ∧ GdO X Y X1 Y1 f n T (min (i + 1) T) ∧ ((∃ X' Y', C2 d j_er_checkNewName [vR 2 8, vR 8 3, vR 1 39] X1 = some (some (vI 0), X') ∧ C2 d j_m_readNew [vR 12 179, vI (k : Int), vI (mx : Int)] Y = some (some (vI 0), Y') ∧ BdO X1 Y1 X' Y') ∨ (C2 d j_er_checkNewName [vR 2 8, vR 8 3, vR 1 39] X1 = some (some (vI 1), X1) ∧ nmB f n (tkA f n (min (i + 1) T)) = true ∧ ∀ Y3, C2 d j_m_advance [vR 12 179] (putL Y1 187 (72 + stW k + m) (X1.2.1 3 9)) = some (none, Y3) → C2 d j_m_readNew [vR 12 179, vI (k : Int), vI (mx : Int)] Y = some (some (vI (m : Int)), Y3))) := by
  have w3 : (0 : Int) ≤ ((72 + stW k + m : Nat) : Int) ∧ ((72 + stW k + m : Nat) : Int) < 90 := by
    clear hM h
    omega
  have w2 : w32 (w32 (72 + ((stW k : Nat) : Int)) + (m : Int)) = ((72 + stW k + m : Nat) : Int) := by
    clear hM h
    rw [w32s (x := 72 + ((stW k : Nat) : Int)) (by omega), w32s (by omega)]; omega
  have wk : w32 (1380 + (k : Int)) = ((1380 + k : Nat) : Int) := by
    clear hM h
    rw [w32s (by omega)]; omega
  have wb : (0 : Int) ≤ ((1380 + k : Nat) : Int) ∧ ((1380 + k : Nat) : Int) < 1725 := by
    clear hM h
    omega
  have wm : ¬ (m : Int) = (mx : Int) := by
    clear hM h
    omega
  obtain ⟨X1, Y1, a1, a2, ⟨a3, a4, a5, a6⟩, a7⟩ := go d h h0
  have M1 : Mk X1 Y1 39 4 := hM.tok a5 a6.w
  have wc := M1.1.1
  unfold Wc at wc
  obtain ⟨ca, hca⟩ : ∃ c : Nat, blk Y1 4 0 = (c : Int) := ⟨(blk Y1 4 0).toNat, by omega⟩
  obtain ⟨cb, hcb⟩ : ∃ c : Nat, blk Y1 4 1 = (c : Int) := ⟨(blk Y1 4 1).toNat, by omega⟩
  obtain ⟨cc, hcc⟩ : ∃ c : Nat, blk Y1 4 2 = (c : Int) := ⟨(blk Y1 4 2).toNat, by omega⟩
  have n7 := M1.1.2.1.2.2.2.2.2.2.2.1
  have n8 := M1.1.2.1.2.2.2.2.2.2.2.2.1
  have n9 := M1.1.2.1.2.2.2.2.2.2.2.2.2
  have em := q_m_readNew (k : Int) (mx : Int) d Y
  rw [wk, Int.toNat_natCast, if_pos wb, hm, if_neg wm, h0, if_neg (by decide), a2, bV_k, is_name d a3.2.2.2.2, bI_k] at em
  have ex := q_er_checkNewName 39 d X1
  rw [rd_name d a3.2.2.1, bI_k] at ex
  refine ⟨X1, Y1, a1, ⟨a3, a4, a5, a6⟩, ?_⟩
  cases hb : nmB f n (tkA f n (min (i + 1) T))
  · obtain ⟨X', Y', b1, b2, b3⟩ := mis d a3 a4
    have hp := b3.1.pos
    rw [hb, if_pos b01_f, b2, bV_k, if_neg (show ¬ Y'.1 179 12 = 0 from fun q => by rw [q] at hp; exact absurd hp (by decide)), if_pos hp] at em
    rw [hb, if_pos b01_f, b1, bI_k, if_pos (Or.inl rfl)] at ex
    exact Or.inl ⟨X', Y', ex, em, b3⟩
  · have hw := nm_word a3 hb
    rw [hb, if_neg (by decide), if_pos a4, m_taken d M1 hca hcb hcc, bI_k, hw] at em
    rw [hb, if_neg (by decide), c_has d (n7.trans hca) (by omega) (n8.trans hcb) (by omega) (n9.trans hcc) (by omega), bI_k] at ex
    cases ht : tkB X1 39 (X1.2.1 3 9) ca cb cc
    · rw [ht, if_pos b01_f] at ex
      rw [ht, if_pos b01_f, a4, if_neg (by decide), m_stW d hk, bI_k, w2, if_pos w3, Int.toNat_natCast, hw] at em
      refine Or.inr ⟨ex, rfl, fun Y3 h3 => ?_⟩
      rw [em, h3, bV_k]
    · rw [ht, if_neg (by decide), fail_c d a3, bI_k, if_pos rfl] at ex
      rw [ht, if_neg (by decide), fail_m d a3 a4, bV_k, if_pos (by rw [pI_nk (by decide), pI_s]; decide)] at em
      exact Or.inl ⟨_, _, ex, em, bad_put 3 _ (by decide)⟩
end New2
