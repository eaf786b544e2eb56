section Once2
variable (d : Nat) {f : Nat → Int} {n T i : Nat} {X Y : Mem}
/-- at a word the text hasn't ended -/
theorem kw_lt (h : RT X Y f n T i) (hk : ¬ kwI (wdF f n (tkA f n i)) = -1) : i < T := by
  have hi := h.2.1
  by_cases c : i < T
  · exact c
  · exfalso
    have : i = T := by omega
    subst this
    apply hk
    rw [h.1.2.2.1]
    unfold wdF
    rw [if_neg (by rw [tK_n]; decide)]
    rfl
/-- what may be told once -/
theorem p_once (h : StE X Y f n T i) {k : Nat} (hk : k < 3) (hw : kwI (wdF f n (tkA f n i)) = (k : Int)) {lo hi : Int} (ho : ∀ v, lo ≤ v → v ≤ hi → OkAt (blk Y 4) (3 + k) v) : ∃ X' Y' b, C2 d j_er_parseOnce [vR 2 8, vR 8 3, vR 1 39, vI lo, vI hi] X = some (some (vI (b01 b)), X') ∧ C2 d j_m_readOnce [vR 12 179, vI (k : Int), vI lo, vI hi] Y = some (none, Y') ∧ ThO X Y X' Y' f n T i b := by
  obtain ⟨hR, h0, hM, hT⟩ := h
  have kk : X.1 3 10 = (k : Int) := hR.2.2.1.2.2.2.1.trans hw
  have hlt : i < T := kw_lt hR (by omega)
  have ex := q_er_parseOnce 39 lo hi d X
  have em := q_m_readOnce (k : Int) lo hi d Y
  rw [kk, hT] at ex
  rw [q_m_has] at em
  by_cases c : xand (xshr (Y.1 179 25) (k : Int)) 1 = 1
  · rw [if_pos c, fail_c d hR, bI_k, if_pos (Or.inl rfl)] at ex
    rw [if_pos c, bI_k, if_neg (by decide), fail_m d hR h0, bV_k, if_pos (by rw [pI_nk (by decide), pI_s]; decide)] at em
    have bo := bad_put (X := X) (Y := Y) 5 ((tkA f n i : Nat) : Int) (by decide)
    exact ⟨_, _, false, ex, em, bo.2.1.e, fw_n bo.2.2, Or.inr ⟨rfl, bo.1⟩⟩
  · rw [if_neg c, q_rd_takeWordAndNumber] at ex
    rw [if_neg c, bI_k, if_pos rfl, if_neg (by omega)] at em
    have R1 : RT (putI X 8 0 (xor32 (Y.1 179 25) (xshl 1 (k : Int)))) (putI Y 179 25 (xor32 (Y.1 179 25) (xshl 1 (k : Int)))) f n T i := (hR.y25).x fun a ha => ⟨pI_ne (by omega), rfl⟩
    have h1 : (putI Y 179 25 (xor32 (Y.1 179 25) (xshl 1 (k : Int)))).1 179 12 = 0 := by rw [pI_nk (by decide)]; exact h0
    have FE1 : FE X (putI X 8 0 (xor32 (Y.1 179 25) (xshl 1 (k : Int)))) := FE.p (by decide)
    have FN1 : FN Y (putI Y 179 25 (xor32 (Y.1 179 25) (xshl 1 (k : Int)))) := FN.t
    have M1 : Mk (putI X 8 0 (xor32 (Y.1 179 25) (xshl 1 (k : Int)))) (putI Y 179 25 (xor32 (Y.1 179 25) (xshl 1 (k : Int)))) 39 4 := hM.keep (fun a g1 g2 => ⟨pI_ne (by omega), rfl⟩) (pI_ne (by decide)) rfl
    have b8 : (putI X 8 0 (xor32 (Y.1 179 25) (xshl 1 (k : Int)))).1 8 0 = (putI Y 179 25 (xor32 (Y.1 179 25) (xshl 1 (k : Int)))).1 179 25 := by rw [pI_s, pI_s]
    have bY : blk (putI Y 179 25 (xor32 (Y.1 179 25) (xshl 1 (k : Int)))) 4 = blk Y 4 := by
      unfold blk
      rw [pI_ne (by decide)]
    generalize (putI X 8 0 (xor32 (Y.1 179 25) (xshl 1 (k : Int)))) = X1 at *
    generalize (putI Y 179 25 (xor32 (Y.1 179 25) (xshl 1 (k : Int)))) = Y1 at *
    have kk1 : X1.1 3 10 = (k : Int) := R1.2.2.1.2.2.2.1.trans hw
    obtain ⟨X2, Y2, g1, g2, ⟨g3, g4, g5, g6⟩, g7⟩ := go d R1 h1
    rw [q_rd_takeWord, kk1, if_pos rfl, g1, bV_k, bI_k, if_neg (by decide)] at ex
    rw [g2, bV_k] at em
    have hi2 : min (i + 1) T = i + 1 := by omega
    rw [hi2] at g3
    obtain ⟨X3, Y3, b, v, t1, t2, t3⟩ := t_num d g3 g4 lo hi
    rw [t1, bI_k] at ex
    rw [t2, bI_k, w32s (x := 1383 + (k : Int)) (by omega), if_pos (by omega), show (1383 + (k : Int)).toNat = 1383 + k by omega] at em
    rcases t3 with ⟨rfl, ⟨r1, r2, r3, r4⟩, r5, r6, r7⟩ | ⟨rfl, rfl, r1, r2, r3⟩
    · rw [if_neg (by decide), bI_k, if_neg (by decide), r5] at ex
      have ex2 : C2 d j_er_parseOnce [vR 2 8, vR 8 3, vR 1 39, vI lo, vI hi] X = some (some (vI 1), putI X3 39 k v) := by
        rw [ex]
        have : k = 0 ∨ k = 1 ∨ k = 2 := by omega
        rcases this with q | q | q <;> subst q <;> rfl
      have M3 : Mk X3 Y3 39 4 := M1.tok (g5.tr r3) (g6.w.tr r4.w)
      have bY3 : blk Y3 4 = blk Y 4 := by
        rw [← bY]
        unfold blk
        rw [(r4.1 184 (by decide)).1, (g6.1 184 (by decide)).1]
      refine ⟨_, _, true, ex2, em, ((FE1.tr g5.e).tr r3.e).tr (FE.p (Or.inr (Or.inr (by decide)))), ((FN1.tr (fw_n g6.w)).tr (fw_n r4.w)).tr (FN.p (by omega)), Or.inl ⟨rfl, min (i + 1 + 1) T, by omega, ?_, ?_, M3.fld hk (by rw [bY3]; exact ho v r6 r7), ?_⟩⟩
      · refine RT.x ?_ (fun a ha => ⟨pI_ne (by omega), rfl⟩)
        obtain ⟨q1, q2, q3, q4, q5⟩ := r1
        exact ⟨q1, q2, q3, ⟨fun k hk => by rw [pI_ne (by decide)]; exact q4.1 k hk, by rw [pI_ne (by decide)]; exact q4.2.1, q4.2.2⟩, by
          unfold TS
          rw [pI_ne (by decide)]
          exact q5⟩
      · rw [pI_ne (by decide)]; exact r2
      · rw [pI_ne (by decide), pI_ne (by decide), (r3 8 (by decide)).1, (g5 8 (by decide)).1, r4.2.1 25 (by decide), g6.2.1 25 (by decide)]
        exact b8
    · rw [if_pos b01_f, bI_k, if_pos rfl] at ex
      refine ⟨X3, _, false, ex, em, (FE1.tr g5.e).tr r2.e, ((FN1.tr (fw_n g6.w)).tr (fw_n r3)).tr (FN.p (by omega)), Or.inr ⟨rfl, ?_⟩⟩
      obtain ⟨p, q, p0, p1, p2, p3, p4⟩ := r1
      exact ⟨p, q, p0, p1, p2, by rw [pI_ne (by decide)]; exact p3, by rw [pI_ne (by decide)]; exact p4⟩
end Once2
