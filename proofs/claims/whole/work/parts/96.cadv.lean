section Cadv
variable (d : Nat) {f : Nat → Int} {n T : Nat}
theorem put_put {M : Mem} {a k : Nat} {x y : Int} : putI (putI M a k x) a k y = putI M a k y := by
  refine Prod.ext (funext fun b => funext fun j => ?_) rfl
  show up2 (up2 M.1 a k x) a k y b j = up2 M.1 a k y b j
  unfold up2
  by_cases c : b = a ∧ j = k
  · rw [if_pos c, if_pos c]
  · rw [if_neg c, if_neg c, if_neg c]
/-- the keyword of a word -/
def kwL (w : Int) : Nat → Int
  | 0 => -1
  | j + 1 => if keyC.getD j 0 = w then (j : Int) else kwL w j
def kwI (w : Int) : Int := if w = 0 then -1 else kwL w 28
theorem adv48 {N : Mem} (hk : ∀ i, i < 28 → N.2.1 4 i = keyC.getD i 0) : E2 d r_rd_advance 48 [(0, vR 8 3), (1, vI 0)] [] (putI N 3 10 (-1)) = some (none, putI N 3 10 (kwI (N.2.1 3 9))) := by
  by_cases hw : N.2.1 3 9 = 0
  · have : kwI (N.2.1 3 9) = -1 := by rw [hw]; rfl
    rw [q_rd_advance_48, if_pos (by decide), pI_L, hw, if_pos (by decide), ← hw, this]
  · have hc : ∀ x y : Int, (ycmp x y = 0) = (x = y) := fun x y => ycmp_eq
    have e : kwI (N.2.1 3 9) = kwL (N.2.1 3 9) 28 := if_neg hw
    rw [e]
    refine ex_loop (P := fun j M' => E2 d r_rd_advance 48 [(0, vR 8 3), (1, vI (j : Int))] [] M') (R := fun r => r = some (none, putI N 3 10 (kwL (N.2.1 3 9) 28))) (fun j M' => M' = putI N 3 10 (kwL (N.2.1 3 9) j)) 28 (fun j M' hj hq => ?_) (fun M' hq => ?_) (putI N 3 10 (-1)) rfl
    · refine ⟨_, ?_, rfl⟩
      show E2 d r_rd_advance 48 _ _ M' = _
      rw [hq, q_rd_advance_48, if_pos (by omega), pI_L, if_neg (show ¬ ycmp (N.2.1 3 9) 0 = 0 by rw [hc]; exact hw), if_pos (by omega), Int.toNat_natCast, hk j hj, w32n (by omega)]
      show _ = E2 d r_rd_advance 48 [(0, vR 8 3), (1, vI ((j + 1 : Nat) : Int))] [] (putI N 3 10 (if keyC.getD j 0 = N.2.1 3 9 then (j : Int) else kwL (N.2.1 3 9) j))
      by_cases c : keyC.getD j 0 = N.2.1 3 9
      · rw [if_pos (show ycmp (keyC.getD j 0) (N.2.1 3 9) = 0 by rw [hc]; exact c), if_pos c, put_put]
      · rw [if_neg (show ¬ ycmp (keyC.getD j 0) (N.2.1 3 9) = 0 by rw [hc]; exact c), if_neg c]
    · show E2 d r_rd_advance 48 _ _ M' = _
      rw [hq, q_rd_advance_48, if_neg (by omega)]
/-- the class's reader at a token -/
def adM (M : Mem) (i : Nat) : Mem := putI (putI (putL (putI (putI M 3 5 (i : Int)) 3 7 (M.1 5 i)) 3 9 (if M.1 5 i = 1 then M.2.1 7 i else 0)) 3 8 (if M.1 5 i = 1 then 0 else w32 (M.2.1 7 i))) 3 10 (kwI (if M.1 5 i = 1 then M.2.1 7 i else 0))
theorem rd_adv {M : Mem} (hk : KyR M) (c : Int) (hc : -1 ≤ c ∧ c ≤ 900) (hT : T ≤ 900) (h4 : M.1 3 4 = (T : Int)) (h5 : M.1 3 5 = c) : C2 d j_rd_advance [vR 8 3] M = some (none, adM M (min (c + 1) (T : Int)).toNat) := by
  have e1 : w32 (M.1 3 5 + 1) = c + 1 := by rw [h5, w32s (by omega)]
  obtain ⟨i, hi⟩ : ∃ i : Nat, min (c + 1) (T : Int) = (i : Int) := ⟨(min (c + 1) (T : Int)).toNat, by omega⟩
  have a53 : ∀ (N : Mem) (k : Nat) (v : Int), (putI N 3 k v).1 5 = N.1 5 := fun N k v => pI_ne (by decide)
  have a37 : ∀ (N : Mem) (v : Int), (putI N 3 7 v).1 3 5 = N.1 3 5 := fun N v => pI_nk (by decide)
  have l7 : ∀ (N : Mem) (k : Nat) (v : Int), (putL N 3 k v).2.1 7 = N.2.1 7 := fun N k v => pL_ne (by decide)
  have hb : (0 : Int) ≤ (i : Int) ∧ (i : Int) < 901 := by omega
  have hx := q_rd_advance d M
  rw [e1, h4, mn_I, bI_k, hi] at hx
  simp only [up2_same, up2_ne (show (5 : Nat) ≠ 3 by decide), up2_ne (show (7 : Nat) ≠ 3 by decide), up2_nk (show (5 : Nat) ≠ 7 by decide), Int.toNat_natCast, if_pos hb] at hx
  rw [hx, hi, Int.toNat_natCast]
  unfold adM
  by_cases c1 : M.1 5 i = 1
  · rw [if_pos c1, if_pos c1, if_pos c1, if_pos c1]
    exact (adv48 d (N := putI (putL (putI (putI M 3 5 (i : Int)) 3 7 (M.1 5 i)) 3 9 (M.2.1 7 i)) 3 8 0) (fun j hj => by
      show (putL (putI (putI M 3 5 (i : Int)) 3 7 (M.1 5 i)) 3 9 (M.2.1 7 i)).2.1 4 j = _
      rw [pL_ne (by decide)]
      exact hk j hj)).trans (by
      show some (none, putI _ 3 10 (kwI ((putL (putI (putI M 3 5 (i : Int)) 3 7 (M.1 5 i)) 3 9 (M.2.1 7 i)).2.1 3 9))) = _
      rw [pL_s])
  · rw [if_neg c1, if_neg c1, if_neg c1, if_neg c1]
    exact (adv48 d (N := putI (putL (putI (putI M 3 5 (i : Int)) 3 7 (M.1 5 i)) 3 9 0) 3 8 (w32 (M.2.1 7 i))) (fun j hj => by
      show (putL (putI (putI M 3 5 (i : Int)) 3 7 (M.1 5 i)) 3 9 0).2.1 4 j = _
      rw [pL_ne (by decide)]
      exact hk j hj)).trans (by
      show some (none, putI _ 3 10 (kwI ((putL (putI (putI M 3 5 (i : Int)) 3 7 (M.1 5 i)) 3 9 0).2.1 3 9))) = _
      rw [pL_s])
end Cadv
