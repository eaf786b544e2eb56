/-! an empire in the making -/
/-- the class's empire at e in X, the reference's block b in Y -/
def Mk (X Y : Mem) (e b : Nat) : Prop := Rl X e (blk Y b) ∧ Wf (blk Y b) ∧
  (∀ p : Nat, (p : Int) < blk Y b 0 → X.2.1 ((e + 1) + 9 + 1 * p) 0 = Y.2.1 187 (18 * b + p)) ∧
  (∀ p : Nat, (p : Int) < blk Y b 1 → X.2.1 ((e + 2) + 14 + 1 * p) 0 = Y.2.1 187 (18 * b + 6 + p)) ∧
  (∀ p : Nat, (p : Int) < blk Y b 2 → X.2.1 ((e + 3) + 21 + 1 * p) 0 = Y.2.1 187 (18 * b + 14 + p)) ∧
  X.1 (e + 4) 5 = 0 ∧ X.1 (e + 4) 7 = 0 ∧ blk Y b 73 = 0
section Make
variable (d : Nat)
def emX (X : Mem) (e : Nat) : Mem := putI (putI (putI (putI (putI (putI (putI (putI (putI (putI (putI (putI (putI X e 0 70) e 1 100) e 2 0) e 3 0) e 4 0) e 5 0) e 6 0) e 7 0) e 8 0) e 9 0) (e + 4) 5 0) (e + 4) 6 0) (e + 4) 7 0
theorem c_clear {X : Mem} {e : Nat} : C2 d j_em_clear [vR 1 e] X = some (none, emX X e) := by
  rw [q_em_clear, q_pl_clear, bV_k]
  rfl
def emY (Y : Mem) : Mem := putI (putI (fI Y 184 1380 345 (fun _ => 0)) 184 1383 70) 184 1384 100
theorem m_empt {Y : Mem} : C2 d j_m_empties [vR 12 179, vI 4] Y = some (none, emY Y) := by
  rw [q_m_empties, show w32 (345 * 4) = 1380 from rfl]
  refine ex_loop (P := fun j M' => E2 d r_m_empties 6 [(0, vR 12 179), (2, vI 1380), (3, vI (j : Int))] [] M') (R := fun r => r = some (none, emY Y)) (fun j M' => M' = fI Y 184 1380 j (fun _ => 0)) 345 (fun j M' hj hq => ?_) (fun M' hq => ?_) Y fI_0.symm
  · refine ⟨_, ?_, rfl⟩
    show E2 d r_m_empties 6 _ _ M' = _
    rw [hq, q_m_empties_6, if_pos (by omega), w32s (x := 1380 + (j : Int)) (by omega), if_pos (by omega), w32n (by omega), show (1380 + (j : Int)).toNat = 1380 + j by omega, ← fI_s]
  · show E2 d r_m_empties 6 _ _ M' = _
    rw [hq, q_m_empties_6, if_neg (by omega), if_pos (by decide), if_pos (by decide)]
    rfl
theorem emY_b {Y : Mem} {k : Nat} (hk : k < 345) : blk (emY Y) 4 k = if k = 3 then 70 else if k = 4 then 100 else 0 := by
  show (putI (putI (fI Y 184 1380 345 (fun _ => 0)) 184 1383 70) 184 1384 100).1 184 (345 * 4 + k) = _
  by_cases c4 : k = 4
  · subst c4; rw [if_neg (by decide), if_pos rfl]; exact pI_s
  · rw [pI_nk (by omega), if_neg c4]
    by_cases c3 : k = 3
    · subst c3; rw [if_pos rfl]; exact pI_s
    · rw [pI_nk (by omega), if_neg c3, fI_at (by omega)]
theorem mk_0 {X Y : Mem} {e : Nat} : Mk (emX X e) (emY Y) e 4 := by
  have b0 : blk (emY Y) 4 0 = 0 := by rw [emY_b (by decide)]; rfl
  have b1 : blk (emY Y) 4 1 = 0 := by rw [emY_b (by decide)]; rfl
  have b2 : blk (emY Y) 4 2 = 0 := by rw [emY_b (by decide)]; rfl
  have b3 : blk (emY Y) 4 3 = 70 := by rw [emY_b (by decide)]; rfl
  have b4 : blk (emY Y) 4 4 = 100 := by rw [emY_b (by decide)]; rfl
  have b5 : blk (emY Y) 4 5 = 0 := by rw [emY_b (by decide)]; rfl
  have b6 : blk (emY Y) 4 6 = 0 := by rw [emY_b (by decide)]; rfl
  have b7 : blk (emY Y) 4 7 = 0 := by rw [emY_b (by decide)]; rfl
  have b8 : blk (emY Y) 4 8 = 0 := by rw [emY_b (by decide)]; rfl
  have wc : Wc (blk (emY Y) 4) := by unfold Wc; rw [b0, b1, b2]; decide
  have sw : sWr (blk (emY Y) 4) = 0 := by unfold sWr; rw [b0]; rfl
  have ee : ∀ j, j < 10 → (emX X e).1 e j = (if j = 0 then 70 else if j = 1 then 100 else 0) := fun j hj => by
    unfold emX
    rw [pI_ne (by omega), pI_ne (by omega), pI_ne (by omega)]
    have : j = 0 ∨ j = 1 ∨ j = 2 ∨ j = 3 ∨ j = 4 ∨ j = 5 ∨ j = 6 ∨ j = 7 ∨ j = 8 ∨ j = 9 := by omega
    rcases this with g | g | g | g | g | g | g | g | g | g <;> subst g <;> simp [up2]
  refine ⟨⟨wc, ⟨?_, ?_, ?_, ?_, ?_, ?_, ?_, ?_, ?_, ?_⟩, fun p hp => by omega, fun p hp => by omega, fun p hp => by omega⟩, ⟨wc, by omega, by omega, by omega, by omega, by omega, by omega, fun p hp => by omega, fun p hp => by omega, fun p hp => by omega⟩, fun p hp => by omega, fun p hp => by omega, fun p hp => by omega, ?_, pI_s, ?_⟩
  · rw [ee 0 (by decide), b3]; rfl
  · rw [ee 1 (by decide), b4]; rfl
  · rw [ee 2 (by decide), b5]; rfl
  · rw [ee 3 (by decide), b6]; rfl
  · rw [ee 4 (by decide), b7]; rfl
  · rw [ee 5 (by decide), b8]; rfl
  · rw [ee 6 (by decide), sw]; rfl
  · rw [ee 7 (by decide), b0]; rfl
  · rw [ee 8 (by decide), b1]; rfl
  · rw [ee 9 (by decide), b2]; rfl
  · unfold emX
    rw [pI_nk (by decide), pI_nk (by decide), pI_s]
  · rw [emY_b (by decide)]; rfl
end Make
