/-! tokens -/
def isBl (c : Int) : Bool := decide (c = 10) || decide (c = 32)
def isLe (c : Int) : Bool := decide (97 ≤ c) && decide (c ≤ 122)
def isDi (c : Int) : Bool := decide (48 ≤ c) && decide (c ≤ 57)
def isSg (c : Int) : Bool := decide (c = 59) || (decide (c = 60) || (decide (c = 62) || decide (c = 61)))
def rn (q : Int → Bool) (f : Nat → Int) (n : Nat) : Nat → Nat → Nat
  | 0, p => p
  | j + 1, p => bif decide (p < n) && q (f p) then rn q f n j (p + 1) else p
/-- where a run ends -/
def en (q : Int → Bool) (f : Nat → Int) (n p : Nat) : Nat := rn q f n (n - p) p
theorem en_go {q : Int → Bool} {f : Nat → Int} {n p : Nat} (hp : p < n) (hq : q (f p) = true) : en q f n p = en q f n (p + 1) := by
  unfold en
  rw [show n - p = (n - (p + 1)) + 1 by omega]
  show (bif decide (p < n) && q (f p) then rn q f n (n - (p + 1)) (p + 1) else p) = _
  rw [decide_eq_true hp, hq]; rfl
theorem en_st {q : Int → Bool} {f : Nat → Int} {n p : Nat} (h : ¬ p < n ∨ q (f p) = false) : en q f n p = p := by
  unfold en
  cases n - p with
  | zero => rfl
  | succ j =>
    show (bif decide (p < n) && q (f p) then rn q f n j (p + 1) else p) = p
    rcases h with h | h
    · rw [decide_eq_false h]; rfl
    · rw [h, Bool.and_false]; rfl
theorem en_le {q : Int → Bool} {f : Nat → Int} {n : Nat} : ∀ k p, n - p = k → p ≤ en q f n p ∧ (p ≤ n → en q f n p ≤ n) := by
  intro k
  induction k with
  | zero => intro p hp; rw [en_st (Or.inl (by omega))]; omega
  | succ k ih =>
    intro p hp
    cases hq : q (f p)
    · rw [en_st (Or.inr hq)]; omega
    · rw [en_go (by omega) hq]
      have := ih (p + 1) (by omega)
      omega
theorem en_ge {q : Int → Bool} {f : Nat → Int} {n p : Nat} : p ≤ en q f n p := (en_le _ p rfl).1
theorem en_n {q : Int → Bool} {f : Nat → Int} {n p : Nat} (h : p ≤ n) : en q f n p ≤ n := (en_le _ p rfl).2 h
/-- the letters of a word, the digits of a number -/
def cd (f : Nat → Int) (a : Nat) : Nat → Int
  | 0 => 0
  | l + 1 => cd f a l * 32 + (f (a + l) - 96)
def nm (f : Nat → Int) (a : Nat) : Nat → Int
  | 0 => 0
  | l + 1 => 10 * nm f a l + f (a + l) - 48
def tK (f : Nat → Int) (n a : Nat) : Int := if a < n then (bif isLe (f a) then 1 else bif isDi (f a) then (if en isDi f n a - a ≤ 4 then 2 else 4) else bif isSg (f a) then 3 else 4) else 0
def tB (f : Nat → Int) (n a : Nat) : Nat := if a < n then (bif isLe (f a) then en isLe f n a else bif isDi (f a) then en isDi f n a else a + 1) else a
def tkA (f : Nat → Int) (n : Nat) : Nat → Nat
  | 0 => en isBl f n 0
  | i + 1 => en isBl f n (tB f n (tkA f n i))
def Vs (f : Nat → Int) (n a : Nat) (v : Int) : Prop := (tK f n a = 1 → v = if en isLe f n a - a ≤ 8 then cd f a (en isLe f n a - a) else 0) ∧ (tK f n a = 2 → v = nm f a (en isDi f n a - a)) ∧ (tK f n a = 3 → v = f a)
theorem isLe_t {c : Int} (h : isLe c = true) : 97 ≤ c ∧ c ≤ 122 := by
  unfold isLe at h
  rw [Bool.and_eq_true, decide_eq_true_eq, decide_eq_true_eq] at h; exact h
theorem isDi_t {c : Int} (h : isDi c = true) : 48 ≤ c ∧ c ≤ 57 := by
  unfold isDi at h
  rw [Bool.and_eq_true, decide_eq_true_eq, decide_eq_true_eq] at h; exact h
theorem isLe_f {c : Int} (h : isLe c = false) : c < 97 ∨ 122 < c := by
  unfold isLe at h
  rw [Bool.and_eq_false_iff, decide_eq_false_iff_not, decide_eq_false_iff_not] at h; omega
theorem isDi_f {c : Int} (h : isDi c = false) : c < 48 ∨ 57 < c := by
  unfold isDi at h
  rw [Bool.and_eq_false_iff, decide_eq_false_iff_not, decide_eq_false_iff_not] at h; omega
section Tok
variable {M : Mem} (d : Nat)
theorem rd_isLe (c : Int) : C2 d j_rd_isLetter [vI c] M = some (some (vI (b01 (isLe c))), M) := by
  rw [q_rd_isLetter]
  cases h : isLe c
  · rcases isLe_f h with g | g
    · rw [if_pos g]; rfl
    · rw [if_neg (by omega), if_pos g]; rfl
  · have := isLe_t h
    rw [if_neg (by omega), if_neg (by omega)]; rfl
theorem rd_isDi (c : Int) : C2 d j_rd_isDigit [vI c] M = some (some (vI (b01 (isDi c))), M) := by
  rw [q_rd_isDigit]
  cases h : isDi c
  · rcases isDi_f h with g | g
    · rw [if_pos g]; rfl
    · rw [if_neg (by omega), if_pos g]; rfl
  · have := isDi_t h
    rw [if_neg (by omega), if_neg (by omega)]; rfl
theorem rd_isBl (c : Int) : C2 d j_rd_isBlank [vI c] M = some (some (vI (b01 (isBl c))), M) := by
  rw [q_rd_isBlank]
  unfold isBl
  by_cases h : c = 10
  · rw [if_pos h, decide_eq_true h]; rfl
  · rw [if_neg h, decide_eq_false h]
    by_cases g : c = 32
    · rw [if_pos g, decide_eq_true g]; rfl
    · rw [if_neg g, decide_eq_false g]; rfl
theorem rd_isSg (c : Int) : C2 d j_rd_isSign [vI c] M = some (some (vI (b01 (isSg c))), M) := by
  rw [q_rd_isSign]
  unfold isSg
  by_cases h : c = 59
  · rw [if_pos h, decide_eq_true h]; rfl
  · rw [if_neg h, decide_eq_false h]
    by_cases g : c = 60
    · rw [if_pos g, decide_eq_true g]; rfl
    · rw [if_neg g, decide_eq_false g]
      by_cases g2 : c = 62
      · rw [if_pos g2, decide_eq_true g2]; rfl
      · rw [if_neg g2, decide_eq_false g2]
        by_cases g3 : c = 61
        · rw [if_pos g3, decide_eq_true g3]; rfl
        · rw [if_neg g3, decide_eq_false g3]; rfl
theorem cd_b {f : Nat → Int} {a : Nat} : ∀ l : Nat, (∀ i, i < l → isLe (f (a + i)) = true) → 0 ≤ cd f a l ∧ cd f a l < 32 ^ l
  | 0, _ => ⟨Int.le_refl _, (by decide : (0 : Int) < 32 ^ 0)⟩
  | l + 1, h => by
    have g := cd_b l (fun i hi => h i (by omega))
    have k := isLe_t (h l (by omega))
    show 0 ≤ cd f a l * 32 + (f (a + l) - 96) ∧ cd f a l * 32 + (f (a + l) - 96) < 32 ^ (l + 1)
    rw [Int.pow_succ]
    omega
theorem yor_add {m k : Nat} (hm : m < 1125899906842624) (hk : k < 32) : yor (yshl (m : Int) 5) (k : Int) = ((m * 32 + k : Nat) : Int) := by
  have e5 : ((Int32.ofInt 5).toInt64 &&& 63 : Int64) = 5 := by decide
  have e1 : yshl (m : Int) 5 = (Int64.ofInt (m : Int) <<< (5 : Int64)).toInt := by unfold yshl; rw [e5]
  unfold yor
  rw [e1, Int64.ofInt_toInt]
  have h1 : (Int64.ofInt (m : Int) <<< (5 : Int64) ||| Int64.ofInt (k : Int)).toBitVec.toNat = m * 32 + k := by
    rw [Int64.toBitVec_or, BitVec.toNat_or]
    have a1 : (Int64.ofInt (m : Int) <<< (5 : Int64)).toBitVec.toNat = m <<< 5 := by
      show (BitVec.ofInt 64 (m : Int) <<< (5 : Nat)).toNat = _
      rw [BitVec.toNat_shiftLeft, BitVec.ofInt_natCast, BitVec.toNat_ofNat, Nat.mod_eq_of_lt (a := m) (by omega), Nat.mod_eq_of_lt]
      rw [Nat.shiftLeft_eq]; omega
    have a2 : (Int64.ofInt (k : Int)).toBitVec.toNat = k := by
      show (BitVec.ofInt 64 (k : Int)).toNat = k
      rw [BitVec.ofInt_natCast, BitVec.toNat_ofNat, Nat.mod_eq_of_lt (by omega)]
    rw [a1, a2, ← Nat.shiftLeft_add_eq_or_of_lt (by omega), Nat.shiftLeft_eq]
  show (Int64.ofInt (m : Int) <<< (5 : Int64) ||| Int64.ofInt (k : Int)).toBitVec.toInt = _
  rw [BitVec.toInt_eq_toNat_of_lt (by omega), h1]
end Tok
