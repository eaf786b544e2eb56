/-! bits of a whole number of 32 bits; sets as masks -/
def bt (x : Int) (i : Nat) : Bool := (Int32.ofInt x).toBitVec.getLsbD i
theorem rI_or (x y : Int) : rI (xor32 x y) := rI_toInt _
theorem rI_and (x y : Int) : rI (xand x y) := rI_toInt _
theorem rI_xx (x y : Int) : rI (xxor x y) := rI_toInt _
theorem rI_shl (x y : Int) : rI (xshl x y) := rI_toInt _
theorem rI_shr (x y : Int) : rI (xshr x y) := rI_toInt _
theorem bt_ext {x y : Int} (hx : rI x) (hy : rI y) (h : ∀ i, i < 32 → bt x i = bt y i) : x = y :=
  (ofI_inj hx hy).mp (Int32.toBitVec_inj.mp (BitVec.eq_of_getLsbD_eq (fun i hi => h i hi)))
theorem bt_or (x y : Int) (i : Nat) : bt (xor32 x y) i = (bt x i || bt y i) := by
  unfold bt xor32; rw [ofI, Int32.toBitVec_or, BitVec.getLsbD_or]
theorem bt_and (x y : Int) (i : Nat) : bt (xand x y) i = (bt x i && bt y i) := by
  unfold bt xand; rw [ofI, Int32.toBitVec_and, BitVec.getLsbD_and]
theorem bt_xx (x y : Int) (i : Nat) : bt (xxor x y) i = (bt x i ^^ bt y i) := by
  unfold bt xxor; rw [ofI, Int32.toBitVec_xor, BitVec.getLsbD_xor]
theorem bt_0 (i : Nat) : bt 0 i = false := BitVec.getLsbD_zero
theorem bt_m1 : ∀ i, i < 32 → bt (-1) i = true := by decide +kernel
theorem bt_not {x : Int} {i : Nat} (hi : i < 32) : bt (xxor x (-1)) i = !bt x i := by rw [bt_xx, bt_m1 i hi]; cases bt x i <;> rfl
theorem bt_1 : ∀ i, i < 32 → bt 1 i = decide (i = 0) := by decide +kernel
theorem bt_one : ∀ k : Nat, k < 32 → ∀ i : Nat, i < 32 → bt (xshl 1 (k : Int)) i = decide (i = k) := by decide +kernel
theorem sh_l : ∀ n : Nat, n < 32 → ((Int32.ofInt (n : Int) &&& 31).toBitVec.smod 32).toNat = n := by decide +kernel
theorem bt_shr {x : Int} {n i : Nat} (hn : n < 32) (hi : i < 32) : bt (xshr x (n : Int)) i = if n + i < 32 then bt x (n + i) else bt x 31 := by
  unfold bt xshr
  rw [ofI, Int32.toBitVec_shiftRight]
  show ((Int32.ofInt x).toBitVec.sshiftRight ((Int32.ofInt (n : Int) &&& 31).toBitVec.smod 32).toNat).getLsbD i = _
  rw [sh_l n hn, BitVec.getLsbD_sshiftRight, BitVec.msb_eq_getLsbD_last]
  simp [hi]
theorem and1 {x : Int} : xand x 1 = if bt x 0 then 1 else 0 := by
  apply bt_ext (rI_and _ _) (by split <;> (unfold rI; omega))
  intro i hi
  rw [bt_and, bt_1 i hi]
  by_cases h : i = 0
  · subst h
    cases hb : bt x 0
    · rfl
    · rfl
  · rw [decide_eq_false h, Bool.and_false]
    split
    · rw [bt_1 i hi, decide_eq_false h]
    · rw [bt_0]
theorem bit_is {x : Int} {k : Nat} (hk : k < 32) : xand (xshr x (k : Int)) 1 = if bt x k then 1 else 0 := by
  rw [and1, bt_shr hk (by omega)]
  simp [hk]
theorem bit_1 {x : Int} {k : Nat} (hk : k < 32) : (xand (xshr x (k : Int)) 1 = 1) = (bt x k = true) := by
  rw [bit_is hk]
  cases bt x k <;> simp
theorem bit_0 {x : Int} {k : Nat} (hk : k < 32) : (xand (xshr x (k : Int)) 1 = 0) = (bt x k = false) := by
  rw [bit_is hk]
  cases bt x k <;> simp
theorem or_0 {x : Int} (h : rI x) : xor32 x 0 = x := bt_ext (rI_or _ _) h fun i _ => by rw [bt_or, bt_0, Bool.or_false]
theorem and_m1 {x : Int} (h : rI x) : xand x (xxor 0 (-1)) = x := bt_ext (rI_and _ _) h fun i hi => by rw [bt_and, bt_not hi, bt_0]; simp
theorem w32n {i : Nat} (h : i < 1000000000) : w32 ((i : Int) + 1) = ((i + 1 : Nat) : Int) := by rw [w32s (by omega)]; omega
/-- a union, a sum of those of which it is so -/
def unB (p : Nat → Bool) (f : Nat → Int) (n : Nat) : Int := itr (fun h s => bif p h then xor32 s (f h) else s) 0 n
def smB (p : Nat → Bool) (f : Nat → Int) (n : Nat) : Int := itr (fun h s => bif p h then w32 (s + f h) else s) 0 n
theorem unB_s {p : Nat → Bool} {f : Nat → Int} {n : Nat} : unB p f (n + 1) = bif p n then xor32 (unB p f n) (f n) else unB p f n := rfl
theorem smB_s {p : Nat → Bool} {f : Nat → Int} {n : Nat} : smB p f (n + 1) = bif p n then w32 (smB p f n + f n) else smB p f n := rfl
theorem rI_un {p : Nat → Bool} {f : Nat → Int} {n : Nat} : rI (unB p f n) := by
  cases n with
  | zero => exact rI_0
  | succ n =>
    induction n with
    | zero =>
      rw [unB_s]
      cases p 0
      · exact rI_0
      · exact rI_or _ _
    | succ n ih =>
      rw [unB_s]
      cases p (n + 1)
      · exact ih
      · exact rI_or _ _
theorem rI_sm {p : Nat → Bool} {f : Nat → Int} {n : Nat} : rI (smB p f n) := by
  induction n with
  | zero => exact rI_0
  | succ n ih =>
    rw [smB_s]
    cases p n
    · exact ih
    · exact rI_w32 _
theorem un_loop {P : Nat → Int → Option Res} {r : Int → Option Res} {p : Nat → Bool} {f : Nat → Int} {n : Nat} {u : Int} (hu : unB p f n = u) (step : ∀ i s, i < n → rI s → P i s = P (i + 1) (bif p i then xor32 s (f i) else s)) (fin : ∀ s, rI s → P n s = r s) : P 0 0 = r u :=
  hu ▸ up_loop (P := fun i => P i (unB p f i)) (fun i hi => step i _ hi rI_un) (fin _ rI_un) 0 (Nat.zero_le _)
theorem sm_loop {P : Nat → Int → Option Res} {r : Int → Option Res} {p : Nat → Bool} {f : Nat → Int} {n : Nat} {u : Int} (hu : smB p f n = u) (step : ∀ i s, i < n → rI s → P i s = P (i + 1) (bif p i then w32 (s + f i) else s)) (fin : ∀ s, rI s → P n s = r s) : P 0 0 = r u :=
  hu ▸ up_loop (P := fun i => P i (smB p f i)) (fun i hi => step i _ hi rI_sm) (fin _ rI_sm) 0 (Nat.zero_le _)
theorem un_congr {p q : Nat → Bool} {f g : Nat → Int} {n : Nat} (h : ∀ i, i < n → p i = q i) (hf : ∀ i, i < n → q i = true → f i = g i) : unB p f n = unB q g n := by
  unfold unB
  apply itr_congr
  intro i y hi
  rw [h i hi]
  cases hq : q i
  · rw [cond_false, cond_false]
  · rw [cond_true, cond_true, hf i hi hq]
theorem sm_congr {p q : Nat → Bool} {f g : Nat → Int} {n : Nat} (h : ∀ i, i < n → p i = q i) (hf : ∀ i, i < n → q i = true → f i = g i) : smB p f n = smB q g n := by
  unfold smB
  apply itr_congr
  intro i y hi
  rw [h i hi]
  cases hq : q i
  · rw [cond_false, cond_false]
  · rw [cond_true, cond_true, hf i hi hq]
/-- the bits of a union -/
theorem bt_un {p : Nat → Bool} {f : Nat → Int} {n k : Nat} : bt (unB p f n) k = true ↔ ∃ i, i < n ∧ p i = true ∧ bt (f i) k = true := by
  induction n with
  | zero =>
    constructor
    · intro h
      have h2 : bt 0 k = true := h
      rw [bt_0] at h2; cases h2
    · rintro ⟨i, hi, _⟩; omega
  | succ n ih =>
    rw [unB_s]
    cases hp : p n with
    | false =>
      show bt (unB p f n) k = true ↔ _
      rw [ih]
      constructor
      · rintro ⟨i, hi, h⟩; exact ⟨i, by omega, h⟩
      · rintro ⟨i, hi, h⟩
        by_cases e : i = n
        · subst e; rw [hp] at h; cases h.1
        · exact ⟨i, by omega, h⟩
    | true =>
      show bt (xor32 (unB p f n) (f n)) k = true ↔ _
      rw [bt_or, Bool.or_eq_true, ih]
      constructor
      · rintro (⟨i, hi, h⟩ | h)
        · exact ⟨i, by omega, h⟩
        · exact ⟨n, by omega, hp, h⟩
      · rintro ⟨i, hi, h⟩
        by_cases e : i = n
        · subst e; exact Or.inr h.2
        · exact Or.inl ⟨i, by omega, h⟩
theorem bt_msk {p : Nat → Bool} {n k : Nat} (hn : n ≤ 32) (hk : k < 32) : bt (unB p (fun h => xshl 1 (h : Int)) n) k = (decide (k < n) && p k) := by
  cases h : bt (unB p (fun h => xshl 1 (h : Int)) n) k with
  | true =>
    obtain ⟨i, hi, hp, hb⟩ := bt_un.mp h
    rw [bt_one i (by omega) k hk] at hb
    have e : k = i := of_decide_eq_true hb
    subst e
    rw [hp, decide_eq_true hi]; rfl
  | false =>
    cases h2 : (decide (k < n) && p k) with
    | false => rfl
    | true =>
      rw [Bool.and_eq_true] at h2
      have : bt (unB p (fun h => xshl 1 (h : Int)) n) k = true := bt_un.mpr ⟨k, of_decide_eq_true h2.1, h2.2, by rw [bt_one k hk k hk]; simp⟩
      rw [this] at h; cases h
/-- a mask below 2^n: by its bits -/
theorem small_of_bt {x : Int} (n : Nat) (hn : n < 31) (hx : rI x) (h : ∀ i, i < 32 → n ≤ i → bt x i = false) : 0 ≤ x ∧ x < 2 ^ n := by
  have e : (Int32.ofInt x).toBitVec.toInt = x := toI' hx
  have hm : (Int32.ofInt x).toBitVec.msb = false := by
    rw [BitVec.msb_eq_getLsbD_last]; exact h 31 (by omega) (by omega)
  have e2 : ((Int32.ofInt x).toBitVec.toNat : Int) = x := by
    rw [← BitVec.toInt_eq_toNat_of_msb hm]; exact e
  have hl : (Int32.ofInt x).toBitVec.toNat < 2 ^ n := by
    apply Nat.lt_pow_two_of_testBit
    intro i hi
    by_cases h2 : i < 32
    · exact h i h2 hi
    · exact BitVec.getLsbD_of_ge _ _ (by omega)
  constructor
  · omega
  · rw [← e2]
    exact_mod_cast hl
theorem bt_of_small {x : Int} {n : Nat} (hn : n < 31) (h0 : 0 ≤ x) (h1 : x < 2 ^ n) {i : Nat} (hi : n ≤ i) : bt x i = false := by
  obtain ⟨k, rfl⟩ : ∃ k : Nat, x = (k : Int) := ⟨x.toNat, by omega⟩
  have hk : k < 2 ^ n := by exact_mod_cast h1
  show (BitVec.ofInt 32 (k : Int)).getLsbD i = false
  rw [BitVec.ofInt_natCast, BitVec.getLsbD_ofNat]
  have : k.testBit i = false := Nat.testBit_lt_two_pow (Nat.lt_of_lt_of_le hk (Nat.pow_le_pow_right (by omega) hi))
  rw [this]; simp
