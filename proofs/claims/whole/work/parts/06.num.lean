/-! whole numbers and those of 32 and 64 bits -/
def rI (x : Int) : Prop := -2147483648 ≤ x ∧ x < 2147483648
def rL (x : Int) : Prop := -9223372036854775808 ≤ x ∧ x < 9223372036854775808
theorem w32_bmod (x : Int) : x.bmod (2 ^ 32) = w32 x := by
  unfold w32 Int.bmod
  simp only [Int.reducePow, Nat.reducePow]
  split <;> omega
theorem w64_bmod (x : Int) : x.bmod (2 ^ 64) = w64 x := by
  unfold w64 Int.bmod
  simp only [Int.reducePow, Nat.reducePow]
  split <;> omega
theorem rI_w32 (x : Int) : rI (w32 x) := by unfold rI w32; omega
theorem rL_w64 (x : Int) : rL (w64 x) := by unfold rL w64; omega
theorem w32_of {x : Int} (h : rI x) : w32 x = x := by unfold rI at h; unfold w32; omega
theorem w64_of {x : Int} (h : rL x) : w64 x = x := by unfold rL at h; unfold w64; omega
theorem rL_of_rI {x : Int} (h : rI x) : rL x := by unfold rI at h; unfold rL; omega
theorem toI (x : Int) : (Int32.ofInt x).toInt = w32 x := by rw [Int32.toInt_ofInt]; exact w32_bmod x
theorem toL (x : Int) : (Int64.ofInt x).toInt = w64 x := by rw [Int64.toInt_ofInt]; exact w64_bmod x
theorem toI' {x : Int} (h : rI x) : (Int32.ofInt x).toInt = x := by rw [toI, w32_of h]
theorem toL' {x : Int} (h : rL x) : (Int64.ofInt x).toInt = x := by rw [toL, w64_of h]
theorem rI_toInt (x : Int32) : rI x.toInt := by
  have h1 := Int32.le_toInt x
  have h2 := Int32.toInt_lt x
  unfold rI; constructor <;> simpa using (by assumption)
theorem rL_toInt (x : Int64) : rL x.toInt := by
  have h1 := Int64.le_toInt x
  have h2 := Int64.toInt_lt x
  unfold rL; constructor <;> simpa using (by assumption)
theorem ofI (x : Int32) : Int32.ofInt x.toInt = x := Int32.ofInt_toInt x
theorem ofL (x : Int64) : Int64.ofInt x.toInt = x := Int64.ofInt_toInt x
theorem eI {x y : Int32} (h : x.toInt = y.toInt) : x = y := Int32.toInt_inj.mp h
theorem eL {x y : Int64} (h : x.toInt = y.toInt) : x = y := Int64.toInt_inj.mp h
theorem ofI_w (x : Int) : Int32.ofInt (w32 x) = Int32.ofInt x := by
  apply eI
  rw [toI, toI, w32_of (rI_w32 x)]
theorem ofL_w (x : Int) : Int64.ofInt (w64 x) = Int64.ofInt x := by
  apply eL
  rw [toL, toL, w64_of (rL_w64 x)]
theorem ofI_add (x y : Int) : Int32.ofInt (w32 (x + y)) = Int32.ofInt x + Int32.ofInt y := by rw [ofI_w, Int32.ofInt_add]
theorem ofI_sub (x y : Int) : Int32.ofInt (w32 (x - y)) = Int32.ofInt x - Int32.ofInt y := by rw [ofI_w, Int32.ofInt_sub]
theorem ofI_mul (x y : Int) : Int32.ofInt (w32 (x * y)) = Int32.ofInt x * Int32.ofInt y := by rw [ofI_w, Int32.ofInt_mul]
theorem ofL_add (x y : Int) : Int64.ofInt (w64 (x + y)) = Int64.ofInt x + Int64.ofInt y := by rw [ofL_w, Int64.ofInt_add]
theorem ofL_sub (x y : Int) : Int64.ofInt (w64 (x - y)) = Int64.ofInt x - Int64.ofInt y := by rw [ofL_w, Int64.ofInt_sub]
theorem ofL_mul (x y : Int) : Int64.ofInt (w64 (x * y)) = Int64.ofInt x * Int64.ofInt y := by rw [ofL_w, Int64.ofInt_mul]
theorem ofL_neg (x : Int) : Int64.ofInt (w64 (-x)) = -Int64.ofInt x := by rw [ofL_w, Int64.ofInt_neg]
theorem ofI_inj {x y : Int} (hx : rI x) (hy : rI y) : Int32.ofInt x = Int32.ofInt y ↔ x = y := by
  constructor
  · intro h
    rw [← toI' hx, ← toI' hy, h]
  · rintro rfl; rfl
theorem ofL_inj {x y : Int} (hx : rL x) (hy : rL y) : Int64.ofInt x = Int64.ofInt y ↔ x = y := by
  constructor
  · intro h
    rw [← toL' hx, ← toL' hy, h]
  · rintro rfl; rfl
theorem ofI_lt {x y : Int} (hx : rI x) (hy : rI y) : Int32.ofInt x < Int32.ofInt y ↔ x < y := by rw [Int32.lt_iff_toInt_lt, toI' hx, toI' hy]
theorem ofI_le {x y : Int} (hx : rI x) (hy : rI y) : Int32.ofInt x ≤ Int32.ofInt y ↔ x ≤ y := by rw [Int32.le_iff_toInt_le, toI' hx, toI' hy]
theorem ofL_lt {x y : Int} (hx : rL x) (hy : rL y) : Int64.ofInt x < Int64.ofInt y ↔ x < y := by rw [Int64.lt_iff_toInt_lt, toL' hx, toL' hy]
theorem rI_0 : rI 0 := by unfold rI; omega
theorem rL_0 : rL 0 := by unfold rL; omega
theorem ofI_0 : Int32.ofInt 0 = 0 := by decide
theorem ofL_0 : Int64.ofInt 0 = 0 := by decide
theorem i2l_of {x : Int} (h : rI x) : (Int32.ofInt x).toInt64 = Int64.ofInt x := by
  apply eL
  rw [Int32.toInt_toInt64, toI' h, toL' (rL_of_rI h)]
theorem l2i_of {x : Int} (h : rL x) : (Int64.ofInt x).toInt32 = Int32.ofInt (w32 x) := by
  apply eI
  rw [Int64.toInt_toInt32, toL' h, toI, w32_of (rI_w32 x)]
  exact w32_bmod x
theorem i2b_of {x : Int} (h : rI x) : (Int32.ofInt x).toInt8.toInt32 = Int32.ofInt (x8 x) := by
  apply eI
  rw [Int8.toInt_toInt32, Int32.toInt_toInt8, toI' h]
  have h2 : rI (x8 x) := by unfold rI x8; omega
  rw [toI' h2]
  unfold x8 Int.bmod
  simp only [Int.reducePow, Nat.reducePow]
  split <;> omega
theorem i2s_of {x : Int} (h : rI x) : (Int32.ofInt x).toInt16.toInt32 = Int32.ofInt (x16 x) := by
  apply eI
  rw [Int16.toInt_toInt32, Int32.toInt_toInt16, toI' h]
  have h2 : rI (x16 x) := by unfold rI x16; omega
  rw [toI' h2]
  unfold x16 Int.bmod
  simp only [Int.reducePow, Nat.reducePow]
  split <;> omega
theorem clampI {x : Int} (h : rI x) : (Int32.ofInt x).toNatClampNeg = x.toNat := by
  show (Int32.ofInt x).toInt.toNat = x.toNat
  rw [toI' h]
theorem inI {x : Int} {n : Nat} (h : rI x) (h2 : 0 ≤ x ∧ x < n) : vp_in (Int32.ofInt x) n := by
  unfold vp_in
  rw [clampI h]
  rintro (q | q)
  · rw [show (0 : Int32) = Int32.ofInt 0 from rfl, ofI_lt h rI_0] at q; omega
  · omega
theorem lcmp_of {x y : Int} (hx : rL x) (hy : rL y) : lg_cmp (Int64.ofInt x) (Int64.ofInt y) = Int32.ofInt (ycmp x y) := by
  unfold lg_cmp ycmp
  by_cases h1 : y < x
  · rw [if_pos h1, if_pos ((ofL_lt hy hx).mpr h1)]; rfl
  · rw [if_neg h1, if_neg (fun q => h1 ((ofL_lt hy hx).mp q))]
    by_cases h2 : x < y
    · rw [if_pos h2]
      first
        | (rw [if_pos ((ofL_lt hx hy).mpr h2)]; rfl)
        | (have h3 : ¬ Int64.ofInt x = Int64.ofInt y := fun q => by have := (ofL_inj hx hy).mp q; omega
           rw [if_neg h3]; rfl)
    · rw [if_neg h2]
      have h3 : x = y := by omega
      subst h3
      first
        | (rw [if_neg (fun q => h2 ((ofL_lt hx hx).mp q))]; rfl)
        | (rw [if_pos rfl]; rfl)
theorem rI_cmp (x y : Int) : rI (ycmp x y) := by
  unfold ycmp rI
  (repeat' split) <;> omega
