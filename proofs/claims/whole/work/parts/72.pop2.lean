/-! how many bits stand in a long: the class's own count -/
def u6 (x : Int) : Nat := (Int64.ofInt x).toBitVec.toNat
def yb (x : Int) (i : Nat) : Bool := (u6 x).testBit i
theorem u6_lt (x : Int) : u6 x < 18446744073709551616 := (Int64.ofInt x).toBitVec.isLt
theorem u6_and (x y : Int) : u6 (yand x y) = u6 x &&& u6 y := by
  unfold u6 yand
  rw [ofL, Int64.toBitVec_and, BitVec.toNat_and]
theorem u6_xor (x y : Int) : u6 (yxor x y) = u6 x ^^^ u6 y := by
  unfold u6 yxor
  rw [ofL, Int64.toBitVec_xor, BitVec.toNat_xor]
theorem u6_add (x y : Int) (h : u6 x + u6 y < 18446744073709551616) : u6 (w64 (x + y)) = u6 x + u6 y := by
  unfold u6 at *
  rw [ofL_add, Int64.toBitVec_add, BitVec.toNat_add]
  exact Nat.mod_eq_of_lt h
theorem u6_sub (x y : Int) (h : u6 y ≤ u6 x) : u6 (w64 (x - y)) = u6 x - u6 y := by
  have hx := u6_lt x
  unfold u6 at *
  rw [ofL_sub, Int64.toBitVec_sub, BitVec.toNat_sub]
  show (18446744073709551616 - _ + _) % 18446744073709551616 = _
  omega
theorem u6_sh (x : Int) (y : Int) (k : Nat) (hk : ((Int32.ofInt y).toInt64.toUInt64 &&& Int64.toUInt64 63).toNat % 64 = k) : u6 (yushr x y) = u6 x / 2 ^ k := by
  unfold u6 yushr
  rw [ofL]
  show ((Int64.ofInt x).toUInt64 >>> ((Int32.ofInt y).toInt64.toUInt64 &&& Int64.toUInt64 63)).toNat = _
  rw [UInt64.toNat_shiftRight, hk, Nat.shiftRight_eq_div_pow]
  rfl
theorem u6_1 (x : Int) : u6 (yushr x 1) = u6 x / 2 := u6_sh x 1 1 (by decide)
theorem u6_2 (x : Int) : u6 (yushr x 2) = u6 x / 4 := u6_sh x 2 2 (by decide)
theorem u6_4 (x : Int) : u6 (yushr x 4) = u6 x / 16 := u6_sh x 4 4 (by decide)
theorem u6_8 (x : Int) : u6 (yushr x 8) = u6 x / 256 := u6_sh x 8 8 (by decide)
theorem u6_16 (x : Int) : u6 (yushr x 16) = u6 x / 65536 := u6_sh x 16 16 (by decide)
theorem u6_32 (x : Int) : u6 (yushr x 32) = u6 x / 4294967296 := u6_sh x 32 32 (by decide)
theorem u6_m55 : u6 6148914691236517205 = mk 85 8 := by decide +kernel
theorem u6_m33 : u6 3689348814741910323 = mk 51 8 := by decide +kernel
theorem u6_m0f : u6 1085102592571150095 = mk 15 8 := by decide +kernel
def gB (p : Int) : Int := w64 (p - yand (yushr p 1) 6148914691236517205)
def gC (b : Int) : Int := w64 (yand b 3689348814741910323 + yand (yushr b 2) 3689348814741910323)
def gD (c : Int) : Int := yand (w64 (c + yushr c 4)) 1085102592571150095
def gE8 (e : Int) : Int := w64 (e + yushr e 8)
def gF8 (e : Int) : Int := w64 (e + yushr e 16)
def gG (e : Int) : Int := w64 (e + yushr e 32)
theorem u6_gB (p : Int) : u6 (gB p) = fB 8 (u6 p) := by
  have e : u6 (yand (yushr p 1) 6148914691236517205) = fA 8 (u6 p) := by rw [u6_and, u6_1, u6_m55]; rfl
  unfold gB fB
  rw [u6_sub _ _ (by rw [e]; exact fA_le), e]
theorem u6_gC (b : Int) : u6 (gC b) = fC 8 (u6 b) ∧ fC 8 (u6 b) ≤ 7378697629483820646 := by
  have e1 : u6 (yand b 3689348814741910323) = u6 b &&& mk 51 8 := by rw [u6_and, u6_m33]
  have e2 : u6 (yand (yushr b 2) 3689348814741910323) = (u6 b / 4) &&& mk 51 8 := by rw [u6_and, u6_2, u6_m33]
  have h1 : u6 b &&& mk 51 8 ≤ mk 51 8 := Nat.and_le_right
  have h2 : (u6 b / 4) &&& mk 51 8 ≤ mk 51 8 := Nat.and_le_right
  have h3 : mk 51 8 = 3689348814741910323 := by decide +kernel
  have h4 : (u6 b &&& mk 51 8) + ((u6 b / 4) &&& mk 51 8) ≤ 7378697629483820646 := by omega
  unfold gC
  rw [u6_add _ _ (by rw [e1, e2]; omega), e1, e2]
  exact ⟨rfl, h4⟩
theorem u6_gD (c : Int) (hc : u6 c ≤ 7378697629483820646) : u6 (gD c) = fD 8 (u6 c) := by
  have e : u6 (yushr c 4) = u6 c / 16 := u6_4 c
  have h : u6 c / 16 ≤ u6 c := Nat.div_le_self _ _
  have h1 : u6 c + u6 c / 16 < 18446744073709551616 := by omega
  unfold gD
  rw [u6_and, u6_m0f, u6_add _ _ (by rw [e]; exact h1), e]
  rfl
theorem low7 (g : Int) : xand (w32 g) 127 = ((u6 g % 128 : Nat) : Int) := by
  unfold xand
  rw [ofI_w]
  have h1 : (Int32.ofInt g &&& Int32.ofInt 127).toBitVec.toNat = (Int32.ofInt g).toBitVec.toNat % 128 := by
    rw [Int32.toBitVec_and, BitVec.toNat_and]
    exact Nat.and_two_pow_sub_one_eq_mod _ 7
  have h2 : (Int32.ofInt g).toBitVec.toNat % 128 = u6 g % 128 := by
    show (BitVec.ofInt 32 g).toNat % 128 = (BitVec.ofInt 64 g).toNat % 128
    rw [BitVec.toNat_ofInt, BitVec.toNat_ofInt]
    show (g % 4294967296).toNat % 128 = (g % 18446744073709551616).toNat % 128
    omega
  have h3 : (Int32.ofInt g &&& Int32.ofInt 127).toInt = ((Int32.ofInt g &&& Int32.ofInt 127).toBitVec.toNat : Int) := by
    show (Int32.ofInt g &&& Int32.ofInt 127).toBitVec.toInt = _
    apply BitVec.toInt_eq_toNat_of_lt
    rw [h1]
    have : (Int32.ofInt g).toBitVec.toNat % 128 < 128 := Nat.mod_lt _ (by decide)
    show 2 * _ < 4294967296
    omega
  rw [h3, h1, h2]
theorem bitL (x : Int) (d : Nat) (M : Mem) : C2 d j_long_bitCount [vL x] M = some (some (vI ((ct (yb x) 64 : Nat) : Int)), M) := by
  have e0 : C2 d j_long_bitCount [vL x] M = some (some (vI (xand (w32 (gG (gF8 (gE8 (gD (gC (gB x))))))) 127)), M) := q_long_bitCount x d M
  rw [e0, low7]
  have hC := u6_gC (gB x)
  have hB := u6_gB x
  rw [hB] at hC
  have hD : u6 (gD (gC (gB x))) = fD 8 (fC 8 (fB 8 (u6 x))) := by rw [u6_gD _ (by rw [hC.1]; exact hC.2), hC.1]
  obtain ⟨d0, d1, d2, d3, d4, d5, d6, d7, ⟨q0, q1, q2, q3, q4, q5, q6, q7⟩, hd, hc⟩ := pop_nat (u6 x) (u6_lt x)
  rw [hd] at hD
  obtain ⟨D, eD⟩ : ∃ D, u6 (gD (gC (gB x))) = D := ⟨_, rfl⟩
  have bD : D < 600000000000000000 := by
    rw [← eD, hD]
    clear hD hd hc hC hB e0 eD
    omega
  have hE : u6 (gE8 (gD (gC (gB x)))) = D + D / 256 := by
    unfold gE8
    rw [u6_add _ _ (by rw [u6_8, eD]; clear hD hd hc hC hB e0 eD; omega), u6_8, eD]
  have hF : u6 (gF8 (gE8 (gD (gC (gB x))))) = (D + D / 256) + (D + D / 256) / 65536 := by
    unfold gF8
    rw [u6_add _ _ (by rw [u6_16, hE]; clear hE hD hd hc hC hB e0 eD; omega), u6_16, hE]
  have hG : u6 (gG (gF8 (gE8 (gD (gC (gB x)))))) = fE D := by
    unfold gG fE
    rw [u6_add _ _ (by rw [u6_32, hF]; clear hF hE hD hd hc hC hB e0 eD; omega), u6_32, hF]
  rw [hG, ← eD, hD, sum8 d0 d1 d2 d3 d4 d5 d6 d7 q0 q1 q2 q3 q4 q5 q6 q7]
  have hc2 : ct (yb x) 64 = d0 + (d1 + (d2 + (d3 + (d4 + (d5 + (d6 + d7)))))) := hc
  rw [hc2]
