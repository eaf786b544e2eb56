/-! how many bits stand in a long -/
def ct (q : Nat → Bool) : Nat → Nat
  | 0 => 0
  | n + 1 => ct q n + (bif q n then 1 else 0)
theorem ct_c {p q : Nat → Bool} : ∀ n, (∀ i, i < n → p i = q i) → ct p n = ct q n
  | 0, _ => rfl
  | n + 1, h => by
    show ct p n + _ = ct q n + _
    rw [ct_c n (fun i hi => h i (by omega)), h n (by omega)]
theorem ct_split (q : Nat → Bool) (m : Nat) : ∀ n, ct q (m + n) = ct q m + ct (fun k => q (m + k)) n
  | 0 => rfl
  | n + 1 => by
    show ct q (m + n) + (bif q (m + n) then 1 else 0) = ct q m + (ct (fun k => q (m + k)) n + (bif q (m + n) then 1 else 0))
    rw [ct_split q m n, Nat.add_assoc]
theorem ct_le (q : Nat → Bool) : ∀ n, ct q n ≤ n
  | 0 => Nat.le_refl _
  | n + 1 => by
    show ct q n + _ ≤ n + 1
    have := ct_le q n
    cases q n
    · rw [cond_false]; omega
    · rw [cond_true]; omega
/-- masks of n bytes -/
def mk (c : Nat) : Nat → Nat
  | 0 => 0
  | n + 1 => c + 256 * mk c n
theorem and_by {u0 m0 u m : Nat} (hu : u0 < 256) (hm : m0 < 256) : (u0 + 256 * u) &&& (m0 + 256 * m) = (u0 &&& m0) + 256 * (u &&& m) := by
  have h1 : ((u0 + 256 * u) &&& (m0 + 256 * m)) % 2 ^ 8 = ((u0 + 256 * u) % 2 ^ 8) &&& ((m0 + 256 * m) % 2 ^ 8) := Nat.and_mod_two_pow
  have h2 : ((u0 + 256 * u) &&& (m0 + 256 * m)) / 2 ^ 8 = ((u0 + 256 * u) / 2 ^ 8) &&& ((m0 + 256 * m) / 2 ^ 8) := Nat.and_div_two_pow
  rw [show (2 : Nat) ^ 8 = 256 from rfl] at h1 h2
  rw [show (u0 + 256 * u) % 256 = u0 by omega, show (m0 + 256 * m) % 256 = m0 by omega] at h1
  rw [show (u0 + 256 * u) / 256 = u by omega, show (m0 + 256 * m) / 256 = m by omega] at h2
  omega
def fA (n x : Nat) : Nat := (x / 2) &&& mk 85 n
def fB (n x : Nat) : Nat := x - fA n x
def fC (n y : Nat) : Nat := (y &&& mk 51 n) + ((y / 4) &&& mk 51 n)
def fD (n z : Nat) : Nat := (z + z / 16) &&& mk 15 n
def bA (b : Nat) : Nat := (b / 2) &&& 85
def bC (y : Nat) : Nat := (y &&& 51) + ((y / 4) &&& 51)
def p8 (b : Nat) : Nat := ct (fun i => b.testBit i) 8
theorem t55 : (List.range 256).all (fun b => (List.range 2).all fun c => decide ((b / 2 + 128 * c) &&& 85 = bA b ∧ bA b ≤ b)) = true := by decide +kernel
theorem t33 : (List.range 256).all (fun b => (List.range 4).all fun c => decide ((b / 4 + 64 * c) &&& 51 = (b / 4) &&& 51 ∧ bC b ≤ 102 ∧ bC b % 16 ≤ 6)) = true := by decide +kernel
theorem t0f : (List.range 256).all (fun b => (List.range 7).all fun k => decide ((bC (b - bA b) + bC (b - bA b) / 16 + 16 * k) &&& 15 = p8 b)) = true := by decide +kernel
theorem u55 {b c : Nat} (hb : b < 256) (hc : c < 2) : (b / 2 + 128 * c) &&& 85 = bA b ∧ bA b ≤ b := of_decide_eq_true (List.all_eq_true.mp (List.all_eq_true.mp t55 b (List.mem_range.mpr hb)) c (List.mem_range.mpr hc))
theorem u33 {b c : Nat} (hb : b < 256) (hc : c < 4) : (b / 4 + 64 * c) &&& 51 = (b / 4) &&& 51 ∧ bC b ≤ 102 ∧ bC b % 16 ≤ 6 := of_decide_eq_true (List.all_eq_true.mp (List.all_eq_true.mp t33 b (List.mem_range.mpr hb)) c (List.mem_range.mpr hc))
theorem u0f {b k : Nat} (hb : b < 256) (hk : k < 7) : (bC (b - bA b) + bC (b - bA b) / 16 + 16 * k) &&& 15 = p8 b := of_decide_eq_true (List.all_eq_true.mp (List.all_eq_true.mp t0f b (List.mem_range.mpr hb)) k (List.mem_range.mpr hk))
theorem fA_s {n b x : Nat} (hb : b < 256) : fA (n + 1) (b + 256 * x) = bA b + 256 * fA n x := by
  unfold fA
  rw [show (b + 256 * x) / 2 = (b / 2 + 128 * (x % 2)) + 256 * (x / 2) by omega]
  show _ &&& (85 + 256 * mk 85 n) = _
  rw [and_by (by omega) (by omega), (u55 hb (show x % 2 < 2 by omega)).1]
theorem fA_le {n x : Nat} : fA n x ≤ x := Nat.le_trans Nat.and_le_left (Nat.div_le_self _ _)
theorem fB_s {n b x : Nat} (hb : b < 256) : fB (n + 1) (b + 256 * x) = (b - bA b) + 256 * fB n x := by
  have h1 := (u55 hb (show 0 < 2 by omega)).2
  have h2 := fA_le (n := n) (x := x)
  unfold fB
  rw [fA_s hb]; omega
theorem fC_s {n y x : Nat} (hy : y < 256) : fC (n + 1) (y + 256 * x) = bC y + 256 * fC n x := by
  unfold fC
  rw [show (y + 256 * x) / 4 = (y / 4 + 64 * (x % 4)) + 256 * (x / 4) by omega]
  show (_ &&& (51 + 256 * mk 51 n)) + (_ &&& (51 + 256 * mk 51 n)) = _
  rw [and_by hy (by omega), and_by (by omega) (by omega), (u33 hy (show x % 4 < 4 by omega)).1]
  show _ = (y &&& 51) + ((y / 4) &&& 51) + _
  omega
theorem fC_16 : ∀ n x, fC n x % 16 ≤ 6
  | 0, x => by
    show ((x &&& 0) + ((x / 4) &&& 0)) % 16 ≤ 6
    rw [Nat.and_zero, Nat.and_zero]; omega
  | n + 1, x => by
    have e : x = x % 256 + 256 * (x / 256) := by omega
    rw [e, fC_s (by omega)]
    have := (u33 (show x % 256 < 256 by omega) (show 0 < 4 by omega)).2.2
    omega
theorem fD_s {n b x : Nat} (hb : b < 256) : fD (n + 1) (fC (n + 1) (fB (n + 1) (b + 256 * x))) = p8 b + 256 * fD n (fC n (fB n x)) := by
  rw [fB_s hb, fC_s (by omega)]
  have h1 := (u33 (show b - bA b < 256 by omega) (show 0 < 4 by omega)).2
  have h2 := fC_16 n (fB n x)
  unfold fD
  rw [show bC (b - bA b) + 256 * fC n (fB n x) + (bC (b - bA b) + 256 * fC n (fB n x)) / 16 = (bC (b - bA b) + bC (b - bA b) / 16 + 16 * (fC n (fB n x) % 16)) + 256 * (fC n (fB n x) + fC n (fB n x) / 16) by omega]
  show _ &&& (15 + 256 * mk 15 n) = _
  rw [and_by (by omega) (by omega), u0f hb (by omega)]
theorem p8_le {b : Nat} : p8 b ≤ 8 := ct_le _ 8
theorem ct_by {b x : Nat} (hb : b < 256) (n : Nat) : ct (fun i => (b + 256 * x).testBit i) (8 + n) = p8 b + ct (fun i => x.testBit i) n := by
  rw [ct_split]
  congr 1
  · unfold p8
    apply ct_c
    intro i hi
    have h := Nat.testBit_mod_two_pow (b + 256 * x) 8 i
    rw [show (2 : Nat) ^ 8 = 256 from rfl, show (b + 256 * x) % 256 = b by omega, decide_eq_true hi, Bool.true_and] at h
    exact h.symm
  · apply ct_c
    intro i _
    have h := Nat.testBit_div_two_pow (n := 8) (b + 256 * x) i
    rw [show (2 : Nat) ^ 8 = 256 from rfl, show (b + 256 * x) / 256 = x by omega] at h
    rw [h, Nat.add_comm i 8]
/-- the sums -/
def fE (D : Nat) : Nat := (D + D / 256) + (D + D / 256) / 65536 + ((D + D / 256) + (D + D / 256) / 65536) / 4294967296
theorem dv_1 {d D : Nat} (h : d ≤ 8) : (d + 256 * D) / 256 = D := by omega
theorem dv_2 {a b X : Nat} (ha : a ≤ 16) (hb : b ≤ 16) : (a + 256 * (b + 256 * X)) / 65536 = X := by omega
theorem dv_4 {a b c e X : Nat} (ha : a ≤ 32) (hb : b ≤ 32) (hc : c ≤ 32) (he : e ≤ 32) : (a + 256 * (b + 256 * (c + 256 * (e + 256 * X)))) / 4294967296 = X := by omega
theorem dv_m {s t X Y : Nat} (h : s + t ≤ 64) : ((s + 256 * X) + (t + 256 * Y)) % 128 = s + t := by omega
theorem ad_1 {a b X Y : Nat} : (a + 256 * X) + (b + 256 * Y) = (a + b) + 256 * (X + Y) := by omega
/-- eight small numbers, a byte each -/
theorem sum8 (d0 d1 d2 d3 d4 d5 d6 d7 : Nat) (q0 : d0 ≤ 8) (q1 : d1 ≤ 8) (q2 : d2 ≤ 8) (q3 : d3 ≤ 8) (q4 : d4 ≤ 8) (q5 : d5 ≤ 8) (q6 : d6 ≤ 8) (q7 : d7 ≤ 8) : fE (d0 + 256 * (d1 + 256 * (d2 + 256 * (d3 + 256 * (d4 + 256 * (d5 + 256 * (d6 + 256 * (d7 + 256 * 0)))))))) % 128 = d0 + (d1 + (d2 + (d3 + (d4 + (d5 + (d6 + d7)))))) := by
  unfold fE
  rw [dv_1 q0]
  have z : (0 : Nat) = 0 + 256 * 0 := rfl
  have e1 : (d0 + 256 * (d1 + 256 * (d2 + 256 * (d3 + 256 * (d4 + 256 * (d5 + 256 * (d6 + 256 * (d7 + 256 * 0)))))))) + (d1 + 256 * (d2 + 256 * (d3 + 256 * (d4 + 256 * (d5 + 256 * (d6 + 256 * (d7 + 256 * 0))))))) = (d0 + d1) + 256 * ((d1 + d2) + 256 * ((d2 + d3) + 256 * ((d3 + d4) + 256 * ((d4 + d5) + 256 * ((d5 + d6) + 256 * ((d6 + d7) + 256 * d7)))))) := by
    rw [ad_1, ad_1, ad_1, ad_1, ad_1, ad_1, ad_1, Nat.mul_zero, Nat.add_zero]
  rw [e1, dv_2 (a := d0 + d1) (b := d1 + d2) (by clear e1; omega) (by clear e1; omega)]
  have e2 : (d0 + d1) + 256 * ((d1 + d2) + 256 * ((d2 + d3) + 256 * ((d3 + d4) + 256 * ((d4 + d5) + 256 * ((d5 + d6) + 256 * ((d6 + d7) + 256 * d7)))))) + ((d2 + d3) + 256 * ((d3 + d4) + 256 * ((d4 + d5) + 256 * ((d5 + d6) + 256 * ((d6 + d7) + 256 * d7))))) = ((d0 + d1) + (d2 + d3)) + 256 * (((d1 + d2) + (d3 + d4)) + 256 * (((d2 + d3) + (d4 + d5)) + 256 * (((d3 + d4) + (d5 + d6)) + 256 * (((d4 + d5) + (d6 + d7)) + 256 * ((d5 + d6) + 256 * ((d6 + d7) + 256 * d7) + d7))))) := by
    rw [ad_1, ad_1, ad_1, ad_1, ad_1]
  rw [e2, dv_4 (by clear e1 e2; omega) (by clear e1 e2; omega) (by clear e1 e2; omega) (by clear e1 e2; omega), dv_m (by clear e1 e2; omega)]
  clear e1 e2 z
  omega
theorem pop_nat (x : Nat) (hx : x < 18446744073709551616) : ∃ d0 d1 d2 d3 d4 d5 d6 d7 : Nat, (d0 ≤ 8 ∧ d1 ≤ 8 ∧ d2 ≤ 8 ∧ d3 ≤ 8 ∧ d4 ≤ 8 ∧ d5 ≤ 8 ∧ d6 ≤ 8 ∧ d7 ≤ 8) ∧ fD 8 (fC 8 (fB 8 x)) = d0 + 256 * (d1 + 256 * (d2 + 256 * (d3 + 256 * (d4 + 256 * (d5 + 256 * (d6 + 256 * (d7 + 256 * 0))))))) ∧ ct (fun i => x.testBit i) 64 = d0 + (d1 + (d2 + (d3 + (d4 + (d5 + (d6 + d7)))))) := by
  have sp : ∀ y : Nat, ∃ b z, b < 256 ∧ y = b + 256 * z := fun y => ⟨y % 256, y / 256, Nat.mod_lt _ (by decide), (Nat.mod_add_div y 256).symm⟩
  obtain ⟨b0, x0, h0, rfl⟩ := sp x
  obtain ⟨b1, x1, h1, rfl⟩ := sp x0
  obtain ⟨b2, x2, h2, rfl⟩ := sp x1
  obtain ⟨b3, x3, h3, rfl⟩ := sp x2
  obtain ⟨b4, x4, h4, rfl⟩ := sp x3
  obtain ⟨b5, x5, h5, rfl⟩ := sp x4
  obtain ⟨b6, x6, h6, rfl⟩ := sp x5
  obtain ⟨b7, x7, h7, rfl⟩ := sp x6
  have z0 : fD 0 (fC 0 (fB 0 x7)) = 0 := Nat.and_zero _
  refine ⟨p8 b0, p8 b1, p8 b2, p8 b3, p8 b4, p8 b5, p8 b6, p8 b7, ⟨p8_le, p8_le, p8_le, p8_le, p8_le, p8_le, p8_le, p8_le⟩, ?_, ?_⟩
  · rw [fD_s (n := 7) h0, fD_s (n := 6) h1, fD_s (n := 5) h2, fD_s (n := 4) h3, fD_s (n := 3) h4, fD_s (n := 2) h5, fD_s (n := 1) h6, fD_s (n := 0) h7, z0]
  · have c0 := ct_by (x := b1 + 256 * (b2 + 256 * (b3 + 256 * (b4 + 256 * (b5 + 256 * (b6 + 256 * (b7 + 256 * x7))))))) h0 56
    have c1 := ct_by (x := b2 + 256 * (b3 + 256 * (b4 + 256 * (b5 + 256 * (b6 + 256 * (b7 + 256 * x7)))))) h1 48
    have c2 := ct_by (x := b3 + 256 * (b4 + 256 * (b5 + 256 * (b6 + 256 * (b7 + 256 * x7))))) h2 40
    have c3 := ct_by (x := b4 + 256 * (b5 + 256 * (b6 + 256 * (b7 + 256 * x7)))) h3 32
    have c4 := ct_by (x := b5 + 256 * (b6 + 256 * (b7 + 256 * x7))) h4 24
    have c5 := ct_by (x := b6 + 256 * (b7 + 256 * x7)) h5 16
    have c6 := ct_by (x := b7 + 256 * x7) h6 8
    have c7 := ct_by (x := x7) h7 0
    rw [show (64 : Nat) = 8 + 56 from rfl, c0, show (56 : Nat) = 8 + 48 from rfl, c1, show (48 : Nat) = 8 + 40 from rfl, c2, show (40 : Nat) = 8 + 32 from rfl, c3, show (32 : Nat) = 8 + 24 from rfl, c4, show (24 : Nat) = 8 + 16 from rfl, c5, show (16 : Nat) = 8 + 8 from rfl, c6]
    exact congrArg (fun z => p8 b0 + (p8 b1 + (p8 b2 + (p8 b3 + (p8 b4 + (p8 b5 + (p8 b6 + z))))))) c7
