section Rest
variable (d e : Nat) {f : Nat → Int} {n T i : Nat} {X Y : Mem}
/-- the numbers of the steps that are read, over the realm's -/
def PP (Y : Mem) : Nat → Int := fun k => if k < 75 then Y.1 184 k else Y.1 184 (1380 + k)
theorem PP_hi {k : Nat} (h : 75 ≤ k) : PP Y k = Y.1 184 (1380 + k) := if_neg (by omega)
theorem PP_lo {k : Nat} (h : k < 75) : PP Y k = Y.1 184 k := if_pos h
def RsX (r : Nat) (X X' : Mem) : Prop := (∀ q, q ≠ 3 → ¬ (45 ≤ q ∧ q ≤ 47) → X'.1 q = X.1 q) ∧ (∀ q j, 45 ≤ q → q ≤ 47 → j ≠ r → X'.1 q j = X.1 q j) ∧ (∀ q, q ≠ 3 → X'.2.1 q = X.2.1 q)
def RsY (s : Nat) (Y Y' : Mem) : Prop := (∀ a, a ≠ 179 → a ≠ 184 → Y'.1 a = Y.1 a) ∧ (∀ a, a ≠ 179 → Y'.2.1 a = Y.2.1 a) ∧ (∀ k, ¬ (12 ≤ k ∧ k ≤ 18) → Y'.1 179 k = Y.1 179 k) ∧ (∀ k, k ≠ 19 → Y'.2.1 179 k = Y.2.1 179 k) ∧ (∀ k, (k < 1456 + 9 * s ∨ 1463 + 9 * s ≤ k) → Y'.1 184 k = Y.1 184 k)
theorem RsX.tr {r : Nat} {A B C : Mem} (h : RsX r A B) (g : RsX r B C) : RsX r A C := ⟨fun q h1 h2 => (g.1 q h1 h2).trans (h.1 q h1 h2), fun q j h1 h2 h3 => (g.2.1 q j h1 h2 h3).trans (h.2.1 q j h1 h2 h3), fun q h1 => (g.2.2 q h1).trans (h.2.2 q h1)⟩
theorem FZ.rx {r : Nat} {A B : Mem} (h : FZ A B) : RsX r A B := ⟨fun q h1 _ => (h q h1).1, fun q j h1 _ _ => by rw [(h q (by omega)).1], fun q h1 => (h q h1).2⟩
theorem RsX.p {r q : Nat} {A : Mem} {v : Int} (hq : 45 ≤ q ∧ q ≤ 47) : RsX r A (putI A q r v) := ⟨fun c h1 h2 => pI_ne (by omega), fun c j h1 h2 h3 => by
  by_cases hc : c = q
  · rw [hc, pI_nk h3]
  · rw [pI_ne hc], fun _ _ => rfl⟩
theorem RsY.tr {s : Nat} {A B C : Mem} (h : RsY s A B) (g : RsY s B C) : RsY s A C := ⟨fun a h1 h2 => (g.1 a h1 h2).trans (h.1 a h1 h2), fun a h1 => (g.2.1 a h1).trans (h.2.1 a h1), fun k h1 => (g.2.2.1 k h1).trans (h.2.2.1 k h1), fun k h1 => (g.2.2.2.1 k h1).trans (h.2.2.2.1 k h1), fun k h1 => (g.2.2.2.2 k h1).trans (h.2.2.2.2 k h1)⟩
theorem FW.ry {s : Nat} {A B : Mem} (h : FW A B) : RsY s A B := ⟨fun a h1 _ => (h.1 a h1).1, fun a h1 => (h.1 a h1).2, h.2.1, h.2.2, fun k _ => by rw [(h.1 184 (by decide)).1]⟩
theorem RsY.p {s k : Nat} {A : Mem} {v : Int} (hk : 1456 + 9 * s ≤ k ∧ k < 1463 + 9 * s) : RsY s A (putI A 184 k v) := ⟨fun a _ h2 => pI_ne h2, fun _ _ => rfl, fun _ _ => by rw [pI_ne (by decide)], fun _ _ => rfl, fun j hj => pI_nk (by omega)⟩
/-- how the rest of a step ends -/
def RsO (X Y X' Y' : Mem) (f : Nat → Int) (n T i r s : Nat) (b : Bool) : Prop := RsX r X X' ∧ RsY s Y Y' ∧ ((b = true ∧ ∃ j, i ≤ j ∧ RT X' Y' f n T j ∧ Y'.1 179 12 = 0 ∧ StR X' 43 (PP Y') s r) ∨ (b = false ∧ Bad X' Y'))
/-- one number, or one name -/
theorem rs_one (hi : i ≤ T) {r s : Nat} (hr : r < 60) (hs : s < 30) {X1 Y1 : Mem} {g : Bool} {v : Int} {P : Prop} (tk : C2 d j_pr_takeOne [vR 7 9, vR 8 3, vR 1 11, vI ((putI X 3 11 0).1 (43 + 1) r)] (putI X 3 11 0) = some (some (vI (b01 g)), X1)) (ho : (g = true ∧ GdO (putI X 3 11 0) Y X1 Y1 f n T (min (i + 1) T) ∧ X1.1 3 11 = v ∧ P) ∨ (g = false ∧ v = 0 ∧ BdO (putI X 3 11 0) Y X1 Y1)) : ∃ X', C2 d j_pr_parseOne [vR 7 9, vR 8 3, vR 1 11, vR 6 43, vI (r : Int)] X = some (some (vI (b01 g)), X') ∧ RsX r X X' ∧ RsY s Y (putI Y1 184 (1455 + 1 + 9 * s) v) ∧ ((g = true ∧ P ∧ ∃ j, i ≤ j ∧ RT X' (putI Y1 184 (1455 + 1 + 9 * s) v) f n T j ∧ (putI Y1 184 (1455 + 1 + 9 * s) v).1 179 12 = 0 ∧ X'.1 (43 + 2) r = v) ∨ (g = false ∧ Bad X' (putI Y1 184 (1455 + 1 + 9 * s) v))) := by
  have hb : ∀ _ : Unit, (0 : Int) ≤ (r : Int) ∧ (r : Int) < 60 := by intro _; omega
  have ex := q_pr_parseOne 11 43 (r : Int) d X
  rw [if_pos (hb ()), Int.toNat_natCast, tk, bI_k, if_pos (hb ()), if_pos (b01_or _)] at ex
  refine ⟨_, ex, ?_⟩
  rcases ho with ⟨rfl, ⟨r1, r2, r3, r4⟩, r5, r6⟩ | ⟨rfl, rfl, r1, r2, r3⟩
  · refine ⟨(FZ.p.tr r3).rx.tr (RsX.p (by decide)), r4.w.ry.tr (RsY.p (by omega)), Or.inl ⟨rfl, r6, _, ?_, (r1.y184).x fun a ha => ⟨pI_ne (by omega), rfl⟩, ?_, ?_⟩⟩
    · omega
    · rw [pI_ne (by decide)]; exact r2
    · rw [pI_s, r5]
  · refine ⟨(FZ.p.tr r2).rx.tr (RsX.p (by decide)), r3.ry.tr (RsY.p (by omega)), Or.inr ⟨rfl, ?_⟩⟩
    obtain ⟨p, q, p0, p1, p2, p3, p4⟩ := r1
    exact ⟨p, q, p0, by rw [pI_ne (by decide)]; exact p1, by rw [pI_ne (by decide)]; exact p2, by rw [pI_ne (by decide)]; exact p3, by rw [pI_ne (by decide)]; exact p4⟩
/-- none -/
theorem rs_none (h : RT X Y f n T i) {r s : Nat} (hr : r < 60) (tk : C2 d j_pr_takeOne [vR 7 9, vR 8 3, vR 1 11, vI ((putI X 3 11 0).1 (43 + 1) r)] (putI X 3 11 0) = some (some (vI 1), putI X 3 11 0)) : ∃ X', C2 d j_pr_parseOne [vR 7 9, vR 8 3, vR 1 11, vR 6 43, vI (r : Int)] X = some (some (vI 1), X') ∧ RsX r X X' ∧ RT X' Y f n T i := by
  have hb : ∀ _ : Unit, (0 : Int) ≤ (r : Int) ∧ (r : Int) < 60 := by intro _; omega
  have ex := q_pr_parseOne 11 43 (r : Int) d X
  rw [if_pos (hb ()), Int.toNat_natCast, tk, bI_k, if_pos (hb ()), if_pos (Or.inr rfl)] at ex
  exact ⟨_, ex, (FZ.p).rx.tr (RsX.p (by decide)), (h.n11).x fun a ha => ⟨pI_ne (by omega), rfl⟩⟩
/-- what a step says, by its kind -/
theorem st_1 {r s : Nat} {K lo hi v w : Int} (hK : PP Y (75 + 9 * s) = K) (hw : X.1 (43 + 1) r = w) (hkw : kwOf K = w) (hv : X.1 (43 + 2) r = v) (hp : PP Y (76 + 9 * s) = v) (hlo : lo ≤ v ∧ v ≤ hi) (hc : (K = 0 ∧ lo = 1 ∧ hi = 20) ∨ (K = 1 ∧ lo = 1 ∧ hi = 999) ∨ (K = 9 ∧ lo = 1 ∧ hi = 99)) : StR X 43 (PP Y) s r := by
  unfold StR
  rw [hK, hw, hkw, hv, hp]
  rcases hc with ⟨rfl, rfl, rfl⟩ | ⟨rfl, rfl, rfl⟩ | ⟨rfl, rfl, rfl⟩
  · exact ⟨by decide, rfl, fun _ => ⟨rfl, hlo⟩, fun g => absurd g (by decide), fun g => absurd g (by decide), fun g => absurd g (by decide), fun g => absurd g (by decide), fun g => absurd g (by decide), fun g => absurd g (by decide)⟩
  · exact ⟨by decide, rfl, fun g => absurd g (by decide), fun _ => ⟨rfl, hlo⟩, fun g => absurd g (by decide), fun g => absurd g (by decide), fun g => absurd g (by decide), fun g => absurd g (by decide), fun g => absurd g (by decide)⟩
  · exact ⟨by decide, rfl, fun g => absurd g (by decide), fun g => absurd g (by decide), fun g => absurd g (by decide), fun g => absurd g (by decide), fun g => absurd g (by decide), fun g => absurd g (by decide), fun _ => ⟨rfl, hlo⟩⟩
theorem st_2 {r s : Nat} {K v w : Int} (hK : PP Y (75 + 9 * s) = K) (hw : X.1 (43 + 1) r = w) (hkw : kwOf K = w) (hv : X.1 (43 + 2) r = v) (hp : PP Y (76 + 9 * s) = v) (hlo : 0 ≤ v) (hc : ((K = 4 ∨ K = 5) ∧ v < PP Y 0) ∨ (K = 6 ∧ v < PP Y 1)) : StR X 43 (PP Y) s r := by
  unfold StR
  rw [hK, hw, hkw, hv, hp]
  rcases hc with ⟨rfl | rfl, g⟩ | ⟨rfl, g⟩
  · exact ⟨by decide, rfl, fun g => absurd g (by decide), fun g => absurd g (by decide), fun g => absurd g (by decide), fun _ => ⟨rfl, hlo, g⟩, fun g => absurd g (by decide), fun g => absurd g (by decide), fun g => absurd g (by decide)⟩
  · exact ⟨by decide, rfl, fun g => absurd g (by decide), fun g => absurd g (by decide), fun g => absurd g (by decide), fun _ => ⟨rfl, hlo, g⟩, fun g => absurd g (by decide), fun g => absurd g (by decide), fun g => absurd g (by decide)⟩
  · exact ⟨by decide, rfl, fun g => absurd g (by decide), fun g => absurd g (by decide), fun g => absurd g (by decide), fun g => absurd g (by decide), fun _ => ⟨rfl, hlo, g⟩, fun g => absurd g (by decide), fun g => absurd g (by decide)⟩
theorem st_0 {r s : Nat} {K w : Int} (hK : PP Y (75 + 9 * s) = K) (hw : X.1 (43 + 1) r = w) (hkw : kwOf K = w) (hc : K = 2 ∨ K = 7 ∨ K = 10) : StR X 43 (PP Y) s r := by
  unfold StR
  rw [hK, hw, hkw]
  rcases hc with rfl | rfl | rfl
  · exact ⟨by decide, rfl, fun g => absurd g (by decide), fun g => absurd g (by decide), fun g => absurd g (by decide), fun g => absurd g (by decide), fun g => absurd g (by decide), fun g => absurd g (by decide), fun g => absurd g (by decide)⟩
  · exact ⟨by decide, rfl, fun g => absurd g (by decide), fun g => absurd g (by decide), fun g => absurd g (by decide), fun g => absurd g (by decide), fun g => absurd g (by decide), fun g => absurd g (by decide), fun g => absurd g (by decide)⟩
  · exact ⟨by decide, rfl, fun g => absurd g (by decide), fun g => absurd g (by decide), fun g => absurd g (by decide), fun g => absurd g (by decide), fun g => absurd g (by decide), fun g => absurd g (by decide), fun g => absurd g (by decide)⟩
end Rest
