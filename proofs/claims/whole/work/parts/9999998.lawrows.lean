/-! the rows of the law against its bytes -/
/-- the first n rows of what is left -/
def chkN (own maxL rk : Nat) (rt : Option FieldType) (nm : String) (cc : ByteArray) (all : List Row) : Nat → List Row → Bool
  | 0, _ => true
  | _ + 1, [] => true
  | n + 1, (pc, kp, i) :: tl => (match decode cc pc with
    | .ok (raw, len) => okI own maxL rk rt nm all pc len raw i && (noFall i || decide (headPc tl = some (pc + len)))
    | .error _ => false) && chkN own maxL rk rt nm cc all n tl
abbrev lawN (a n : Nat) : Bool := chkN 13 4 12 (some .boolean) "law" code r_law_law n (r_law_law.drop a)
theorem law_0 : lawN 0 40 = true := by decide +kernel
theorem law_40 : lawN 40 40 = true := by decide +kernel
theorem law_80 : lawN 80 40 = true := by decide +kernel
theorem law_120 : lawN 120 40 = true := by decide +kernel
theorem law_160 : lawN 160 40 = true := by decide +kernel
theorem law_200 : lawN 200 40 = true := by decide +kernel
theorem law_240 : lawN 240 40 = true := by decide +kernel
theorem law_280 : lawN 280 40 = true := by decide +kernel
theorem law_320 : lawN 320 40 = true := by decide +kernel
theorem law_360 : lawN 360 40 = true := by decide +kernel
theorem law_400 : lawN 400 40 = true := by decide +kernel
theorem law_440 : lawN 440 40 = true := by decide +kernel
theorem law_480 : lawN 480 40 = true := by decide +kernel
theorem law_520 : lawN 520 40 = true := by decide +kernel
theorem law_560 : lawN 560 40 = true := by decide +kernel
theorem law_600 : lawN 600 40 = true := by decide +kernel
theorem law_640 : lawN 640 40 = true := by decide +kernel
theorem law_680 : lawN 680 40 = true := by decide +kernel
theorem law_720 : lawN 720 40 = true := by decide +kernel
theorem law_760 : lawN 760 40 = true := by decide +kernel
theorem law_800 : lawN 800 40 = true := by decide +kernel
theorem law_840 : lawN 840 40 = true := by decide +kernel
theorem law_880 : lawN 880 40 = true := by decide +kernel
theorem law_920 : lawN 920 40 = true := by decide +kernel
theorem law_960 : lawN 960 40 = true := by decide +kernel
theorem law_1000 : lawN 1000 40 = true := by decide +kernel
theorem law_1040 : lawN 1040 40 = true := by decide +kernel
theorem law_1080 : lawN 1080 40 = true := by decide +kernel
theorem law_1120 : lawN 1120 40 = true := by decide +kernel
theorem law_1160 : lawN 1160 40 = true := by decide +kernel
theorem law_1200 : lawN 1200 40 = true := by decide +kernel
theorem law_1240 : lawN 1240 40 = true := by decide +kernel
theorem law_1280 : lawN 1280 40 = true := by decide +kernel
theorem chkN_at {own maxL rk : Nat} {rt : Option FieldType} {nm : String} {cc : ByteArray} {all : List Row} : ∀ {n : Nat} {rows : List Row}, chkN own maxL rk rt nm cc all n rows = true → ∀ (ix pc : Nat) (kp : Option (List Nat)) (i : Instr) (tl : List Row), ix < n → rows.drop ix = (pc, kp, i) :: tl → ∃ raw len, decode cc pc = .ok (raw, len) ∧ okI own maxL rk rt nm all pc len raw i = true ∧ (noFall i = true ∨ headPc tl = some (pc + len))
  | 0, _, _, ix, _, _, _, _, hn, _ => absurd hn (Nat.not_lt_zero ix)
  | _ + 1, [], _, ix, pc, kp, i, tl, _, h => by simp at h
  | n + 1, (pc0, kp0, i0) :: t, hc, ix, pc, kp, i, tl, hn, h => by
    unfold chkN at hc
    obtain ⟨h1, h2⟩ := Bool.and_eq_true_iff.mp hc
    cases ix with
    | zero =>
      simp only [List.drop_zero, List.cons.injEq, Prod.mk.injEq] at h
      obtain ⟨⟨rfl, rfl, rfl⟩, rfl⟩ := h
      cases hd : decode cc pc0 with
      | error e => rw [hd] at h1; cases h1
      | ok q =>
        obtain ⟨raw, len⟩ := q
        rw [hd] at h1
        obtain ⟨h3, h4⟩ := Bool.and_eq_true_iff.mp h1
        refine ⟨raw, len, rfl, h3, ?_⟩
        rcases Bool.or_eq_true_iff.mp h4 with q | q
        · exact Or.inl q
        · exact Or.inr (of_decide_eq_true q)
    | succ k => exact chkN_at h2 k pc kp i tl (Nat.lt_of_succ_lt_succ hn) (by simpa using h)
theorem law_seg : ∀ q, q < 33 → lawN (40 * q) 40 = true
  | 0, _ => law_0
  | 1, _ => law_40
  | 2, _ => law_80
  | 3, _ => law_120
  | 4, _ => law_160
  | 5, _ => law_200
  | 6, _ => law_240
  | 7, _ => law_280
  | 8, _ => law_320
  | 9, _ => law_360
  | 10, _ => law_400
  | 11, _ => law_440
  | 12, _ => law_480
  | 13, _ => law_520
  | 14, _ => law_560
  | 15, _ => law_600
  | 16, _ => law_640
  | 17, _ => law_680
  | 18, _ => law_720
  | 19, _ => law_760
  | 20, _ => law_800
  | 21, _ => law_840
  | 22, _ => law_880
  | 23, _ => law_920
  | 24, _ => law_960
  | 25, _ => law_1000
  | 26, _ => law_1040
  | 27, _ => law_1080
  | 28, _ => law_1120
  | 29, _ => law_1160
  | 30, _ => law_1200
  | 31, _ => law_1240
  | 32, _ => law_1280
  | n + 33, h => absurd h (by omega)
theorem law_len : r_law_law.length = 1284 := by decide +kernel
theorem MT_384 : (MT 384).1 = r_law_law := by rfl
theorem MI_384 : (MI 384).2.1 = code ∧ (MI 384).2.2.1 = 4 ∧ (MI 384).2.2.2.1 = some .boolean ∧ (MI 384).2.2.2.2.1 = 13 ∧ (MI 384).2.2.2.2.2.1 = 12 ∧ (MI 384).1.name = "law" := ⟨rfl, rfl, rfl, rfl, rfl, rfl⟩
theorem row_law : RowOk 384 := by
  intro ix pc kp i tl h
  rw [MT_384] at h ⊢
  obtain ⟨m1, m2, m3, m4, m5, m6⟩ := MI_384
  rw [m1, m2, m3, m4, m5, m6]
  have hl : ix < 1284 := by
    by_cases q : ix < 1284
    · exact q
    · rw [List.drop_eq_nil_of_le (by rw [law_len]; omega)] at h; cases h
  have h1 := law_seg (ix / 40) (by omega)
  refine chkN_at h1 (ix % 40) pc kp i tl (Nat.mod_lt _ (by decide)) ?_
  rw [List.drop_drop, show 40 * (ix / 40) + ix % 40 = ix by omega]
  exact h
