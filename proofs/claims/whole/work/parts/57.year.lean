/-! years: what an empire is after so many of them -/
def flow (V : Nat → Int) : Int := smB (fun s => !decide (V 4 < V (65 + s))) (fun s => V (69 + s)) (V 2).toNat
def vY (V : Nat → Int) (n : Int) : Nat → Int := fun k =>
  if 33 ≤ k ∧ k < 33 + (V 1).toNat then (if V (k + 24) = 0 then (if sLeft V (k - 33) ≤ n then V k + sLeft V (k - 33) else V k + n) else V k)
  else if 49 ≤ k ∧ k < 49 + (V 1).toNat then (if V (k + 8) = 0 then xand (V k) (xxor (sFad V (if sLeft V (k - 49) ≤ n then sLeft V (k - 49) - 1 else n)) (-1)) else V k)
  else if 57 ≤ k ∧ k < 57 + (V 1).toNat then (if V k = 0 ∧ sLeft V (k - 57) ≤ n then 1 else V k)
  else if 27 ≤ k ∧ k < 27 + (V 0).toNat then min 99 (V k + n)
  else if k = 7 then min 9999 (V 7 + n * flow V)
  else if k = 6 then V 6 + n
  else V k
section VY
variable {V : Nat → Int} {n : Int}
theorem vY_a (hc : Wc V) {h : Nat} (hh : (h : Int) < V 1) : vY V n (33 + h) = if V (57 + h) = 0 then (if sLeft V h ≤ n then V (33 + h) + sLeft V h else V (33 + h) + n) else V (33 + h) := by
  unfold Wc at hc
  unfold vY
  rw [if_pos (by omega), show 33 + h + 24 = 57 + h by omega, show 33 + h - 33 = h by omega]
theorem vY_k (hc : Wc V) {h : Nat} (hh : (h : Int) < V 1) : vY V n (49 + h) = if V (57 + h) = 0 then xand (V (49 + h)) (xxor (sFad V (if sLeft V h ≤ n then sLeft V h - 1 else n)) (-1)) else V (49 + h) := by
  unfold Wc at hc
  unfold vY
  rw [if_neg (by omega), if_pos (by omega), show 49 + h + 8 = 57 + h by omega, show 49 + h - 49 = h by omega]
theorem vY_s (hc : Wc V) {h : Nat} (hh : (h : Int) < V 1) : vY V n (57 + h) = if V (57 + h) = 0 ∧ sLeft V h ≤ n then 1 else V (57 + h) := by
  unfold Wc at hc
  unfold vY
  rw [if_neg (by omega), if_neg (by omega), if_pos (by omega), show 57 + h - 57 = h by omega]
theorem vY_r (hc : Wc V) {p : Nat} (hp : (p : Int) < V 0) : vY V n (27 + p) = min 99 (V (27 + p) + n) := by
  unfold Wc at hc
  unfold vY
  rw [if_neg (by omega), if_neg (by omega), if_neg (by omega), if_pos (by omega)]
theorem vY_7 : vY V n 7 = min 9999 (V 7 + n * flow V) := by
  unfold vY
  rw [if_neg (by omega), if_neg (by omega), if_neg (by omega), if_neg (by omega), if_pos rfl]
theorem vY_6 : vY V n 6 = V 6 + n := by
  unfold vY
  rw [if_neg (by omega), if_neg (by omega), if_neg (by omega), if_neg (by omega), if_neg (by omega), if_pos rfl]
theorem vY_o {k : Nat} (h1 : ¬ (33 ≤ k ∧ k < 33 + (V 1).toNat)) (h2 : ¬ (49 ≤ k ∧ k < 49 + (V 1).toNat)) (h3 : ¬ (57 ≤ k ∧ k < 57 + (V 1).toNat)) (h4 : ¬ (27 ≤ k ∧ k < 27 + (V 0).toNat)) (h5 : k ≠ 7) (h6 : k ≠ 6) : vY V n k = V k := by
  unfold vY
  rw [if_neg h1, if_neg h2, if_neg h3, if_neg h4, if_neg h5, if_neg h6]
theorem vY_c {k : Nat} (h : k < 6) : vY V n k = V k := vY_o (by omega) (by omega) (by omega) (by omega) (by omega) (by omega)
theorem vY_9 {k : Nat} (h : 8 ≤ k) (h2 : k < 27) : vY V n k = V k := vY_o (by omega) (by omega) (by omega) (by omega) (by omega) (by omega)
theorem vY_l (hc : Wc V) {k : Nat} (h : 65 ≤ k ∨ (41 ≤ k ∧ k < 49)) : vY V n k = V k := by
  unfold Wc at hc
  exact vY_o (by omega) (by omega) (by omega) (by omega) (by omega) (by omega)
theorem left_p {h : Nat} : 1 ≤ sLeft V h := by unfold sLeft; omega
theorem left_w (hw : Wf V) {h : Nat} (hh : (h : Int) < V 1) : sLeft V h = max 1 (V 3 - V (33 + h)) := by
  have h3 := hw.2.1
  have h1 := (hw.2.2.2.2.2.2.2.2.1 h hh).1
  unfold sLeft
  rw [w32s (by omega)]
theorem rI_fad {y : Int} : rI (sFad V y) := rI_un
theorem bt_fad (hc : Wc V) {y : Int} {i : Nat} (hi : i < 32) : bt (sFad V y) i = (decide ((i : Int) < V 0) && (decide (0 < y) && !decide (w32 (V (27 + i) + y) < V (9 + i)))) := by
  unfold Wc at hc
  unfold sFad
  rw [bt_msk (by omega) hi]
  congr 1
  rw [decide_eq_decide]
  omega
theorem flow_b (hw : Wf V) : 0 ≤ flow V ∧ flow V ≤ 396 := by
  have hc := hw.1
  unfold Wc at hc
  have h := hw.2.2.2.2.2.2.2.2.2
  have : 0 ≤ flow V ∧ flow V ≤ 99 * (((V 2).toNat : Nat) : Int) := itr_ind (f := fun s t => bif !decide (V 4 < V (65 + s)) then w32 (t + V (69 + s)) else t) (x := (0 : Int)) (P := fun n s => 0 ≤ s ∧ s ≤ 99 * (n : Int)) ⟨by omega, by omega⟩ (V 2).toNat (fun i s hi hs => by
    have h1 := (h i (by omega)).2
    cases !decide (V 4 < V (65 + i))
    · show 0 ≤ s ∧ s ≤ _
      omega
    · show 0 ≤ w32 (s + V (69 + i)) ∧ w32 (s + V (69 + i)) ≤ _
      rw [w32s (by omega)]
      omega)
  omega
/-- nothing at once -/
theorem vY_0 (hw : Wf V) : vY V 0 = V := by
  have hc := hw.1
  unfold Wc at hc
  funext k
  by_cases h1 : 33 ≤ k ∧ k < 33 + (V 1).toNat
  · obtain ⟨h, rfl⟩ : ∃ h, k = 33 + h := ⟨k - 33, by omega⟩
    have := left_p (V := V) (h := h)
    rw [vY_a hw.1 (by omega), if_neg (show ¬ sLeft V h ≤ 0 by omega), Int.add_zero]
    by_cases c : V (57 + h) = 0
    · rw [if_pos c]
    · rw [if_neg c]
  · by_cases h2 : 49 ≤ k ∧ k < 49 + (V 1).toNat
    · obtain ⟨h, rfl⟩ : ∃ h, k = 49 + h := ⟨k - 49, by omega⟩
      have := left_p (V := V) (h := h)
      have hr := (hw.2.2.2.2.2.2.2.2.1 h (by omega)).2.2.1
      rw [vY_k hw.1 (by omega), if_neg (show ¬ sLeft V h ≤ 0 by omega), sFad_0, and_m1 (show rI (V (49 + h)) by unfold rI; omega)]
      by_cases c : V (57 + h) = 0
      · rw [if_pos c]
      · rw [if_neg c]
    · by_cases h3 : 57 ≤ k ∧ k < 57 + (V 1).toNat
      · obtain ⟨h, rfl⟩ : ∃ h, k = 57 + h := ⟨k - 57, by omega⟩
        have := left_p (V := V) (h := h)
        rw [vY_s hw.1 (by omega), if_neg (show ¬ (V (57 + h) = 0 ∧ sLeft V h ≤ 0) by omega)]
      · by_cases h4 : 27 ≤ k ∧ k < 27 + (V 0).toNat
        · obtain ⟨p, rfl⟩ : ∃ p, k = 27 + p := ⟨k - 27, by omega⟩
          have hr := (hw.2.2.2.2.2.2.2.1 p (by omega)).2.2.2
          rw [vY_r hw.1 (by omega)]; omega
        · by_cases h5 : k = 7
          · subst h5
            have := hw.2.2.2.2.2.1
            rw [vY_7, Int.zero_mul]; omega
          · by_cases h6 : k = 6
            · subst h6
              rw [vY_6]; omega
            · exact vY_o h1 h2 h3 h4 h5 h6
/-- well-formed, but for the count of years -/
def Wg (V : Nat → Int) : Prop := Wf (up1 V 6 0) ∧ 0 ≤ V 6 ∧ V 6 ≤ 20000
theorem Wg.wf (h : Wg V) (h6 : V 6 ≤ 9999) : Wf V := by
  have h2 := h.2
  have h1 : Wf (up1 (up1 V 6 0) 6 (V 6)) := wf_upd h.1 (by unfold OkAt; omega)
  have e : up1 (up1 V 6 0) 6 (V 6) = V := by
    funext k
    by_cases c : k = 6
    · subst c; rw [up1_s]
    · rw [up1_n c, up1_n c]
  rw [e] at h1; exact h1
theorem Wg.of (h : Wf V) : Wg V := ⟨wf_upd h (by unfold OkAt; omega), h.2.2.2.2.1.1, by have := h.2.2.2.2.1.2; omega⟩
theorem wgY (hw : Wf V) (hn : 0 ≤ n ∧ n ≤ 300) : Wg (vY V n) := by
  have hc := hw.1
  have hc' := hc
  unfold Wc at hc'
  have h6 := hw.2.2.2.2.1
  have hfl := flow_b hw
  have hU : ∀ k, k ≠ 6 → up1 (vY V n) 6 0 k = vY V n k := fun k hk => up1_n hk
  refine ⟨⟨?_, ?_, ?_, ?_, ?_, ?_, ?_, ?_, ?_, ?_⟩, by rw [vY_6]; omega, by rw [vY_6]; omega⟩
  · unfold Wc
    rw [hU 0 (by omega), hU 1 (by omega), hU 2 (by omega), vY_c (by omega), vY_c (by omega), vY_c (by omega)]; exact hc'
  · rw [hU 3 (by omega), vY_c (by omega)]; exact hw.2.1
  · rw [hU 4 (by omega), vY_c (by omega)]; exact hw.2.2.1
  · rw [hU 5 (by omega), vY_c (by omega)]; exact hw.2.2.2.1
  · rw [up1_s]; omega
  · rw [hU 7 (by omega), vY_7]
    have := hw.2.2.2.2.2.1
    have : 0 ≤ n * flow V := Int.mul_nonneg hn.1 hfl.1
    omega
  · rw [hU 8 (by omega), vY_9 (by omega) (by omega)]; exact hw.2.2.2.2.2.2.1
  · intro p hp
    rw [hU 0 (by omega), vY_c (by omega)] at hp
    have h1 := hw.2.2.2.2.2.2.2.1 p hp
    rw [hU _ (by omega), hU _ (by omega), hU _ (by omega), hU _ (by omega), vY_9 (by omega) (by omega), vY_9 (by omega) (by omega), vY_9 (by omega) (by omega), vY_r hc hp]
    exact ⟨h1.1, h1.2.1, h1.2.2.1, by omega⟩
  · intro p hp
    rw [hU 1 (by omega), vY_c (by omega)] at hp
    have h1 := hw.2.2.2.2.2.2.2.2.1 p hp
    have h3 := hw.2.1
    rw [hU _ (by omega), hU _ (by omega), hU _ (by omega), hU _ (by omega), vY_a hc hp, vY_l hc (k := 41 + p) (by omega), vY_k hc hp, vY_s hc hp, left_w hw hp]
    obtain ⟨g1, g2, g3, g4, g5⟩ := h1
    refine ⟨?_, g2, ?_, ?_, ?_⟩
    · by_cases c : V (57 + p) = 0
      · rw [if_pos c]
        have := g5 c
        by_cases c2 : max 1 (V 3 - V (33 + p)) ≤ n
        · rw [if_pos c2]; omega
        · rw [if_neg c2]; omega
      · rw [if_neg c]; exact g1
    · by_cases c : V (57 + p) = 0
      · rw [if_pos c]; exact and_63 g3
      · rw [if_neg c]; exact g3
    · by_cases c : V (57 + p) = 0 ∧ max 1 (V 3 - V (33 + p)) ≤ n
      · rw [if_pos c]; omega
      · rw [if_neg c]; exact g4
    · by_cases c : V (57 + p) = 0
      · have := g5 c
        rw [if_pos c]
        by_cases c2 : max 1 (V 3 - V (33 + p)) ≤ n
        · rw [if_pos ⟨c, c2⟩]
          intro q; omega
        · rw [if_neg (fun q => c2 q.2), if_neg c2]
          intro _; omega
      · rw [if_neg c, if_neg (fun q => c q.1)]
        intro q; exact absurd q c
  · intro p hp
    rw [hU 2 (by omega), vY_c (by omega)] at hp
    rw [hU _ (by omega), hU _ (by omega), vY_l hc (by omega), vY_l hc (by omega)]
    exact hw.2.2.2.2.2.2.2.2.2 p hp
end VY
