/-! battles: the odds of the reference -/
def MB (M0 M : Mem) (f : Nat → Nat → Int) : Prop := (∀ a, a ≠ 179 → M.1 a = M0.1 a) ∧ (∀ k, k ≠ 29 → M.1 179 k = M0.1 179 k) ∧ (∀ a, a ≠ 188 → a ≠ 189 → M.2.1 a = M0.2.1 a) ∧ ∀ j e, j < 13 → e < 13 → M.2.1 188 (13 * j + e) = f j e
theorem MB.eq {M0 M : Mem} {f g : Nat → Nat → Int} (h : MB M0 M f) (hg : ∀ a b, a < 13 → b < 13 → g a b = f a b) : MB M0 M g := ⟨h.1, h.2.1, h.2.2.1, fun j e hj he => by rw [hg j e hj he]; exact h.2.2.2 j e hj he⟩
theorem MB.tf {M0 M : Mem} {f : Nat → Nat → Int} (h : MB M0 M f) (v : Int) : MB M0 (putI M 179 29 v) f := ⟨fun a ha => by rw [pI_ne ha]; exact h.1 a ha, fun k hk => by rw [pI_nk hk]; exact h.2.1 k hk, h.2.2.1, h.2.2.2⟩
theorem MB.nx {M0 M : Mem} {f : Nat → Nat → Int} (h : MB M0 M f) (k : Nat) (v : Int) : MB M0 (putL M 189 k v) f := ⟨h.1, h.2.1, fun a g1 g2 => by rw [pL_ne g2]; exact h.2.2.1 a g1 g2, fun j e hj he => by rw [pL_ne (by decide)]; exact h.2.2.2 j e hj he⟩
/-- whether the first throw is better -/
def tfl (w : Int) (f : Nat → Nat → Int) (j e : Nat) : Int := if e = 0 ∨ j = 0 then 0 else if 16 * f j e < w * f (j - 1) (e - 1) + (16 - w) * f (j - 1) e then 1 else 0
theorem bT_c {wd we : Nat → Int} {n : Nat} (h : ∀ i, i < n → wd i = we i) : ∀ k, k ≤ n → bT wd n k = bT we n k
  | 0, _ => rfl
  | k + 1, hk => by
    show nxt _ _ = nxt _ _
    rw [bT_c h k (by omega), h _ (by omega)]
section Odds3
variable {M0 M : Mem} (d : Nat)
theorem m_st (j e : Nat) (hj : j < 13) (he : e < 13) (M : Mem) : C2 d j_m_state [vI (j : Int), vI (e : Int)] M = some (some (vI ((13 * j + e : Nat) : Int)), M) := by
  rw [q_m_state, w32s (x := 13 * (j : Int)) (by omega), w32s (by omega)]
  congr 3
theorem m_turnOdds {w al : Int} {f : Nat → Nat → Int} (h : MB M0 M f) (j e : Nat) (hj : j < 13) (he : e < 13) (hw : 0 ≤ w ∧ w ≤ 16) (hf : ∀ j e, 0 ≤ f j e ∧ f j e ≤ 281474976710656) (hal : e = 0 → al = 16 * f j 0) (as : Bool) : C2 d j_m_turnOdds [vR 12 179, vI (j : Int), vI (e : Int), vL w, vI (b01 as), vL al] M = some (some (vL (nxt w f j e)), bif as then putI M 179 29 (tfl w f j e) else M) := by
  rw [q_m_turnOdds]
  unfold nxt tfl
  by_cases c : e = 0
  · subst c
    rw [if_pos (show ((0 : Nat) : Int) = 0 from rfl), if_pos (show j = 0 ∨ 0 = 0 from Or.inr rfl), if_pos (show 0 = 0 ∨ j = 0 from Or.inl rfl), hal rfl]
    cases as <;> rfl
  · have hb := hf j e
    rw [if_neg (by omega), m_st d j e hj he, bI_k, if_pos (by omega), Int.toNat_natCast, h.2.2.2 j e hj he, w64s (x := 16 * f j e) (by omega)]
    by_cases c1 : j = 0
    · subst c1
      rw [if_pos (show ((0 : Nat) : Int) = 0 from rfl), if_pos (show 0 = 0 ∨ e = 0 from Or.inl rfl), if_pos (show e = 0 ∨ 0 = 0 from Or.inr rfl), mx_J, bL_k, mx_J, bL_k, mx_J, bL_k]
      simp only [ycmp_gt]
      rw [if_neg (show ¬ 16 * f 0 e < -1 by omega), show max (16 * f 0 e) (-1) = 16 * f 0 e by omega]
      cases as <;> rfl
    · have b := mix_b hw (hf (j - 1) (e - 1)) (hf (j - 1) e)
      rw [if_neg (by omega), w32s (x := (j : Int) - 1) (by omega), w32s (x := (e : Int) - 1) (by omega), show (j : Int) - 1 = ((j - 1 : Nat) : Int) by omega, show (e : Int) - 1 = ((e - 1 : Nat) : Int) by omega, m_st d (j - 1) (e - 1) (by omega) (by omega), bI_k, if_pos (by omega), m_st d (j - 1) e (by omega) he, bI_k, if_pos (by omega), Int.toNat_natCast, Int.toNat_natCast, h.2.2.2 (j - 1) (e - 1) (by omega) (by omega), h.2.2.2 (j - 1) e (by omega) he, w64s (x := 16 - w) (by omega), w64s (x := w * f (j - 1) (e - 1)) (by omega), w64s (x := (16 - w) * f (j - 1) e) (by omega), w64s (x := w * f (j - 1) (e - 1) + (16 - w) * f (j - 1) e) (by omega), mx_J, bL_k, mx_J, bL_k, mx_J, bL_k, if_neg (show ¬ (j = 0 ∨ e = 0) by omega), if_neg (show ¬ (e = 0 ∨ j = 0) by omega)]
      simp only [ycmp_gt]
      by_cases z : 16 * f j e < w * f (j - 1) (e - 1) + (16 - w) * f (j - 1) e
      · rw [if_pos z, if_pos z]
        cases as <;> rfl
      · rw [if_neg z, if_neg z]
        cases as <;> rfl
/-- a turn of the reference: its cells -/
theorem m_turn {w al p1 : Int} {f : Nat → Nat → Int} (h : MB M0 M f) (hw : 0 ≤ w ∧ w ≤ 16) (hf : ∀ j e, 0 ≤ f j e ∧ f j e ≤ 281474976710656) (hal : ∀ j, al = 16 * f j 0) (t jr sh : Nat) (ht : t < 100) (hjr : jr < 13) (hsh : sh < 13) : ∃ M', E2 d r_m_laysOdds 39 [(0, vR 12 179), (1, vI p1), (3, vI (jr : Int)), (4, vI (sh : Int)), (5, vL al), (7, vI (t : Int)), (8, vL w), (10, vI 0)] [] M = E2 d r_m_laysOdds 26 [(0, vR 12 179), (1, vI p1), (3, vI (jr : Int)), (4, vI (sh : Int)), (5, vL al), (7, vI ((t : Int) - 1))] [] M' ∧ MB M0 M' (nxt w f) ∧ (t = 0 → M'.1 179 29 = tfl w f jr sh) := by
  refine ex_loop (P := fun i M' => E2 d r_m_laysOdds 39 [(0, vR 12 179), (1, vI p1), (3, vI (jr : Int)), (4, vI (sh : Int)), (5, vL al), (7, vI (t : Int)), (8, vL w), (10, vI (i : Int))] [] M') (R := fun r => ∃ M', r = E2 d r_m_laysOdds 26 [(0, vR 12 179), (1, vI p1), (3, vI (jr : Int)), (4, vI (sh : Int)), (5, vL al), (7, vI ((t : Int) - 1))] [] M' ∧ MB M0 M' (nxt w f) ∧ (t = 0 → M'.1 179 29 = tfl w f jr sh)) (fun i M' => MB M0 M' f ∧ (∀ a b, a < 13 → b < 13 → a < i → M'.2.1 189 (13 * a + b) = nxt w f a b) ∧ (t = 0 → jr < i → M'.1 179 29 = tfl w f jr sh)) 13 (fun i M' hi hq => ?_) (fun M' hq => ?_) M ⟨h, fun a b _ _ g => absurd g (by omega), fun _ g => absurd g (by omega)⟩
  · rw [q_m_laysOdds_39, if_neg (by omega)]
    refine ex_loop (P := fun k M' => E2 d r_m_laysOdds 44 [(0, vR 12 179), (1, vI p1), (3, vI (jr : Int)), (4, vI (sh : Int)), (5, vL al), (7, vI (t : Int)), (8, vL w), (10, vI (i : Int)), (11, vI (k : Int))] [] M') (R := fun r => ∃ s', r = E2 d r_m_laysOdds 39 [(0, vR 12 179), (1, vI p1), (3, vI (jr : Int)), (4, vI (sh : Int)), (5, vL al), (7, vI (t : Int)), (8, vL w), (10, vI ((i + 1 : Nat) : Int))] [] s' ∧ MB M0 s' f ∧ (∀ a b, a < 13 → b < 13 → a < i + 1 → s'.2.1 189 (13 * a + b) = nxt w f a b) ∧ (t = 0 → jr < i + 1 → s'.1 179 29 = tfl w f jr sh)) (fun k M' => MB M0 M' f ∧ (∀ a b, a < 13 → b < 13 → (a < i ∨ (a = i ∧ b < k)) → M'.2.1 189 (13 * a + b) = nxt w f a b) ∧ (t = 0 → (jr < i ∨ (jr = i ∧ sh < k)) → M'.1 179 29 = tfl w f jr sh)) 13 (fun k M' hk hq => ?_) (fun M' hq => ?_) M' ⟨hq.1, fun a b ha hb g => hq.2.1 a b ha hb (by omega), fun g1 g2 => hq.2.2 g1 (by omega)⟩
    · obtain ⟨q1, q2, q3⟩ := hq
      have as := fun b => m_turnOdds (al := al) d q1 i k hi hk hw hf (fun _ => hal i) b
      have a0 := as false
      have a1 := as true
      rw [show b01 false = 0 from rfl, cond_false] at a0
      rw [show b01 true = 1 from rfl, cond_true] at a1
      rw [q_m_laysOdds_44, if_neg (by omega), m_st d i k hi hk, bI_k, a0, bL_k, a1, bL_k, if_pos (show (0 : Int) ≤ ((13 * i + k : Nat) : Int) ∧ ((13 * i + k : Nat) : Int) < 169 by omega), if_pos (show (0 : Int) ≤ ((13 * i + k : Nat) : Int) ∧ ((13 * i + k : Nat) : Int) < 169 by omega), Int.toNat_natCast, w32n (by omega)]
      by_cases c : t = 0 ∧ i = jr ∧ k = sh
      · obtain ⟨c1, c2, c3⟩ := c
        subst c1; subst c2; subst c3
        rw [if_pos (show ((0 : Nat) : Int) = 0 from rfl), if_pos rfl, if_pos rfl]
        refine ⟨_, rfl, (q1.tf _).nx _ _, fun a b ha hb g => ?_, fun _ _ => ?_⟩
        · by_cases z : 13 * a + b = 13 * i + k
          · have : a = i ∧ b = k := by omega
            rw [z, pL_s, this.1, this.2]
          · rw [pL_nk z, pI_L]
            exact q2 a b ha hb (by omega)
        · rw [pL_I, pI_s]
      · have e : (if (t : Int) = 0 then (if (i : Int) = jr then (if (k : Int) = sh then E2 d r_m_laysOdds 44 [(0, vR 12 179), (1, vI p1), (3, vI (jr : Int)), (4, vI (sh : Int)), (5, vL al), (7, vI (t : Int)), (8, vL w), (10, vI (i : Int)), (11, vI ((k + 1 : Nat) : Int))] [] (putL (putI M' 179 29 (tfl w f i k)) 189 (13 * i + k) (nxt w f i k)) else E2 d r_m_laysOdds 44 [(0, vR 12 179), (1, vI p1), (3, vI (jr : Int)), (4, vI (sh : Int)), (5, vL al), (7, vI (t : Int)), (8, vL w), (10, vI (i : Int)), (11, vI ((k + 1 : Nat) : Int))] [] (putL M' 189 (13 * i + k) (nxt w f i k))) else E2 d r_m_laysOdds 44 [(0, vR 12 179), (1, vI p1), (3, vI (jr : Int)), (4, vI (sh : Int)), (5, vL al), (7, vI (t : Int)), (8, vL w), (10, vI (i : Int)), (11, vI ((k + 1 : Nat) : Int))] [] (putL M' 189 (13 * i + k) (nxt w f i k))) else E2 d r_m_laysOdds 44 [(0, vR 12 179), (1, vI p1), (3, vI (jr : Int)), (4, vI (sh : Int)), (5, vL al), (7, vI (t : Int)), (8, vL w), (10, vI (i : Int)), (11, vI ((k + 1 : Nat) : Int))] [] (putL M' 189 (13 * i + k) (nxt w f i k))) = E2 d r_m_laysOdds 44 [(0, vR 12 179), (1, vI p1), (3, vI (jr : Int)), (4, vI (sh : Int)), (5, vL al), (7, vI (t : Int)), (8, vL w), (10, vI (i : Int)), (11, vI ((k + 1 : Nat) : Int))] [] (putL M' 189 (13 * i + k) (nxt w f i k)) := by
          by_cases z1 : (t : Int) = 0
          · rw [if_pos z1]
            by_cases z2 : (i : Int) = jr
            · rw [if_pos z2, if_neg (by omega)]
            · rw [if_neg z2]
          · rw [if_neg z1]
        rw [e]
        refine ⟨_, rfl, q1.nx _ _, fun a b ha hb g => ?_, fun g1 g2 => ?_⟩
        · by_cases z : 13 * a + b = 13 * i + k
          · have : a = i ∧ b = k := by omega
            rw [z, pL_s, this.1, this.2]
          · rw [pL_nk z]
            exact q2 a b ha hb (by omega)
        · exact q3 g1 (by omega)
    · obtain ⟨q1, q2, q3⟩ := hq
      rw [q_m_laysOdds_44, if_pos (by decide), w32n (by omega)]
      exact ⟨M', rfl, q1, fun a b ha hb g => q2 a b ha hb (by omega), fun g1 g2 => q3 g1 (by omega)⟩
  · obtain ⟨q1, q2, q3⟩ := hq
    rw [q_m_laysOdds_39, if_pos (by decide)]
    refine ex_loop (P := fun k M'' => E2 d r_m_laysOdds 76 [(0, vR 12 179), (1, vI p1), (3, vI (jr : Int)), (4, vI (sh : Int)), (5, vL al), (7, vI (t : Int)), (10, vI (k : Int))] [] M'') (R := fun r => ∃ M', r = E2 d r_m_laysOdds 26 [(0, vR 12 179), (1, vI p1), (3, vI (jr : Int)), (4, vI (sh : Int)), (5, vL al), (7, vI ((t : Int) - 1))] [] M' ∧ MB M0 M' (nxt w f) ∧ (t = 0 → M'.1 179 29 = tfl w f jr sh)) (fun k M'' => M'' = fL M' 188 0 k (fun i => M'.2.1 189 i)) 169 (fun k M'' hk hq => ?_) (fun M'' hq => ?_) M' fL_0.symm
    · subst hq
      refine ⟨_, ?_, rfl⟩
      rw [q_m_laysOdds_76, if_pos (by omega), if_pos (by omega), if_pos (by omega), Int.toNat_natCast, fL_na (b := 189) (by decide), w32n (by omega), ← fL_s, Nat.zero_add]
    · subst hq
      rw [q_m_laysOdds_76, if_neg (by decide), w32s (by omega)]
      refine ⟨_, rfl, ⟨?_, ?_, ?_, ?_⟩, ?_⟩
      · intro a ha
        rw [fL_I]; exact q1.1 a ha
      · intro k hk
        rw [fL_I]; exact q1.2.1 k hk
      · intro a g1 g2
        rw [fL_na g1]; exact q1.2.2.1 a g1 g2
      · intro j e hj he
        rw [fL_at (by omega), Nat.sub_zero]
        exact q2 j e hj he hj
      · intro g
        rw [fL_I]; exact q3 g hjr
theorem m_lays (tr n jr sh : Nat) (ht : tr < 4) (hn : n ≤ 12) (hjr : jr < 13) (hsh : sh < 13) (hw : ∀ i, i < n → 0 ≤ M.2.1 182 (60 * tr + i) ∧ M.2.1 182 (60 * tr + i) ≤ 16) : ∃ M', C2 d j_m_laysOdds [vR 12 179, vI (tr : Int), vI (n : Int), vI (jr : Int), vI (sh : Int)] M = some (none, putL M' 179 30 (p16 n)) ∧ MB M M' (bT (fun i => M.2.1 182 (60 * tr + i)) n n) ∧ (1 ≤ n → M'.1 179 29 = tfl (M.2.1 182 (60 * tr)) (bT (fun i => M.2.1 182 (60 * tr + i)) n (n - 1)) jr sh) := by
  rw [q_m_laysOdds]
  refine ex_loop (P := fun i M' => E2 d r_m_laysOdds 4 [(0, vR 12 179), (1, vI (tr : Int)), (2, vI (n : Int)), (3, vI (jr : Int)), (4, vI (sh : Int)), (5, vL 1), (7, vI (i : Int))] [] M') (R := fun r => ∃ M', r = some (none, putL M' 179 30 (p16 n)) ∧ MB M M' (bT (fun i => M.2.1 182 (60 * tr + i)) n n) ∧ (1 ≤ n → M'.1 179 29 = tfl (M.2.1 182 (60 * tr)) (bT (fun i => M.2.1 182 (60 * tr + i)) n (n - 1)) jr sh)) (fun i M' => M' = fL M 188 0 i (fun k => if k % 13 = 0 then 1 else 0)) 169 (fun i M' hi hq => ?_) (fun M' hq => ?_) M fL_0.symm
  · subst hq
    refine ⟨_, ?_, rfl⟩
    rw [q_m_laysOdds_4, if_pos (by omega), xrem_of (by omega) (by omega), if_pos (show (0 : Int) ≤ i ∧ (i : Int) < 169 by omega), if_pos (show (0 : Int) ≤ i ∧ (i : Int) < 169 by omega), Int.toNat_natCast, w32n (by omega), ← fL_s, Nat.zero_add]
    by_cases c : i % 13 = 0
    · rw [if_pos (show (i : Int) % 13 = 0 by omega), if_pos c]
    · rw [if_neg (show ¬ (i : Int) % 13 = 0 by omega), if_neg c]
  · subst hq
    rw [q_m_laysOdds_4, if_neg (by decide), w32s (by omega)]
    have hB0 : MB M (fL M 188 0 169 (fun k => if k % 13 = 0 then 1 else 0)) (bT (fun i => M.2.1 182 (60 * tr + i)) n 0) := by
      refine ⟨fun _ _ => rfl, fun _ _ => rfl, fun a g1 _ => fL_na g1, fun j e hj he => ?_⟩
      rw [fL_at (by omega), Nat.sub_zero]
      show (if (13 * j + e) % 13 = 0 then (1 : Int) else 0) = if e = 0 then 1 else 0
      by_cases c : e = 0
      · rw [if_pos c, if_pos (by omega)]
      · rw [if_neg c, if_neg (by omega)]
    have main := ex_loop (P := fun k M' => E2 d r_m_laysOdds 26 [(0, vR 12 179), (1, vI (tr : Int)), (3, vI (jr : Int)), (4, vI (sh : Int)), (5, vL (p16 k)), (7, vI ((n : Int) - 1 - k))] [] M') (R := fun r => ∃ M', r = some (none, putL M' 179 30 (p16 n)) ∧ MB M M' (bT (fun i => M.2.1 182 (60 * tr + i)) n n) ∧ (1 ≤ n → M'.1 179 29 = tfl (M.2.1 182 (60 * tr)) (bT (fun i => M.2.1 182 (60 * tr + i)) n (n - 1)) jr sh)) (fun k M' => MB M M' (bT (fun i => M.2.1 182 (60 * tr + i)) n k) ∧ (k = n → 1 ≤ n → M'.1 179 29 = tfl (M.2.1 182 (60 * tr)) (bT (fun i => M.2.1 182 (60 * tr + i)) n (n - 1)) jr sh)) n (fun k M' hk hq => ?_) (fun M' hq => ?_) _ ⟨hB0, fun g1 g2 => absurd g1 (by omega)⟩
    · rw [show ((0 : Nat) : Int) = 0 from rfl, Int.sub_zero] at main
      exact main
    · obtain ⟨q1, q2⟩ := hq
      have hb := bT_b (wd := fun i => M.2.1 182 (60 * tr + i)) (n := n) hw k (by omega)
      have hp := p16_b (k := k) (by omega)
      have hp1 := p16_b (k := k + 1) (by omega)
      have hwk := hw (n - 1 - k) (by omega)
      have en : ((n : Int) - 1 - k) = ((n - 1 - k : Nat) : Int) := by omega
      have enum : C2 d j_m_numberOf [vR 12 179, vI (tr : Int), vI ((n - 1 - k : Nat) : Int)] M' = some (some (vL (M.2.1 182 (60 * tr + (n - 1 - k)))), M') := by
        rw [q_m_numberOf, w32s (x := 60 * (tr : Int)) (by omega), w32s (x := 60 * (tr : Int) + ((n - 1 - k : Nat) : Int)) (by omega), if_pos (by omega), show (60 * (tr : Int) + ((n - 1 - k : Nat) : Int)).toNat = 60 * tr + (n - 1 - k) by omega, q1.2.2.1 182 (by decide) (by decide)]
      obtain ⟨M2, h1, h2, h3⟩ := m_turn d (w := M.2.1 182 (60 * tr + (n - 1 - k))) (al := p16 (k + 1)) (p1 := (tr : Int)) q1 hwk (fun j e => ⟨(hb j e).1, by have := (hb j e).2; omega⟩) (fun j => by rw [bT_0, p16_s]; omega) (n - 1 - k) jr sh (by omega) hjr hsh
      refine ⟨M2, ?_, h2, fun g1 g2 => ?_⟩
      · show E2 d r_m_laysOdds 26 [(0, vR 12 179), (1, vI (tr : Int)), (3, vI (jr : Int)), (4, vI (sh : Int)), (5, vL (p16 k)), (7, vI ((n : Int) - 1 - k))] [] M' = E2 d r_m_laysOdds 26 [(0, vR 12 179), (1, vI (tr : Int)), (3, vI (jr : Int)), (4, vI (sh : Int)), (5, vL (p16 (k + 1))), (7, vI ((n : Int) - 1 - ((k + 1 : Nat) : Int)))] [] M2
        rw [q_m_laysOdds_26, if_neg (by omega), en, enum, bL_k, ← p16_s, w64s (by omega), h1, show ((n - 1 - k : Nat) : Int) - 1 = (n : Int) - 1 - ((k + 1 : Nat) : Int) by omega]
      · have h4 := h3 (by omega)
        rw [h4, show n - 1 - k = 0 by omega, Nat.add_zero, show k = n - 1 by omega]
    · obtain ⟨q1, q2⟩ := hq
      refine ⟨M', ?_, q1, fun g => q2 rfl g⟩
      rw [q_m_laysOdds_26, if_pos (by omega)]
end Odds3
