section Rest2
variable (d e : Nat) {f : Nat → Int} {n T i : Nat} {X Y : Mem}
theorem le_mn {i T : Nat} (h : i ≤ T) : i ≤ min (i + 1) T := by omega
theorem le_mn2 {i T : Nat} (h : i ≤ T) : i ≤ min (min (i + 1) T + 1) T := by omega
theorem le_mn3 {i T : Nat} (h : i ≤ T) : i ≤ min (min (min (i + 1) T + 1) T + 1) T := by omega
theorem lo60 {r : Nat} (h : r < 60) : (0 : Int) ≤ (r : Int) ∧ (r : Int) < 60 := by omega
theorem ne_lo {a q : Nat} (h : 3 ≤ a ∧ a ≤ 7) (hq : 8 ≤ q) : a ≠ q := by omega
/-- an address in the numbers of a step -/
theorem adr {s k : Nat} (hs : s < 30) (hk : k ≤ 8) : w32 (((1455 + 9 * s : Nat) : Int) + (k : Int)) = ((1455 + k + 9 * s : Nat) : Int) ∧ ((0 : Int) ≤ ((1455 + k + 9 * s : Nat) : Int) ∧ ((1455 + k + 9 * s : Nat) : Int) < 1725) := by
  rw [w32s (by omega)]
  omega
theorem Bad.x {q k : Nat} {v : Int} (h : Bad X Y) (hq : q ≠ 3) : Bad (putI X q k v) Y := by
  obtain ⟨p, q, p0, p1, p2, p3, p4⟩ := h
  exact ⟨p, q, p0, by rw [pI_ne hq.symm]; exact p1, by rw [pI_ne hq.symm]; exact p2, p3, p4⟩
theorem NR.mv {X' Y' : Mem} {a b r s : Nat} (h : NR X Y a b) (hx : RsX r X X') (hy : RsY s Y Y') : NR X' Y' a b := h.keep (hx.1 11 (by decide) (by decide)) (fun q h1 h2 => hx.2.2 q (by omega)) (fun k hk => hy.2.2.2.2 k (by omega)) (hy.2.1 187 (by decide))
/-- teach -/
theorem rs_teach (h : RT X Y f n T i) (h0 : Y.1 179 12 = 0) {a b : Nat} (hN : NR X Y a b) {r s : Nat} (hr : r < 60) (hs : s < 30) (hK : Y.1 184 (1455 + 9 * s) = 3) (hw : X.1 (43 + 1) r = 17) : ∃ X' Y' g, C2 d j_pr_parseTeach [vR 7 9, vR 8 3, vR 1 11, vR 6 43, vI (r : Int)] X = some (some (vI (b01 g)), X') ∧ C2 e j_m_readTeach [vR 12 179, vI ((1455 + 9 * s : Nat) : Int)] Y = some (none, Y') ∧ RsO X Y X' Y' f n T i r s g := by
  have hi := h.2.1
  have a1 := adr (k := 1) hs (by decide)
  have a2 := adr (k := 2) hs (by decide)
  have a3 := adr (k := 3) hs (by decide)
  have k1 : 1456 + 9 * s ≤ 1455 + 1 + 9 * s ∧ 1455 + 1 + 9 * s < 1463 + 9 * s := by omega
  have k2 : 1456 + 9 * s ≤ 1455 + 2 + 9 * s ∧ 1455 + 2 + 9 * s < 1463 + 9 * s := by omega
  have k3 : 1456 + 9 * s ≤ 1455 + 3 + 9 * s ∧ 1455 + 3 + 9 * s < 1463 + 9 * s := by omega
  have ex := q_pr_parseTeach 11 43 (r : Int) d X
  have em := q_m_readTeach ((1455 + 9 * s : Nat) : Int) e Y
  rw [show (((1455 + 9 * s : Nat) : Int) + 1) = (((1455 + 9 * s : Nat) : Int) + ((1 : Nat) : Int)) from rfl, show (((1455 + 9 * s : Nat) : Int) + 2) = (((1455 + 9 * s : Nat) : Int) + ((2 : Nat) : Int)) from rfl, show (((1455 + 9 * s : Nat) : Int) + 3) = (((1455 + 9 * s : Nat) : Int) + ((3 : Nat) : Int)) from rfl, a1.1, a2.1, a3.1, Int.toNat_natCast, Int.toNat_natCast, Int.toNat_natCast] at em
  simp only [if_pos a1.2, if_pos a2.2, if_pos a3.2] at em
  simp only [if_pos (lo60 hr), Int.toNat_natCast] at ex
  clear a1 a2 a3
  obtain ⟨X1, Y1, g1, v1, x1, e1, e2, e3, e4⟩ := t_hnd d e h h0 hN
  rw [e1, bI_k, e2, bI_k] at ex
  rw [e3, bI_k] at em
  rcases e4 with ⟨rfl, ⟨r1, r2, r3, r4⟩, r5, r6, r7⟩ | ⟨rfl, rfl, rb⟩
  · rw [if_neg (by decide), r5] at ex
    have R2 : RT (putI X1 (43 + 2) r v1) (putI Y1 184 (1455 + 1 + 9 * s) v1) f n T _ := (r1.y184).x fun q hq => ⟨pI_ne (ne_lo hq (by decide)), rfl⟩
    have z2 : (putI Y1 184 (1455 + 1 + 9 * s) v1).1 179 12 = 0 := by rw [pI_ne (by decide)]; exact r2
    have FX2 : RsX r X (putI X1 (43 + 2) r v1) := r3.rx.tr (RsX.p (by decide))
    have FY2 : RsY s Y (putI Y1 184 (1455 + 1 + 9 * s) v1) := r4.w.ry.tr (RsY.p k1)
    have N2 := hN.mv FX2 FY2
    have x2 : (putI X1 (43 + 2) r v1).1 (43 + 2) r = v1 := pI_s
    have y2 : (putI Y1 184 (1455 + 1 + 9 * s) v1).1 184 (1455 + 1 + 9 * s) = v1 := pI_s
    have em' : C2 e j_m_readTeach [vR 12 179, vI ((1455 + 9 * s : Nat) : Int)] Y = bI (C2 e j_m_readTold [vR 12 179, vI 0, vI 1] (putI Y1 184 (1455 + 1 + 9 * s) v1)) fun x4 M3 => bI (C2 e j_m_readTold [vR 12 179, vI 0, vI 0] (putI M3 184 (1455 + 2 + 9 * s) x4)) fun x6 M5 => some (none, putI M5 184 (1455 + 3 + 9 * s) x6) := em
    have l2 : (putI X1 (43 + 2) r v1).2.1 = X1.2.1 := rfl
    generalize (putI X1 (43 + 2) r v1) = X2 at *
    rw [← l2] at ex
    generalize (putI Y1 184 (1455 + 1 + 9 * s) v1) = Y2 at *
    clear em e1 e2 e3
    obtain ⟨X3, Y3, g3, v3, x3, e1, e2, e3, e4⟩ := t_hnd d e R2 z2 N2
    rw [e1, bI_k, e2, bI_k] at ex
    rw [e3, bI_k] at em'
    rcases e4 with ⟨rfl, ⟨s1, s2, s3, s4⟩, s5, s6, s7⟩ | ⟨rfl, rfl, rb⟩
    · rw [if_neg (by decide), s5] at ex
      have R4 : RT (putI X3 (43 + 3) r v3) (putI Y3 184 (1455 + 2 + 9 * s) v3) f n T _ := (s1.y184).x fun q hq => ⟨pI_ne (ne_lo hq (by decide)), rfl⟩
      have z4 : (putI Y3 184 (1455 + 2 + 9 * s) v3).1 179 12 = 0 := by rw [pI_ne (by decide)]; exact s2
      have FX4' : RsX r X2 (putI X3 (43 + 3) r v3) := s3.rx.tr (RsX.p (by decide))
      have FY4' : RsY s Y2 (putI Y3 184 (1455 + 2 + 9 * s) v3) := s4.w.ry.tr (RsY.p k2)
      have FX4 := FX2.tr FX4'
      have FY4 := FY2.tr FY4'
      have N4 := hN.mv FX4 FY4
      have x42 : (putI X3 (43 + 3) r v3).1 (43 + 2) r = v1 := by rw [pI_ne (by decide), (s3 (43 + 2) (by decide)).1]; exact x2
      have x43 : (putI X3 (43 + 3) r v3).1 (43 + 3) r = v3 := pI_s
      have y41 : (putI Y3 184 (1455 + 2 + 9 * s) v3).1 184 (1455 + 1 + 9 * s) = v1 := by rw [pI_nk (by omega), (s4.1 184 (by decide)).1]; exact y2
      have y42 : (putI Y3 184 (1455 + 2 + 9 * s) v3).1 184 (1455 + 2 + 9 * s) = v3 := pI_s
      have em2 : C2 e j_m_readTeach [vR 12 179, vI ((1455 + 9 * s : Nat) : Int)] Y = bI (C2 e j_m_readTold [vR 12 179, vI 0, vI 0] (putI Y3 184 (1455 + 2 + 9 * s) v3)) fun x6 M5 => some (none, putI M5 184 (1455 + 3 + 9 * s) x6) := em'
      have l4 : (putI X3 (43 + 3) r v3).2.1 = X3.2.1 := rfl
      generalize (putI X3 (43 + 3) r v3) = X4 at *
      rw [← l4] at ex
      generalize (putI Y3 184 (1455 + 2 + 9 * s) v3) = Y4 at *
      clear em' e1 e2 e3
      obtain ⟨X5, Y5, g5, v5, x5, e1, e2, e3, e4⟩ := t_prt d e R4 z4 N4
      rw [e1, bI_k, e2, bI_k] at ex
      rw [e3, bI_k] at em2
      rcases e4 with ⟨rfl, ⟨t1, t2, t3, t4⟩, t5, t6, t7⟩ | ⟨rfl, rfl, rb⟩
      · rw [if_neg (by decide), t5] at ex
        have FX6 : RsX r X (putI X5 (43 + 4) r v5) := FX4.tr (t3.rx.tr (RsX.p (by decide)))
        have FY6 : RsY s Y (putI Y5 184 (1455 + 3 + 9 * s) v5) := FY4.tr (t4.w.ry.tr (RsY.p k3))
        have N6 := hN.mv FX6 FY6
        refine ⟨_, _, true, ex, em2, FX6, FY6, Or.inl ⟨rfl, _, le_mn3 hi, (t1.y184).x fun q hq => ⟨pI_ne (ne_lo hq (by decide)), rfl⟩, ?_, ?_⟩⟩
        · rw [pI_ne (by decide)]; exact t2
        · have q0 : PP (putI Y5 184 (1455 + 3 + 9 * s) v5) (75 + 9 * s) = 3 := by
            rw [PP_hi (by omega), show 1380 + (75 + 9 * s) = 1455 + 9 * s by omega, FY6.2.2.2.2 _ (Or.inl (by omega))]; exact hK
          have q1 : PP (putI Y5 184 (1455 + 3 + 9 * s) v5) (76 + 9 * s) = v1 := by
            rw [PP_hi (by omega), show 1380 + (76 + 9 * s) = 1455 + 1 + 9 * s by omega, pI_nk (by omega), (t4.1 184 (by decide)).1]; exact y41
          have q2 : PP (putI Y5 184 (1455 + 3 + 9 * s) v5) (77 + 9 * s) = v3 := by
            rw [PP_hi (by omega), show 1380 + (77 + 9 * s) = 1455 + 2 + 9 * s by omega, pI_nk (by omega), (t4.1 184 (by decide)).1]; exact y42
          have q3 : PP (putI Y5 184 (1455 + 3 + 9 * s) v5) (78 + 9 * s) = v5 := by
            rw [PP_hi (by omega), show 1380 + (78 + 9 * s) = 1455 + 3 + 9 * s by omega]; exact pI_s
          have p0 : PP (putI Y5 184 (1455 + 3 + 9 * s) v5) 0 = (a : Int) := (PP_lo (by decide)).trans N6.1.2.1
          have p1 : PP (putI Y5 184 (1455 + 3 + 9 * s) v5) 1 = (b : Int) := (PP_lo (by decide)).trans N6.2.2.1
          have w1 : (putI X5 (43 + 4) r v5).1 (43 + 1) r = 17 := by rw [FX6.1 (43 + 1) (by decide) (by decide)]; exact hw
          have w2 : (putI X5 (43 + 4) r v5).1 (43 + 2) r = v1 := by rw [pI_ne (by decide), (t3 (43 + 2) (by decide)).1]; exact x42
          have w3 : (putI X5 (43 + 4) r v5).1 (43 + 3) r = v3 := by rw [pI_ne (by decide), (t3 (43 + 3) (by decide)).1]; exact x43
          have w4 : (putI X5 (43 + 4) r v5).1 (43 + 4) r = v5 := pI_s
          unfold StR
          rw [q0, q1, q2, q3, p0, p1, w1, w2, w3, w4]
          exact ⟨by decide, by decide, fun g => absurd g (by decide), fun g => absurd g (by decide), fun _ => ⟨rfl, rfl, rfl, ⟨r6, r7⟩, ⟨s6, s7⟩, ⟨t6, t7⟩⟩, fun g => absurd g (by decide), fun g => absurd g (by decide), fun g => absurd g (by decide), fun g => absurd g (by decide)⟩
      · rw [if_pos b01_f] at ex
        exact ⟨_, _, false, ex, em2, FX4.tr rb.2.1.rx, FY4.tr (rb.2.2.ry.tr (RsY.p k3)), Or.inr ⟨rfl, rb.1.y184⟩⟩
    · rw [if_pos b01_f] at ex
      have hp : 0 < (putI Y3 184 (1455 + 2 + 9 * s) 0).1 179 12 := by rw [pI_ne (by decide)]; exact rb.1.pos
      rw [f_readTold e hp, bI_k] at em'
      exact ⟨_, _, false, ex, em', FX2.tr rb.2.1.rx, FY2.tr ((rb.2.2.ry.tr (RsY.p k2)).tr (RsY.p k3)), Or.inr ⟨rfl, rb.1.y184.y184⟩⟩
  · rw [if_pos b01_f] at ex
    have hp : 0 < (putI Y1 184 (1455 + 1 + 9 * s) 0).1 179 12 := by rw [pI_ne (by decide)]; exact rb.1.pos
    rw [f_readTold e hp, bI_k] at em
    have hp2 : 0 < (putI (putI Y1 184 (1455 + 1 + 9 * s) 0) 184 (1455 + 2 + 9 * s) 0).1 179 12 := by rw [pI_ne (by decide)]; exact hp
    rw [f_readTold e hp2, bI_k] at em
    exact ⟨_, _, false, ex, em, rb.2.1.rx, ((rb.2.2.ry.tr (RsY.p k1)).tr (RsY.p k2)).tr (RsY.p k3), Or.inr ⟨rfl, rb.1.y184.y184.y184⟩⟩
end Rest2
