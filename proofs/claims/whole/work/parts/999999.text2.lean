section Tx2
variable {base aK aV fm : Nat}
theorem key_ch : (List.range 152).all (fun j => decide (((Int32.ofInt (keyT.getD j 0) &&& 255).toUInt32 % 65536).toInt32 = Int32.ofInt (keyT.getD j 0) ∧ narrow .char (.int (Int32.ofInt (keyT.getD j 0))) = .int (Int32.ofInt (keyT.getD j 0)))) = true := by decide +kernel
theorem c_pre (l : Launch) (i n : Int32) (h0 : ¬ i < 0) (h1 : i < n) : TMet l base aK aV fm yPre kPre 0 [.int i, .int n, fv fm] (some (.int i)) := by
  refine met_ofWF l (cc := prog_22_method_11_code) (maxL := 3) (ret := some .int) tx_plain.2.2.2.2.2.2 rfl ?_
  intro p e s m args below meth c s₁ B hml hv
  obtain ⟨rfl, hT, hF⟩ := hv
  have hlocks := B.notSynchronized
  have hx := B.exec
  have hb := B.bytes
  have hr := B.returns
  have d0 : decode prog_22_method_11_code 0 = .ok (.iload_n 0, 1) := by decide +kernel
  have d1 : decode prog_22_method_11_code 1 = .ok (.ifCond .lt 8, 3) := by decide +kernel
  have d4 : decode prog_22_method_11_code 4 = .ok (.iload_n 0, 1) := by decide +kernel
  have d5 : decode prog_22_method_11_code 5 = .ok (.iload_n 1, 1) := by decide +kernel
  have d6 : decode prog_22_method_11_code 6 = .ok (.if_icmp .lt 10, 3) := by decide +kernel
  have d16 : decode prog_22_method_11_code 16 = .ok (.iload_n 0, 1) := by decide +kernel
  have d17 : decode prog_22_method_11_code 17 = .ok (.ireturn, 1) := by decide +kernel
  have hl := lv_entry ([.int i, .int n, fv fm]) (n := 3) (by cases fm <;> exact Nat.le_of_ble_eq_true rfl)
  rw [lg_entry_eq]
  generalize (lg_sl ([.int i, .int n, fv fm]) ++ List.replicate (3 - (lg_sl ([.int i, .int n, fv fm])).length) Slot.unset).toArray = ls at hl ⊢
  have hl : lv_has ls 3 [(0, .int i), (1, .int n), (2, fv fm)] := hl
  refine lv_iload_n hx hb d0 rfl (lv_at hl 0 rfl) ?_
  refine lv_if_lt (tgt := 9) hx hb d1 rfl (fun h => absurd h h0) (fun _ => ?_)
  refine lv_iload_n hx hb d4 rfl (lv_at hl 0 rfl) ?_
  refine lv_iload_n hx hb d5 rfl (lv_at hl 1 rfl) ?_
  refine lv_icmp_lt (tgt := 16) hx hb d6 rfl (fun _ => ?_) (fun h => absurd h1 h)
  refine lv_iload_n hx hb d16 rfl (lv_at hl 0 rfl) ?_
  exact W.iret hx hb hr (fun t ht hW => ⟨rfl, ht⟩) (fun q hq => by cases hq) d17
theorem c_chk (l : Launch) (i n : Int32) (h0 : ¬ i < 0) (h1 : i < n) : TMet l base aK aV fm yChk kChk 1 [.int i, .int n] none := by
  refine met_ofWF l (cc := prog_18_method_155_code) (maxL := 2) (ret := none) tx_plain.2.2.2.2.2.1 rfl ?_
  intro p e s m args below meth c s₁ B hml hv
  obtain ⟨rfl, hT, hF⟩ := hv
  have hlocks := B.notSynchronized
  have hx := B.exec
  have hb := B.bytes
  have hr := B.returns
  have hown : s.vm.findClass "java/lang/String" = some m.cls := findClass_of_methodNamed B.named
  have d0 : decode prog_18_method_155_code 0 = .ok (.iload_n 0, 1) := by decide +kernel
  have d1 : decode prog_18_method_155_code 1 = .ok (.iload_n 1, 1) := by decide +kernel
  have d2 : decode prog_18_method_155_code 2 = .ok (.getstatic 1053, 3) := by decide +kernel
  have d5 : decode prog_18_method_155_code 5 = .ok (.invokestatic 1059, 3) := by decide +kernel
  have d8 : decode prog_18_method_155_code 8 = .ok (.pop, 1) := by decide +kernel
  have d9 : decode prog_18_method_155_code 9 = .ok (.return_, 1) := by decide +kernel
  have w1 := tx_codes
  have w2 := tx_links
  have w3 := tx_stat
  have w4 := tx_fld
  have w5 := tx_ini
  simp only [Bool.and_eq_true] at w1 w2 w3 w4 w5
  have hl := lv_entry ([.int i, .int n]) (n := 2) (Nat.le_of_ble_eq_true rfl)
  rw [lg_entry_eq]
  generalize (lg_sl ([.int i, .int n]) ++ List.replicate (2 - (lg_sl ([.int i, .int n])).length) Slot.unset).toArray = ls at hl ⊢
  have hl : lv_has ls 2 [(0, .int i), (1, .int n)] := hl
  refine lv_iload_n hx hb d0 rfl (lv_at hl 0 rfl) ?_
  refine lv_iload_n hx hb d1 rfl (lv_at hl 1 rfl) ?_
  refine va_gets hx hb hF.2.2.2.2.2 va_S.rf hown (hT.tbl w4.2.1 _) (fun _ h => h) d2 ?_
  refine t_callS (vs := [.int i, .int n, fv fm]) (rest := []) (n := 3) hx hb (hml.trans hl.1.symm) hown hT (c_pre l i n h0 h1) hF w1.2.2.2.2.2.2 w5.2.2 w3.2.2 w2.2.2.2.2.2.2 (by decide) (by decide +kernel) rfl (Nat.le_of_ble_eq_true rfl) (Nat.le_of_ble_eq_true rfl) ⟨Nat.le_of_ble_eq_true rfl, Nat.le_of_ble_eq_true rfl⟩ (Nat.le_of_ble_eq_true rfl) d5 ?_
  refine lv_pop (va := .int i) hx hb d8 rfl ?_
  exact W.vret hx hb hr (fun t ht hW => ⟨rfl, ht⟩) (fun q hq => by cases hq) d9
theorem c_lat (l : Launch) : TMet l base aK aV fm yLat kLat 0 [.ref aK] (some (.int 1)) := by
  refine met_ofWF l (cc := prog_18_method_154_code) (maxL := 1) (ret := some .boolean) tx_plain.2.2.2.1 rfl ?_
  intro p e s m args below meth c s₁ B hml hv
  obtain ⟨rfl, hT, hF⟩ := hv
  have hlocks := B.notSynchronized
  have hx := B.exec
  have hb := B.bytes
  have hr := B.returns
  have hown : s.vm.findClass "java/lang/String" = some m.cls := findClass_of_methodNamed B.named
  have d0 : decode prog_18_method_154_code 0 = .ok (.getstatic 38, 3) := by decide +kernel
  have d3 : decode prog_18_method_154_code 3 = .ok (.ifCond .eq 14, 3) := by decide +kernel
  have d6 : decode prog_18_method_154_code 6 = .ok (.aload_n 0, 1) := by decide +kernel
  have d7 : decode prog_18_method_154_code 7 = .ok (.getfield 15, 3) := by decide +kernel
  have d10 : decode prog_18_method_154_code 10 = .ok (.ifCond .ne 7, 3) := by decide +kernel
  have d13 : decode prog_18_method_154_code 13 = .ok (.iconst 1, 1) := by decide +kernel
  have d14 : decode prog_18_method_154_code 14 = .ok (.goto 4, 3) := by decide +kernel
  have d18 : decode prog_18_method_154_code 18 = .ok (.ireturn, 1) := by decide +kernel
  have w4 := tx_fld
  simp only [Bool.and_eq_true] at w4
  have hl := lv_entry ([.ref aK]) (n := 1) (Nat.le_of_ble_eq_true rfl)
  rw [lg_entry_eq]
  generalize (lg_sl ([.ref aK]) ++ List.replicate (1 - (lg_sl ([.ref aK])).length) Slot.unset).toArray = ls at hl ⊢
  have hl : lv_has ls 1 [(0, .ref aK)] := hl
  refine va_gets hx hb hF.2.2.2.2.1 va_S.rf hown (hT.tbl w4.1 _) (fun _ h => h) d0 ?_
  refine lv_if_eq (tgt := 17) hx hb d3 rfl (fun h => absurd h (by decide)) (fun _ => ?_)
  refine lv_aload_n hx hb d6 rfl (lv_at hl 0 rfl) ?_
  refine vk_getf hx hb hF.2.1 va_S.rf hown (hT.tbl w4.2.2.2 _) (fun _ h => h) d7 ?_
  refine lv_if_ne (tgt := 17) hx hb d10 rfl (fun h => absurd rfl h) (fun _ => ?_)
  refine lv_iconst (v := 1) hx hb d13 rfl ?_
  refine lv_goto (tgt := 18) hx hb d14 rfl ?_
  exact W.zret (v := 1) hx hb hr rfl (fun t ht hW => ⟨rfl, ht⟩) (fun q hq => by cases hq) d18
theorem c_cod (l : Launch) : TMet l base aK aV fm yCod kCod 0 [.ref aK] (some (.int 0)) := by
  refine met_ofWF l (cc := prog_18_method_152_code) (maxL := 1) (ret := some .byte) tx_plain.2.1 rfl ?_
  intro p e s m args below meth c s₁ B hml hv
  obtain ⟨rfl, hT, hF⟩ := hv
  have hlocks := B.notSynchronized
  have hx := B.exec
  have hb := B.bytes
  have hr := B.returns
  have hown : s.vm.findClass "java/lang/String" = some m.cls := findClass_of_methodNamed B.named
  have d0 : decode prog_18_method_152_code 0 = .ok (.getstatic 38, 3) := by decide +kernel
  have d3 : decode prog_18_method_152_code 3 = .ok (.ifCond .eq 10, 3) := by decide +kernel
  have d6 : decode prog_18_method_152_code 6 = .ok (.aload_n 0, 1) := by decide +kernel
  have d7 : decode prog_18_method_152_code 7 = .ok (.getfield 15, 3) := by decide +kernel
  have d10 : decode prog_18_method_152_code 10 = .ok (.goto 4, 3) := by decide +kernel
  have d14 : decode prog_18_method_152_code 14 = .ok (.ireturn, 1) := by decide +kernel
  have w4 := tx_fld
  simp only [Bool.and_eq_true] at w4
  have hl := lv_entry ([.ref aK]) (n := 1) (Nat.le_of_ble_eq_true rfl)
  rw [lg_entry_eq]
  generalize (lg_sl ([.ref aK]) ++ List.replicate (1 - (lg_sl ([.ref aK])).length) Slot.unset).toArray = ls at hl ⊢
  have hl : lv_has ls 1 [(0, .ref aK)] := hl
  refine va_gets hx hb hF.2.2.2.2.1 va_S.rf hown (hT.tbl w4.1 _) (fun _ h => h) d0 ?_
  refine lv_if_eq (tgt := 13) hx hb d3 rfl (fun h => absurd h (by decide)) (fun _ => ?_)
  refine lv_aload_n hx hb d6 rfl (lv_at hl 0 rfl) ?_
  refine vk_getf hx hb hF.2.1 va_S.rf hown (hT.tbl w4.2.2.2 _) (fun _ h => h) d7 ?_
  refine lv_goto (tgt := 14) hx hb d10 rfl ?_
  exact W.zret (v := 0) hx hb hr rfl (fun t ht hW => ⟨rfl, ht⟩) (fun q hq => by cases hq) d14
theorem c_len (l : Launch) : TMet l base aK aV fm yLen kLen 1 [.ref aK] (some (.int 152)) := by
  refine met_ofWF l (cc := prog_18_method_54_code) (maxL := 1) (ret := some .int) tx_plain.1 rfl ?_
  intro p e s m args below meth c s₁ B hml hv
  obtain ⟨rfl, hT, hF⟩ := hv
  have hlocks := B.notSynchronized
  have hx := B.exec
  have hb := B.bytes
  have hr := B.returns
  have hown : s.vm.findClass "java/lang/String" = some m.cls := findClass_of_methodNamed B.named
  have d0 : decode prog_18_method_54_code 0 = .ok (.aload_n 0, 1) := by decide +kernel
  have d1 : decode prog_18_method_54_code 1 = .ok (.getfield 9, 3) := by decide +kernel
  have d4 : decode prog_18_method_54_code 4 = .ok (.arraylength, 1) := by decide +kernel
  have d5 : decode prog_18_method_54_code 5 = .ok (.aload_n 0, 1) := by decide +kernel
  have d6 : decode prog_18_method_54_code 6 = .ok (.invokevirtual 335, 3) := by decide +kernel
  have d9 : decode prog_18_method_54_code 9 = .ok (.ishr, 1) := by decide +kernel
  have d10 : decode prog_18_method_54_code 10 = .ok (.ireturn, 1) := by decide +kernel
  have w1 := tx_codes
  have w2 := tx_links
  have w3 := tx_inst
  have w4 := tx_fld
  have w5 := tx_ini
  have w6 := tx_sel
  simp only [Bool.and_eq_true] at w1 w2 w3 w4 w5 w6
  have hl := lv_entry ([.ref aK]) (n := 1) (Nat.le_of_ble_eq_true rfl)
  rw [lg_entry_eq]
  generalize (lg_sl ([.ref aK]) ++ List.replicate (1 - (lg_sl ([.ref aK])).length) Slot.unset).toArray = ls at hl ⊢
  have hl : lv_has ls 1 [(0, .ref aK)] := hl
  obtain ⟨cell, g1, g2, g3, g4, g5, g6, g7⟩ := hF.2.2.2.1
  refine lv_aload_n hx hb d0 rfl (lv_at hl 0 rfl) ?_
  refine vk_getf hx hb hF.2.2.1 va_S.rf hown (hT.tbl w4.2.2.1 _) (fun _ h => h) d1 ?_
  refine W.alen (n := Int32.ofNat 152) hx hb g1 g2 g5 rfl rfl d4 ?_
  refine lv_aload_n hx hb d5 rfl (lv_at hl 0 rfl) ?_
  refine t_callV (vs := []) (rest := [.int (Int32.ofNat 152)]) (n := 0) hx hb (hml.trans hl.1.symm) hown hT (c_cod l) hF w1.2.1 w5.1 w3.2.1 w6.2.1 w2.2.1 (by decide) (by decide +kernel) rfl (Nat.le_of_ble_eq_true rfl) (Nat.le_of_ble_eq_true rfl) ⟨Nat.le_of_ble_eq_true rfl, Nat.le_of_ble_eq_true rfl⟩ (Nat.le_of_ble_eq_true rfl) d6 ?_
  refine lv_ishr (x := Int32.ofNat 152) (y := 0) hx hb d9 ?_
  exact W.iret hx hb hr (fun t ht hW => ⟨rfl, ht⟩) (fun q hq => by cases hq) d10
theorem c_sl1 (l : Launch) (j : Nat) (hj : j < 152) : TMet l base aK aV fm ySl1 kSl1 2 [.ref aV, .int (Int32.ofNat j)] (some (.int (Int32.ofInt (keyT.getD j 0)))) := by
  refine met_ofWF l (cc := prog_19_method_2_code) (maxL := 2) (ret := some .char) tx_plain.2.2.2.2.1 rfl ?_
  intro p e s m args below meth c s₁ B hml hv
  obtain ⟨rfl, hT, hF⟩ := hv
  have hlocks := B.notSynchronized
  have hx := B.exec
  have hb := B.bytes
  have hr := B.returns
  have hown : s.vm.findClass "java/lang/StringLatin1" = some m.cls := findClass_of_methodNamed B.named
  have d0 : decode prog_19_method_2_code 0 = .ok (.iload_n 1, 1) := by decide +kernel
  have d1 : decode prog_19_method_2_code 1 = .ok (.aload_n 0, 1) := by decide +kernel
  have d2 : decode prog_19_method_2_code 2 = .ok (.arraylength, 1) := by decide +kernel
  have d3 : decode prog_19_method_2_code 3 = .ok (.invokestatic 9, 3) := by decide +kernel
  have d6 : decode prog_19_method_2_code 6 = .ok (.aload_n 0, 1) := by decide +kernel
  have d7 : decode prog_19_method_2_code 7 = .ok (.iload_n 1, 1) := by decide +kernel
  have d8 : decode prog_19_method_2_code 8 = .ok (.baload, 1) := by decide +kernel
  have d9 : decode prog_19_method_2_code 9 = .ok (.sipush 255, 3) := by decide +kernel
  have d12 : decode prog_19_method_2_code 12 = .ok (.iand, 1) := by decide +kernel
  have d13 : decode prog_19_method_2_code 13 = .ok (.i2c, 1) := by decide +kernel
  have d14 : decode prog_19_method_2_code 14 = .ok (.ireturn, 1) := by decide +kernel
  have w1 := tx_codes
  have w2 := tx_links
  have w3 := tx_stat
  have w5 := tx_ini
  simp only [Bool.and_eq_true] at w1 w2 w3 w5
  have hch := of_decide_eq_true (List.all_eq_true.mp key_ch j (List.mem_range.mpr hj))
  have hjc : (Int32.ofNat j).toNatClampNeg = j := Int32.toNatClampNeg_ofNat_of_lt (by omega)
  have hj0 : ¬ Int32.ofNat j < 0 := Int32.ofNat_not_neg (by omega)
  have hj1 : Int32.ofNat j < Int32.ofNat 152 := by
    rw [Int32.lt_iff_toInt_lt, Int32.toInt_ofNat_of_lt (by omega), Int32.toInt_ofNat_of_lt (by omega)]
    omega
  have hl := lv_entry ([.ref aV, .int (Int32.ofNat j)]) (n := 2) (Nat.le_of_ble_eq_true rfl)
  rw [lg_entry_eq]
  generalize (lg_sl ([.ref aV, .int (Int32.ofNat j)]) ++ List.replicate (2 - (lg_sl ([.ref aV, .int (Int32.ofNat j)])).length) Slot.unset).toArray = ls at hl ⊢
  have hl : lv_has ls 2 [(0, .ref aV), (1, .int (Int32.ofNat j))] := hl
  obtain ⟨cell, g1, g2, g3, g4, g5, g6, g7⟩ := hF.2.2.2.1
  refine lv_iload_n hx hb d0 rfl (lv_at hl 1 rfl) ?_
  refine lv_aload_n hx hb d1 rfl (lv_at hl 0 rfl) ?_
  refine W.alen (n := Int32.ofNat 152) hx hb g1 g2 g5 rfl rfl d2 ?_
  refine t_callS (vs := [.int (Int32.ofNat j), .int (Int32.ofNat 152)]) (rest := []) (n := 2) hx hb (hml.trans hl.1.symm) hown hT (c_chk l _ _ hj0 hj1) hF w1.2.2.2.2.2.1 w5.1 w3.2.1 w2.2.2.2.2.2.1 (by decide) (by decide +kernel) rfl (Nat.le_of_ble_eq_true rfl) (Nat.le_of_ble_eq_true rfl) ⟨Nat.le_of_ble_eq_true rfl, Nat.le_of_ble_eq_true rfl⟩ (Nat.le_of_ble_eq_true rfl) d3 ?_
  refine lv_aload_n hx hb d6 rfl (lv_at hl 0 rfl) ?_
  refine lv_iload_n hx hb d7 rfl (lv_at hl 1 rfl) ?_
  refine W.bald (v := .int (Int32.ofInt (keyT.getD j 0))) hx hb g1 g2 g3 (by
    rw [hjc]
    rintro (q | q)
    · exact hj0 q
    · omega) (by rw [hjc]; exact g6 j hj) rfl rfl d8 ?_
  refine lv_sipush (v := 255) hx hb d9 rfl ?_
  refine lv_iand hx hb d12 ?_
  refine lv_i2c hx hb d13 hch.1 ?_
  exact W.zret hx hb hr hch.2 (fun t ht hW => ⟨rfl, ht⟩) (fun q hq => by cases hq) d14
theorem c_chr (l : Launch) (j : Nat) (hj : j < 152) : TMet l base aK aV fm yChr kChr 3 [.ref aK, .int (Int32.ofNat j)] (some (.int (Int32.ofInt (keyT.getD j 0)))) := by
  refine met_ofWF l (cc := prog_18_method_56_code) (maxL := 2) (ret := some .char) tx_plain.2.2.1 rfl ?_
  intro p e s m args below meth c s₁ B hml hv
  obtain ⟨rfl, hT, hF⟩ := hv
  have hlocks := B.notSynchronized
  have hx := B.exec
  have hb := B.bytes
  have hr := B.returns
  have hown : s.vm.findClass "java/lang/String" = some m.cls := findClass_of_methodNamed B.named
  have d0 : decode prog_18_method_56_code 0 = .ok (.aload_n 0, 1) := by decide +kernel
  have d1 : decode prog_18_method_56_code 1 = .ok (.invokevirtual 492, 3) := by decide +kernel
  have d4 : decode prog_18_method_56_code 4 = .ok (.ifCond .eq 12, 3) := by decide +kernel
  have d7 : decode prog_18_method_56_code 7 = .ok (.aload_n 0, 1) := by decide +kernel
  have d8 : decode prog_18_method_56_code 8 = .ok (.getfield 9, 3) := by decide +kernel
  have d11 : decode prog_18_method_56_code 11 = .ok (.iload_n 1, 1) := by decide +kernel
  have d12 : decode prog_18_method_56_code 12 = .ok (.invokestatic 495, 3) := by decide +kernel
  have d15 : decode prog_18_method_56_code 15 = .ok (.ireturn, 1) := by decide +kernel
  have w1 := tx_codes
  have w2 := tx_links
  have w3 := tx_inst
  have w4 := tx_fld
  have w5 := tx_ini
  have w6 := tx_sel
  have w7 := tx_stat
  simp only [Bool.and_eq_true] at w1 w2 w3 w4 w5 w6 w7
  have hch := of_decide_eq_true (List.all_eq_true.mp key_ch j (List.mem_range.mpr hj))
  have hl := lv_entry ([.ref aK, .int (Int32.ofNat j)]) (n := 2) (Nat.le_of_ble_eq_true rfl)
  rw [lg_entry_eq]
  generalize (lg_sl ([.ref aK, .int (Int32.ofNat j)]) ++ List.replicate (2 - (lg_sl ([.ref aK, .int (Int32.ofNat j)])).length) Slot.unset).toArray = ls at hl ⊢
  have hl : lv_has ls 2 [(0, .ref aK), (1, .int (Int32.ofNat j))] := hl
  refine lv_aload_n hx hb d0 rfl (lv_at hl 0 rfl) ?_
  refine t_callV (vs := []) (rest := []) (n := 0) hx hb (hml.trans hl.1.symm) hown hT (c_lat l) hF w1.2.2.2.1 w5.1 w3.2.2.2 w6.2.2.2 w2.2.2.2.1 (by decide) (by decide +kernel) rfl (Nat.le_of_ble_eq_true rfl) (Nat.le_of_ble_eq_true rfl) ⟨Nat.le_of_ble_eq_true rfl, Nat.le_of_ble_eq_true rfl⟩ (Nat.le_of_ble_eq_true rfl) d1 ?_
  refine lv_if_eq (x := 1) (tgt := 16) hx hb d4 rfl (fun h => absurd h (by decide)) (fun _ => ?_)
  refine lv_aload_n hx hb d7 rfl (lv_at hl 0 rfl) ?_
  refine vk_getf hx hb hF.2.2.1 va_S.rf hown (hT.tbl w4.2.2.1 _) (fun _ h => h) d8 ?_
  refine lv_iload_n hx hb d11 rfl (lv_at hl 1 rfl) ?_
  refine t_callS (vs := [.ref aV, .int (Int32.ofNat j)]) (rest := []) (n := 2) hx hb (hml.trans hl.1.symm) hown hT (c_sl1 l j hj) hF w1.2.2.2.2.1 w5.2.1 w7.1 w2.2.2.2.2.1 (by decide) (by decide +kernel) rfl (Nat.le_of_ble_eq_true rfl) (Nat.le_of_ble_eq_true rfl) ⟨Nat.le_of_ble_eq_true rfl, Nat.le_of_ble_eq_true rfl⟩ (Nat.le_of_ble_eq_true rfl) d12 ?_
  exact W.zret hx hb hr hch.2 (fun t ht hW => ⟨rfl, ht⟩) (fun q hq => by cases hq) d15
end Tx2
