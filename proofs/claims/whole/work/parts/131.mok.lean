/-- a method's own words, and what its name says -/
def mOK (j : Nat) : Bool := inTbl (MI j).2.2.2.2.2.2.1 (.code (MI j).1 (MI j).2.1 (MI j).2.2.1 (MI j).2.2.2.1) && (inTbl (MI j).2.2.2.2.2.2.2.2.2 (.initialized (MI j).1.cls) && ((bif mj j then inTbl (MI j).2.2.2.2.2.2.2.1 (.static (MI j).1) && decide ((parseMethodDescriptor (MI j).1.desc).map (fun d => d.parameters.length) = some (MT j).2.1)
    else inTbl (MI j).2.2.2.2.2.2.2.1 (.instanceMethod (MI j).1) && (decide ((MI j).1.cls = (clsT ((MT j).2.2.1 % 100 - 1)).1 ∧ (MT j).2.2.1 % 100 < 14 ∧ (parseMethodDescriptor (MI j).1.desc).map (fun d => d.parameters.length + 1) = some (MT j).2.1) && (bif decide ((MI j).1.name = "<init>") then decide ((MI j).2.2.2.1 = none) else inTbl (MI j).2.2.2.2.2.2.2.2.1 (.selects (MI j).1.cls (MI j).1 (MI j).1)))) &&
  (decide ((MI j).1.cls ≠ "java/lang/invoke/MethodHandle" ∧ (MI j).1.cls ≠ "java/lang/invoke/VarHandle" ∧ (plainName (MI j).1.cls = true ∨ (MI j).1.cls = "java/lang/Math") ∧ (MT j).2.2.1 / 100 ≤ (MI j).2.2.1 ∧ (MI j).2.2.1 ≤ 20 ∧ ownN (MI j).2.2.2.2.1 = (MI j).1.cls) && (match (MI j).2.2.2.1 with
    | none => decide ((MT j).2.2.2 = 0)
    | some .int => decide ((MT j).2.2.2 = 1)
    | some .boolean => decide ((MT j).2.2.2 = 1)
    | some .long => decide ((MT j).2.2.2 = 2)
    | some (.object _) => decide (3 ≤ (MT j).2.2.2)
    | _ => false))))
theorem mOK_0 : (List.range' 0 6).all mOK = true := by decide +kernel
theorem mOK_1 : (List.range' 6 6).all mOK = true := by decide +kernel
theorem mOK_2 : (List.range' 12 6).all mOK = true := by decide +kernel
theorem mOK_3 : (List.range' 18 6).all mOK = true := by decide +kernel
theorem mOK_4 : (List.range' 24 6).all mOK = true := by decide +kernel
theorem mOK_5 : (List.range' 30 6).all mOK = true := by decide +kernel
theorem mOK_6 : (List.range' 36 6).all mOK = true := by decide +kernel
theorem mOK_7 : (List.range' 42 6).all mOK = true := by decide +kernel
theorem mOK_8 : (List.range' 48 6).all mOK = true := by decide +kernel
theorem mOK_9 : (List.range' 54 6).all mOK = true := by decide +kernel
theorem mOK_10 : (List.range' 60 6).all mOK = true := by decide +kernel
theorem mOK_11 : (List.range' 66 6).all mOK = true := by decide +kernel
theorem mOK_12 : (List.range' 72 6).all mOK = true := by decide +kernel
theorem mOK_13 : (List.range' 78 6).all mOK = true := by decide +kernel
theorem mOK_14 : (List.range' 84 6).all mOK = true := by decide +kernel
theorem mOK_15 : (List.range' 90 6).all mOK = true := by decide +kernel
theorem mOK_16 : (List.range' 96 6).all mOK = true := by decide +kernel
theorem mOK_17 : (List.range' 102 6).all mOK = true := by decide +kernel
theorem mOK_18 : (List.range' 108 6).all mOK = true := by decide +kernel
theorem mOK_19 : (List.range' 114 6).all mOK = true := by decide +kernel
theorem mOK_20 : (List.range' 120 6).all mOK = true := by decide +kernel
theorem mOK_21 : (List.range' 126 6).all mOK = true := by decide +kernel
theorem mOK_22 : (List.range' 132 6).all mOK = true := by decide +kernel
theorem mOK_23 : (List.range' 138 6).all mOK = true := by decide +kernel
theorem mOK_24 : (List.range' 144 6).all mOK = true := by decide +kernel
theorem mOK_25 : (List.range' 150 6).all mOK = true := by decide +kernel
theorem mOK_26 : (List.range' 156 6).all mOK = true := by decide +kernel
theorem mOK_27 : (List.range' 162 6).all mOK = true := by decide +kernel
theorem mOK_28 : (List.range' 168 6).all mOK = true := by decide +kernel
theorem mOK_29 : (List.range' 174 6).all mOK = true := by decide +kernel
theorem mOK_30 : (List.range' 180 6).all mOK = true := by decide +kernel
theorem mOK_31 : (List.range' 186 6).all mOK = true := by decide +kernel
theorem mOK_32 : (List.range' 192 6).all mOK = true := by decide +kernel
theorem mOK_33 : (List.range' 198 6).all mOK = true := by decide +kernel
theorem mOK_34 : (List.range' 204 6).all mOK = true := by decide +kernel
theorem mOK_35 : (List.range' 210 6).all mOK = true := by decide +kernel
theorem mOK_36 : (List.range' 216 6).all mOK = true := by decide +kernel
theorem mOK_37 : (List.range' 222 6).all mOK = true := by decide +kernel
theorem mOK_38 : (List.range' 228 6).all mOK = true := by decide +kernel
theorem mOK_39 : (List.range' 234 6).all mOK = true := by decide +kernel
theorem mOK_40 : (List.range' 240 6).all mOK = true := by decide +kernel
theorem mOK_41 : (List.range' 246 6).all mOK = true := by decide +kernel
theorem mOK_42 : (List.range' 252 6).all mOK = true := by decide +kernel
theorem mOK_43 : (List.range' 258 6).all mOK = true := by decide +kernel
theorem mOK_44 : (List.range' 264 6).all mOK = true := by decide +kernel
theorem mOK_45 : (List.range' 270 6).all mOK = true := by decide +kernel
theorem mOK_46 : (List.range' 276 6).all mOK = true := by decide +kernel
theorem mOK_47 : (List.range' 282 6).all mOK = true := by decide +kernel
theorem mOK_48 : (List.range' 288 6).all mOK = true := by decide +kernel
theorem mOK_49 : (List.range' 294 6).all mOK = true := by decide +kernel
theorem mOK_50 : (List.range' 300 6).all mOK = true := by decide +kernel
theorem mOK_51 : (List.range' 306 6).all mOK = true := by decide +kernel
theorem mOK_52 : (List.range' 312 6).all mOK = true := by decide +kernel
theorem mOK_53 : (List.range' 318 6).all mOK = true := by decide +kernel
theorem mOK_54 : (List.range' 324 6).all mOK = true := by decide +kernel
theorem mOK_55 : (List.range' 330 6).all mOK = true := by decide +kernel
theorem mOK_56 : (List.range' 336 6).all mOK = true := by decide +kernel
theorem mOK_57 : (List.range' 342 6).all mOK = true := by decide +kernel
theorem mOK_58 : (List.range' 348 6).all mOK = true := by decide +kernel
theorem mOK_59 : (List.range' 354 6).all mOK = true := by decide +kernel
theorem mOK_60 : (List.range' 360 6).all mOK = true := by decide +kernel
theorem mOK_61 : (List.range' 366 6).all mOK = true := by decide +kernel
theorem mOK_62 : (List.range' 372 6).all mOK = true := by decide +kernel
theorem mOK_63 : (List.range' 378 6).all mOK = true := by decide +kernel
theorem mOK_ok {j : Nat} (h : j < 384) : mOK j = true := by
  have at' : ∀ {a n : Nat}, (List.range' a n).all mOK = true → a ≤ j → j < a + n → mOK j = true := fun hq h1 h2 => List.all_eq_true.mp hq j (List.mem_range'_1.mpr ⟨h1, h2⟩)
  by_cases h0 : j < 6
  · exact at' mOK_0 (by omega) (by omega)
  by_cases h1 : j < 12
  · exact at' mOK_1 (by omega) (by omega)
  by_cases h2 : j < 18
  · exact at' mOK_2 (by omega) (by omega)
  by_cases h3 : j < 24
  · exact at' mOK_3 (by omega) (by omega)
  by_cases h4 : j < 30
  · exact at' mOK_4 (by omega) (by omega)
  by_cases h5 : j < 36
  · exact at' mOK_5 (by omega) (by omega)
  by_cases h6 : j < 42
  · exact at' mOK_6 (by omega) (by omega)
  by_cases h7 : j < 48
  · exact at' mOK_7 (by omega) (by omega)
  by_cases h8 : j < 54
  · exact at' mOK_8 (by omega) (by omega)
  by_cases h9 : j < 60
  · exact at' mOK_9 (by omega) (by omega)
  by_cases h10 : j < 66
  · exact at' mOK_10 (by omega) (by omega)
  by_cases h11 : j < 72
  · exact at' mOK_11 (by omega) (by omega)
  by_cases h12 : j < 78
  · exact at' mOK_12 (by omega) (by omega)
  by_cases h13 : j < 84
  · exact at' mOK_13 (by omega) (by omega)
  by_cases h14 : j < 90
  · exact at' mOK_14 (by omega) (by omega)
  by_cases h15 : j < 96
  · exact at' mOK_15 (by omega) (by omega)
  by_cases h16 : j < 102
  · exact at' mOK_16 (by omega) (by omega)
  by_cases h17 : j < 108
  · exact at' mOK_17 (by omega) (by omega)
  by_cases h18 : j < 114
  · exact at' mOK_18 (by omega) (by omega)
  by_cases h19 : j < 120
  · exact at' mOK_19 (by omega) (by omega)
  by_cases h20 : j < 126
  · exact at' mOK_20 (by omega) (by omega)
  by_cases h21 : j < 132
  · exact at' mOK_21 (by omega) (by omega)
  by_cases h22 : j < 138
  · exact at' mOK_22 (by omega) (by omega)
  by_cases h23 : j < 144
  · exact at' mOK_23 (by omega) (by omega)
  by_cases h24 : j < 150
  · exact at' mOK_24 (by omega) (by omega)
  by_cases h25 : j < 156
  · exact at' mOK_25 (by omega) (by omega)
  by_cases h26 : j < 162
  · exact at' mOK_26 (by omega) (by omega)
  by_cases h27 : j < 168
  · exact at' mOK_27 (by omega) (by omega)
  by_cases h28 : j < 174
  · exact at' mOK_28 (by omega) (by omega)
  by_cases h29 : j < 180
  · exact at' mOK_29 (by omega) (by omega)
  by_cases h30 : j < 186
  · exact at' mOK_30 (by omega) (by omega)
  by_cases h31 : j < 192
  · exact at' mOK_31 (by omega) (by omega)
  by_cases h32 : j < 198
  · exact at' mOK_32 (by omega) (by omega)
  by_cases h33 : j < 204
  · exact at' mOK_33 (by omega) (by omega)
  by_cases h34 : j < 210
  · exact at' mOK_34 (by omega) (by omega)
  by_cases h35 : j < 216
  · exact at' mOK_35 (by omega) (by omega)
  by_cases h36 : j < 222
  · exact at' mOK_36 (by omega) (by omega)
  by_cases h37 : j < 228
  · exact at' mOK_37 (by omega) (by omega)
  by_cases h38 : j < 234
  · exact at' mOK_38 (by omega) (by omega)
  by_cases h39 : j < 240
  · exact at' mOK_39 (by omega) (by omega)
  by_cases h40 : j < 246
  · exact at' mOK_40 (by omega) (by omega)
  by_cases h41 : j < 252
  · exact at' mOK_41 (by omega) (by omega)
  by_cases h42 : j < 258
  · exact at' mOK_42 (by omega) (by omega)
  by_cases h43 : j < 264
  · exact at' mOK_43 (by omega) (by omega)
  by_cases h44 : j < 270
  · exact at' mOK_44 (by omega) (by omega)
  by_cases h45 : j < 276
  · exact at' mOK_45 (by omega) (by omega)
  by_cases h46 : j < 282
  · exact at' mOK_46 (by omega) (by omega)
  by_cases h47 : j < 288
  · exact at' mOK_47 (by omega) (by omega)
  by_cases h48 : j < 294
  · exact at' mOK_48 (by omega) (by omega)
  by_cases h49 : j < 300
  · exact at' mOK_49 (by omega) (by omega)
  by_cases h50 : j < 306
  · exact at' mOK_50 (by omega) (by omega)
  by_cases h51 : j < 312
  · exact at' mOK_51 (by omega) (by omega)
  by_cases h52 : j < 318
  · exact at' mOK_52 (by omega) (by omega)
  by_cases h53 : j < 324
  · exact at' mOK_53 (by omega) (by omega)
  by_cases h54 : j < 330
  · exact at' mOK_54 (by omega) (by omega)
  by_cases h55 : j < 336
  · exact at' mOK_55 (by omega) (by omega)
  by_cases h56 : j < 342
  · exact at' mOK_56 (by omega) (by omega)
  by_cases h57 : j < 348
  · exact at' mOK_57 (by omega) (by omega)
  by_cases h58 : j < 354
  · exact at' mOK_58 (by omega) (by omega)
  by_cases h59 : j < 360
  · exact at' mOK_59 (by omega) (by omega)
  by_cases h60 : j < 366
  · exact at' mOK_60 (by omega) (by omega)
  by_cases h61 : j < 372
  · exact at' mOK_61 (by omega) (by omega)
  by_cases h62 : j < 378
  · exact at' mOK_62 (by omega) (by omega)
  exact at' mOK_63 (by omega) (by omega)
theorem math_plain {x : MethodName} (h : x ∈ [(⟨"java/lang/Math", "min", "(II)I"⟩ : MethodName), ⟨"java/lang/Math", "max", "(II)I"⟩, ⟨"java/lang/Math", "max", "(JJ)J"⟩, ⟨"java/lang/Math", "abs", "(J)J"⟩]) : plainFor x = true := by
  have h2 : ([(⟨"java/lang/Math", "min", "(II)I"⟩ : MethodName), ⟨"java/lang/Math", "max", "(II)I"⟩, ⟨"java/lang/Math", "max", "(JJ)J"⟩, ⟨"java/lang/Math", "abs", "(J)J"⟩]).all plainFor = true := by decide +kernel
  exact List.all_eq_true.mp h2 x h
