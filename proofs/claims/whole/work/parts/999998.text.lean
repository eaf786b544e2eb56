/-! the text of the words: String's own methods -/
def yLen : MethodName := ⟨"java/lang/String", "length", "()I"⟩
def yCod : MethodName := ⟨"java/lang/String", "coder", "()B"⟩
def yChr : MethodName := ⟨"java/lang/String", "charAt", "(I)C"⟩
def yLat : MethodName := ⟨"java/lang/String", "isLatin1", "()Z"⟩
def ySl1 : MethodName := ⟨"java/lang/StringLatin1", "charAt", "([BI)C"⟩
def yChk : MethodName := ⟨"java/lang/String", "checkIndex", "(II)V"⟩
def yPre : MethodName := ⟨"jdk/internal/util/Preconditions", "checkIndex", "(IILjava/util/function/BiFunction;)I"⟩
abbrev kLen : Cond := .code yLen prog_18_method_54_code 1 (some .int)
abbrev kCod : Cond := .code yCod prog_18_method_152_code 1 (some .byte)
abbrev kChr : Cond := .code yChr prog_18_method_56_code 2 (some .char)
abbrev kLat : Cond := .code yLat prog_18_method_154_code 1 (some .boolean)
abbrev kSl1 : Cond := .code ySl1 prog_19_method_2_code 2 (some .char)
abbrev kChk : Cond := .code yChk prog_18_method_155_code 2 none
abbrev kPre : Cond := .code yPre prog_22_method_11_code 3 (some .int)
theorem tx_codes : (inTbl 191 kLen && (inTbl 195 kCod && (inTbl 201 kChr && (inTbl 205 kLat && (inTbl 208 kSl1 && (inTbl 211 kChk && inTbl 216 kPre)))))) = true := by decide +kernel
theorem tx_links : (inTbl 188 (.methodLink "SeaFire$Reader" 59 yLen) && (inTbl 192 (.methodLink "java/lang/String" 335 yCod) && (inTbl 198 (.methodLink "SeaFire$Reader" 64 yChr) && (inTbl 202 (.methodLink "java/lang/String" 492 yLat) && (inTbl 206 (.methodLink "java/lang/String" 495 ySl1) && (inTbl 209 (.methodLink "java/lang/StringLatin1" 9 yChk) && inTbl 214 (.methodLink "java/lang/String" 1059 yPre))))))) = true := by decide +kernel
theorem tx_inst : (inTbl 189 (.instanceMethod yLen) && (inTbl 193 (.instanceMethod yCod) && (inTbl 199 (.instanceMethod yChr) && inTbl 203 (.instanceMethod yLat)))) = true := by decide +kernel
theorem tx_sel : (inTbl 190 (.selects "java/lang/String" yLen yLen) && (inTbl 194 (.selects "java/lang/String" yCod yCod) && (inTbl 200 (.selects "java/lang/String" yChr yChr) && inTbl 204 (.selects "java/lang/String" yLat yLat)))) = true := by decide +kernel
theorem tx_stat : (inTbl 207 (.static ySl1) && (inTbl 210 (.static yChk) && inTbl 215 (.static yPre))) = true := by decide +kernel
theorem tx_fld : (inTbl 196 (.fieldLink "java/lang/String" 38 "java/lang/String" "COMPACT_STRINGS" "Z") && (inTbl 212 (.fieldLink "java/lang/String" 1053 "jdk/internal/util/Preconditions" "SIOOBE_FORMATTER" "Ljava/util/function/BiFunction;") && (inTbl 2343 (.fieldLink "java/lang/String" 9 "java/lang/String" "value" "[B") && inTbl 2344 (.fieldLink "java/lang/String" 15 "java/lang/String" "coder" "B")))) = true := by decide +kernel
theorem tx_ini : (inTbl 152 (.initialized "java/lang/String") && (inTbl 153 (.initialized "java/lang/StringLatin1") && inTbl 154 (.initialized "jdk/internal/util/Preconditions"))) = true := by decide +kernel
theorem tx_plain : plainFor yLen = true ∧ plainFor yCod = true ∧ plainFor yChr = true ∧ plainFor yLat = true ∧ plainFor ySl1 = true ∧ plainFor yChk = true ∧ plainFor yPre = true := by decide +kernel
def TW (U : State) : Prop := ∀ w ∈ lw_tbl, goodWord w = true → ∀ a : Array Value, w.before a U = true
theorem TW.tbl {U : State} (h : TW U) {pos : Nat} {w : Cond} (hw : inTbl pos w = true) (a : Array Value) : w.before a U = true := by
  unfold inTbl at hw
  rw [Bool.and_eq_true, decide_eq_true_eq] at hw
  exact h w (List.mem_of_getElem? hw.1) hw.2 a
/-- what may stand where a reference may: nothing, or an address -/
def fv : Nat → Value
  | 0 => .null
  | a + 1 => .ref a
/-- what is known of the text -/
def SF (base aK aV fm : Nat) (U : State) (H : Heap) : Prop := va_O "java/lang/String" aK (fun q => base ≤ q) U H ∧ va_OF "java/lang/String" "coder" "B" (.int 0) aK (fun q => base ≤ q) U H ∧ va_OF "java/lang/String" "value" "[B" (.ref aV) aK (fun q => base ≤ q) U H ∧ va_T .byte aV 152 (fun j => .int (Int32.ofInt (keyT.getD j 0))) (fun q => base ≤ q) U H ∧ va_Z "java/lang/String" "COMPACT_STRINGS" "Z" (.int 1) (fun q => base ≤ q) U H ∧ va_Z "jdk/internal/util/Preconditions" "SIOOBE_FORMATTER" "Ljava/util/function/BiFunction;" (fv fm) (fun q => base ≤ q) U H
theorem SF.moved {base aK aV fm : Nat} {u U : State} {H : Heap} (hvm : u.vm.Alike U.vm) (h : SF base aK aV fm u H) : SF base aK aV fm U H := ⟨h.1.moved hvm, h.2.1.moved hvm, h.2.2.1.moved hvm, h.2.2.2.1.moved hvm, h.2.2.2.2.1.moved hvm, h.2.2.2.2.2.moved hvm⟩
theorem SF.kept {base aK aV fm : Nat} {U : State} {H H1 : Heap} (h : SF base aK aV fm U H) (hq : ∀ a : Nat, a < H.size → ¬ base ≤ a → H1[a]? = H[a]?) : SF base aK aV fm U H1 := ⟨h.1.kept hq, h.2.1.kept hq, h.2.2.1.kept hq, h.2.2.2.1.kept hq, h.2.2.2.2.1.kept hq, h.2.2.2.2.2.kept hq⟩
/-- a method that changes nothing: what it is asked, what it answers -/
def TPc (base aK aV fm : Nat) (vs : List Value) : Array Value → State → Prop := fun a U => a = vs.toArray ∧ TW U ∧ SF base aK aV fm U U.heap
def TQc (v : Option Value) : Array Value → State → Outcome → State → Prop := fun _ s o t => o = .returned v ∧ t.heap = s.heap
def TMet (l : Launch) (base aK aV fm : Nat) (y : MethodName) (cd : Cond) (k : Nat) (vs : List Value) (v : Option Value) : Prop := Met l y [cd] (rmF k 0 0) (TPc base aK aV fm vs) (TQc v) 0 0 (fun _ => False)
section Tx
variable {p : Program} {l : Launch} {e : Env} {R : Room} {s : State} {m : MethodId} {args : Array Value} {below : List Frame} {meth : Method} {c : Code} {Q : State → Prop} {cc : ByteArray} {pc : Nat} {ls : Array Slot} {H : Heap} {locs : List Loc} {cells slots base aK aV fm : Nat}
theorem TW.warm {s U : State} (hW : s.WarmedH U.vm) (h : TW s) : TW U := fun w hw hg a => word_at hW (good_of_word hg) (h w hw hg #[])
theorem tblind (vs : List Value) : FrameBlind (TPc base aK aV fm vs) := by
  intro a U g mk ⟨h1, h2, h3⟩
  exact ⟨h1, TW.warm (U := U.calling g mk a) (State.WarmedH.refl U) h2, SF.moved (U := U.calling g mk a) (Vm.Alike.refl U.vm) h3⟩
theorem t_fin {vs0 : Array Value} {rest : List Value} {v : Option Value} (kk : W p l e R s m args below meth c H locs cells slots Q (F0 m (pc + 3) ls (v.toList ++ rest))) : ∀ (v' : Option Value) (st₀ t : State) (L : List Loc), st₀.heap = H → s.vm.Alike t.vm → (∀ q ∈ L, False) → TQc v vs0 st₀ (.returned v') t → W p l e R s m args below meth c t.heap (locs ++ L) (cells + 0) (slots + 0) Q (F0 m (pc + 3) ls (v'.toList ++ rest)) := by
  intro v' st₀ t L h0 hal hL ⟨q1, q2⟩
  have e1 : v' = v := by
    have := q1
    simp only [Outcome.returned.injEq] at this
    exact this
  subst e1
  have e2 : L = [] := by
    cases L with
    | nil => rfl
    | cons q L => exact (hL q List.mem_cons_self).elim
  subst e2
  rw [q2, h0, List.append_nil]
  exact kk
/-- a static method that changes nothing is called -/
theorem t_callS {y : MethodName} {cb : ByteArray} {mL k n ix p1 p2 p3 p4 : Nat} {ret : Option FieldType} {own : String} {vs rest : List Value} {v : Option Value} (hx : p.tables.exec = Jvm.exec) (hb : c.code = cc) (hml : c.maxLocals = ls.size) (hown : s.vm.findClass own = some m.cls) (hT : TW s) (hM : TMet l base aK aV fm y (.code y cb mL ret) k vs v)
    (hF : SF base aK aV fm s H) (hcd : inTbl p1 (.code y cb mL ret) = true) (hin : inTbl p2 (.initialized y.cls) = true) (hst : inTbl p3 (.static y) = true) (hlk : inTbl p4 (.methodLink own ix y) = true) (hnm : y.cls ≠ "java/lang/invoke/MethodHandle" ∧ y.cls ≠ "java/lang/invoke/VarHandle") (hpar : ∀ sig, parseMethodDescriptor y.desc = some sig → n = sig.parameters.length) (hn : vs.length = n) (hf : k + 1 ≤ R.frames) (hlo : 8 + (mL + 11) + 40 * k ≤ R.locals) (hcs : cells + 0 ≤ R.cells ∧ slots + 0 ≤ R.slots) (hroom : (rest.map fun v => v.category).sum ≤ 8) (hd : decode cc pc = .ok (.invokestatic ix, 3))
    (kk : W p l e R s m args below meth c H locs cells slots Q (F0 m (pc + 3) ls (v.toList ++ rest))) : W p l e R s m args below meth c H locs cells slots Q (F0 m pc ls (vs.reverse ++ rest)) := by
  have hfix : CallFix p m c cc ls.size s args [] own := ⟨hx, hb, hml, hown, fun w h => by cases h⟩
  have hwarm : ∀ w ∈ [Cond.code y cb mL ret], ∀ (a' : Array Value) (U : State), s.WarmedH U.vm → w.before a' U = true := fun w hw a' U hW => by
    rw [List.mem_singleton.mp hw]
    exact (hT.warm hW).tbl hcd a'
  have hPs : PreS s H (TPc base aK aV fm vs) vs := ⟨tblind vs, fun U hU hW => ⟨rfl, hT.warm hW, by rw [hU]; exact hF.moved hW.alike⟩⟩
  have hr : 2 * (F0 m pc ls (vs.reverse ++ rest)).monitorRoom + (rest.map fun v => v.category).sum ≤ 8 := lv_room hroom
  exact mm_cont (va_runS hfix hM ⟨⟨rfl, rfl, hf, hlo, hwarm, List.mem_singleton.mpr rfl, hT.tbl hcd args, hT.tbl hin args, hnm, hpar, hT.tbl hlk args⟩, hT.tbl hst args⟩ hPs rfl hn rfl rfl hr hd hcs) (t_fin kk)
/-- a method of the text that changes nothing is called -/
theorem t_callV {y : MethodName} {cb : ByteArray} {mL k n ix p1 p2 p3 p4 p5 : Nat} {ret : Option FieldType} {own : String} {vs rest : List Value} {v : Option Value} (hx : p.tables.exec = Jvm.exec) (hb : c.code = cc) (hml : c.maxLocals = ls.size) (hown : s.vm.findClass own = some m.cls) (hT : TW s) (hM : TMet l base aK aV fm y (.code y cb mL ret) k (.ref aK :: vs) v)
    (hF : SF base aK aV fm s H) (hcd : inTbl p1 (.code y cb mL ret) = true) (hin : inTbl p2 (.initialized y.cls) = true) (hst : inTbl p3 (.instanceMethod y) = true) (hse : inTbl p5 (.selects "java/lang/String" y y) = true) (hlk : inTbl p4 (.methodLink own ix y) = true) (hnm : y.cls ≠ "java/lang/invoke/MethodHandle" ∧ y.cls ≠ "java/lang/invoke/VarHandle") (hpar : ∀ sig, parseMethodDescriptor y.desc = some sig → n = sig.parameters.length) (hn : vs.length = n) (hf : k + 1 ≤ R.frames) (hlo : 8 + (mL + 11) + 40 * k ≤ R.locals) (hcs : cells + 0 ≤ R.cells ∧ slots + 0 ≤ R.slots) (hroom : (rest.map fun v => v.category).sum ≤ 8) (hd : decode cc pc = .ok (.invokevirtual ix, 3))
    (kk : W p l e R s m args below meth c H locs cells slots Q (F0 m (pc + 3) ls (v.toList ++ rest))) : W p l e R s m args below meth c H locs cells slots Q (F0 m pc ls (vs.reverse ++ .ref aK :: rest)) := by
  have hfix : CallFix p m c cc ls.size s args [] own := ⟨hx, hb, hml, hown, fun w h => by cases h⟩
  have hwarm : ∀ w ∈ [Cond.code y cb mL ret], ∀ (a' : Array Value) (U : State), s.WarmedH U.vm → w.before a' U = true := fun w hw a' U hW => by
    rw [List.mem_singleton.mp hw]
    exact (hT.warm hW).tbl hcd a'
  obtain ⟨cell, o1, o2, o3, _⟩ := hF.1
  have hPs : PreV s H "java/lang/String" aK (TPc base aK aV fm (.ref aK :: vs)) vs := ⟨tblind _, ⟨cell, o1, o2, o3⟩, fun U hU hW => ⟨rfl, hT.warm hW, by rw [hU]; exact hF.moved hW.alike⟩⟩
  have hr : 2 * (F0 m pc ls (vs.reverse ++ .ref aK :: rest)).monitorRoom + (rest.map fun v => v.category).sum ≤ 8 := lv_room hroom
  exact mm_cont (va_runV hfix hM ⟨⟨rfl, rfl, hf, hlo, hwarm, List.mem_singleton.mpr rfl, hT.tbl hcd args, hT.tbl hin args, hnm, hpar, hT.tbl hlk args⟩, hT.tbl hst args, hT.tbl hse args⟩ hPs rfl hn rfl rfl hr hd hcs) (t_fin kk)
end Tx
