def RX0 : String := "SeaFire$Battle"
def TX0 : u_T := fun k => match k with
  | 0 => ("SeaFire$Battle", "best", "[[J", true)
  | _ => ("SeaFire$Battle", "scale", "J", false)
def tyX0 : Nat → FieldType := fun k => match k with
  | 0 => .array (.array .long)
  | _ => .long
theorem nmX0 : ∀ a, a < 2 → ∀ b, b < 2 → a ≠ b → (TX0 a).2.1 ≠ (TX0 b).2.1 := by decide +kernel
theorem tyX0_ok : ∀ k, k < 2 → parseFieldDescriptor (TX0 k).2.2.1 = some (tyX0 k) := by decide +kernel
def RX1 : String := "SeaFire$Empire"
def TX1 : u_T := fun k => match k with
  | 0 => ("SeaFire$Empire", "life", "I", false)
  | 1 => ("SeaFire$Empire", "border", "I", false)
  | 2 => ("SeaFire$Empire", "jars", "I", false)
  | 3 => ("SeaFire$Empire", "year", "I", false)
  | 4 => ("SeaFire$Empire", "store", "I", false)
  | 5 => ("SeaFire$Empire", "enemy", "I", false)
  | 6 => ("SeaFire$Empire", "written", "I", false)
  | 7 => ("SeaFire$Empire", "parts", "I", false)
  | 8 => ("SeaFire$Empire", "hands", "I", false)
  | 9 => ("SeaFire$Empire", "springs", "I", false)
  | 10 => ("SeaFire$Empire", "partRow", "[LSeaFire$Part;", true)
  | 11 => ("SeaFire$Empire", "handRow", "[LSeaFire$Hand;", true)
  | 12 => ("SeaFire$Empire", "springRow", "[LSeaFire$Spring;", true)
  | _ => ("SeaFire$Empire", "plan", "LSeaFire$Plan;", true)
def tyX1 : Nat → FieldType := fun k => match k with
  | 0 => .int
  | 1 => .int
  | 2 => .int
  | 3 => .int
  | 4 => .int
  | 5 => .int
  | 6 => .int
  | 7 => .int
  | 8 => .int
  | 9 => .int
  | 10 => .array (.object "SeaFire$Part")
  | 11 => .array (.object "SeaFire$Hand")
  | 12 => .array (.object "SeaFire$Spring")
  | _ => .object "SeaFire$Plan"
theorem nmX1 : ∀ a, a < 14 → ∀ b, b < 14 → a ≠ b → (TX1 a).2.1 ≠ (TX1 b).2.1 := by decide +kernel
theorem tyX1_ok : ∀ k, k < 14 → parseFieldDescriptor (TX1 k).2.2.1 = some (tyX1 k) := by decide +kernel
def RX2 : String := "SeaFire$EmpireReader"
def TX2 : u_T := fun k => match k with
  | _ => ("SeaFire$EmpireReader", "told", "I", false)
def tyX2 : Nat → FieldType := fun k => match k with
  | _ => .int
theorem nmX2 : ∀ a, a < 1 → ∀ b, b < 1 → a ≠ b → (TX2 a).2.1 ≠ (TX2 b).2.1 := by decide +kernel
theorem tyX2_ok : ∀ k, k < 1 → parseFieldDescriptor (TX2 k).2.2.1 = some (tyX2 k) := by decide +kernel
def RX3 : String := "SeaFire$Hand"
def TX3 : u_T := fun k => match k with
  | 0 => ("SeaFire$Hand", "name", "J", false)
  | 1 => ("SeaFire$Hand", "age", "I", false)
  | 2 => ("SeaFire$Hand", "price", "I", false)
  | 3 => ("SeaFire$Hand", "knows", "I", false)
  | _ => ("SeaFire$Hand", "fate", "I", false)
def tyX3 : Nat → FieldType := fun k => match k with
  | 0 => .long
  | 1 => .int
  | 2 => .int
  | 3 => .int
  | _ => .int
theorem nmX3 : ∀ a, a < 5 → ∀ b, b < 5 → a ≠ b → (TX3 a).2.1 ≠ (TX3 b).2.1 := by decide +kernel
theorem tyX3_ok : ∀ k, k < 5 → parseFieldDescriptor (TX3 k).2.2.1 = some (tyX3 k) := by decide +kernel
def RX4 : String := "SeaFire$Life"
def TX4 : u_T := fun k => match k with
  | 0 => ("SeaFire$Life", "done", "I", false)
  | 1 => ("SeaFire$Life", "missed", "I", false)
  | 2 => ("SeaFire$Life", "years", "I", false)
  | 3 => ("SeaFire$Life", "made", "I", false)
  | 4 => ("SeaFire$Life", "gone", "I", false)
  | 5 => ("SeaFire$Life", "stepLeft", "Z", false)
  | 6 => ("SeaFire$Life", "chance", "I", false)
  | _ => ("SeaFire$Life", "turnsLeft", "[I", true)
def tyX4 : Nat → FieldType := fun k => match k with
  | 0 => .int
  | 1 => .int
  | 2 => .int
  | 3 => .int
  | 4 => .int
  | 5 => .boolean
  | 6 => .int
  | _ => .array .int
theorem nmX4 : ∀ a, a < 8 → ∀ b, b < 8 → a ≠ b → (TX4 a).2.1 ≠ (TX4 b).2.1 := by decide +kernel
theorem tyX4_ok : ∀ k, k < 8 → parseFieldDescriptor (TX4 k).2.2.1 = some (tyX4 k) := by decide +kernel
def RX5 : String := "SeaFire$Part"
def TX5 : u_T := fun k => match k with
  | 0 => ("SeaFire$Part", "name", "J", false)
  | 1 => ("SeaFire$Part", "fades", "I", false)
  | 2 => ("SeaFire$Part", "ways", "I", false)
  | _ => ("SeaFire$Part", "rust", "I", false)
def tyX5 : Nat → FieldType := fun k => match k with
  | 0 => .long
  | 1 => .int
  | 2 => .int
  | _ => .int
theorem nmX5 : ∀ a, a < 4 → ∀ b, b < 4 → a ≠ b → (TX5 a).2.1 ≠ (TX5 b).2.1 := by decide +kernel
theorem tyX5_ok : ∀ k, k < 4 → parseFieldDescriptor (TX5 k).2.2.1 = some (tyX5 k) := by decide +kernel
def RX6 : String := "SeaFire$Plan"
def TX6 : u_T := fun k => match k with
  | 0 => ("SeaFire$Plan", "word", "[I", true)
  | 1 => ("SeaFire$Plan", "first", "[I", true)
  | 2 => ("SeaFire$Plan", "second", "[I", true)
  | 3 => ("SeaFire$Plan", "third", "[I", true)
  | 4 => ("SeaFire$Plan", "partner", "[I", true)
  | 5 => ("SeaFire$Plan", "rows", "I", false)
  | 6 => ("SeaFire$Plan", "steps", "I", false)
  | _ => ("SeaFire$Plan", "told", "Z", false)
def tyX6 : Nat → FieldType := fun k => match k with
  | 0 => .array .int
  | 1 => .array .int
  | 2 => .array .int
  | 3 => .array .int
  | 4 => .array .int
  | 5 => .int
  | 6 => .int
  | _ => .boolean
theorem nmX6 : ∀ a, a < 8 → ∀ b, b < 8 → a ≠ b → (TX6 a).2.1 ≠ (TX6 b).2.1 := by decide +kernel
theorem tyX6_ok : ∀ k, k < 8 → parseFieldDescriptor (TX6 k).2.2.1 = some (tyX6 k) := by decide +kernel
def RX7 : String := "SeaFire$PlanReader"
def TX7 : u_T := fun k => match k with
  | 0 => ("SeaFire$PlanReader", "open", "[I", true)
  | _ => ("SeaFire$PlanReader", "depth", "I", false)
def tyX7 : Nat → FieldType := fun k => match k with
  | 0 => .array .int
  | _ => .int
theorem nmX7 : ∀ a, a < 2 → ∀ b, b < 2 → a ≠ b → (TX7 a).2.1 ≠ (TX7 b).2.1 := by decide +kernel
theorem tyX7_ok : ∀ k, k < 2 → parseFieldDescriptor (TX7 k).2.2.1 = some (tyX7 k) := by decide +kernel
def RX8 : String := "SeaFire$Reader"
def TX8 : u_T := fun k => match k with
  | 0 => ("SeaFire$Reader", "keywords", "[J", true)
  | 1 => ("SeaFire$Reader", "kinds", "[I", true)
  | 2 => ("SeaFire$Reader", "places", "[I", true)
  | 3 => ("SeaFire$Reader", "values", "[J", true)
  | 4 => ("SeaFire$Reader", "tokens", "I", false)
  | 5 => ("SeaFire$Reader", "current", "I", false)
  | 6 => ("SeaFire$Reader", "length", "I", false)
  | 7 => ("SeaFire$Reader", "kind", "I", false)
  | 8 => ("SeaFire$Reader", "value", "I", false)
  | 9 => ("SeaFire$Reader", "word", "J", false)
  | 10 => ("SeaFire$Reader", "keyword", "I", false)
  | 11 => ("SeaFire$Reader", "number", "I", false)
  | 12 => ("SeaFire$Reader", "fault", "I", false)
  | _ => ("SeaFire$Reader", "faultPlace", "I", false)
def tyX8 : Nat → FieldType := fun k => match k with
  | 0 => .array .long
  | 1 => .array .int
  | 2 => .array .int
  | 3 => .array .long
  | 4 => .int
  | 5 => .int
  | 6 => .int
  | 7 => .int
  | 8 => .int
  | 9 => .long
  | 10 => .int
  | 11 => .int
  | 12 => .int
  | _ => .int
theorem nmX8 : ∀ a, a < 14 → ∀ b, b < 14 → a ≠ b → (TX8 a).2.1 ≠ (TX8 b).2.1 := by decide +kernel
theorem tyX8_ok : ∀ k, k < 14 → parseFieldDescriptor (TX8 k).2.2.1 = some (tyX8 k) := by decide +kernel
def RX9 : String := "SeaFire$Spring"
def TX9 : u_T := fun k => match k with
  | 0 => ("SeaFire$Spring", "name", "J", false)
  | 1 => ("SeaFire$Spring", "miles", "I", false)
  | _ => ("SeaFire$Spring", "gives", "I", false)
def tyX9 : Nat → FieldType := fun k => match k with
  | 0 => .long
  | 1 => .int
  | _ => .int
theorem nmX9 : ∀ a, a < 3 → ∀ b, b < 3 → a ≠ b → (TX9 a).2.1 ≠ (TX9 b).2.1 := by decide +kernel
theorem tyX9_ok : ∀ k, k < 3 → parseFieldDescriptor (TX9 k).2.2.1 = some (tyX9 k) := by decide +kernel
def RX10 : String := "SeaFire$Tray"
def TX10 : u_T := fun k => match k with
  | 0 => ("SeaFire$Tray", "numbers", "[J", true)
  | 1 => ("SeaFire$Tray", "sort", "I", false)
  | _ => ("SeaFire$Tray", "length", "I", false)
def tyX10 : Nat → FieldType := fun k => match k with
  | 0 => .array .long
  | 1 => .int
  | _ => .int
theorem nmX10 : ∀ a, a < 3 → ∀ b, b < 3 → a ≠ b → (TX10 a).2.1 ≠ (TX10 b).2.1 := by decide +kernel
theorem tyX10_ok : ∀ k, k < 3 → parseFieldDescriptor (TX10 k).2.2.1 = some (tyX10 k) := by decide +kernel
def RX11 : String := "SeaFire"
def TX11 : u_T := fun k => match k with
  | 0 => ("SeaFire", "status", "I", false)
  | 1 => ("SeaFire", "top", "J", false)
  | 2 => ("SeaFire", "bottom", "J", false)
  | 3 => ("SeaFire", "trays", "[LSeaFire$Tray;", true)
  | 4 => ("SeaFire", "tape", "[B", true)
  | 5 => ("SeaFire", "taped", "I", false)
  | 6 => ("SeaFire", "reader", "LSeaFire$Reader;", true)
  | 7 => ("SeaFire", "empireReader", "LSeaFire$EmpireReader;", true)
  | 8 => ("SeaFire", "planReader", "LSeaFire$PlanReader;", true)
  | 9 => ("SeaFire", "faultKind", "I", false)
  | 10 => ("SeaFire", "faultPlace", "I", false)
  | 11 => ("SeaFire", "realm", "LSeaFire$Empire;", true)
  | 12 => ("SeaFire", "draft", "LSeaFire$Empire;", true)
  | 13 => ("SeaFire", "marks", "[LSeaFire$Empire;", true)
  | 14 => ("SeaFire", "marked", "I", false)
  | 15 => ("SeaFire", "odds", "LSeaFire$Battle;", true)
  | 16 => ("SeaFire", "lastLife", "LSeaFire$Life;", true)
  | 17 => ("SeaFire", "trialLife", "LSeaFire$Life;", true)
  | _ => ("SeaFire", "hasLived", "Z", false)
def tyX11 : Nat → FieldType := fun k => match k with
  | 0 => .int
  | 1 => .long
  | 2 => .long
  | 3 => .array (.object "SeaFire$Tray")
  | 4 => .array .byte
  | 5 => .int
  | 6 => .object "SeaFire$Reader"
  | 7 => .object "SeaFire$EmpireReader"
  | 8 => .object "SeaFire$PlanReader"
  | 9 => .int
  | 10 => .int
  | 11 => .object "SeaFire$Empire"
  | 12 => .object "SeaFire$Empire"
  | 13 => .array (.object "SeaFire$Empire")
  | 14 => .int
  | 15 => .object "SeaFire$Battle"
  | 16 => .object "SeaFire$Life"
  | 17 => .object "SeaFire$Life"
  | _ => .boolean
theorem nmX11 : ∀ a, a < 19 → ∀ b, b < 19 → a ≠ b → (TX11 a).2.1 ≠ (TX11 b).2.1 := by decide +kernel
theorem tyX11_ok : ∀ k, k < 19 → parseFieldDescriptor (TX11 k).2.2.1 = some (tyX11 k) := by decide +kernel
def RX12 : String := "SeaFireModel"
def TX12 : u_T := fun k => match k with
  | 0 => ("SeaFireModel", "status", "I", false)
  | 1 => ("SeaFireModel", "thrown", "I", false)
  | 2 => ("SeaFireModel", "above", "J", false)
  | 3 => ("SeaFireModel", "under", "J", false)
  | 4 => ("SeaFireModel", "traySort", "[I", true)
  | 5 => ("SeaFireModel", "trayMany", "[I", true)
  | 6 => ("SeaFireModel", "numbers", "[J", true)
  | 7 => ("SeaFireModel", "tape", "[B", true)
  | 8 => ("SeaFireModel", "taped", "I", false)
  | 9 => ("SeaFireModel", "textEnd", "I", false)
  | 10 => ("SeaFireModel", "faultKind", "I", false)
  | 11 => ("SeaFireModel", "faultAt", "I", false)
  | 12 => ("SeaFireModel", "bad", "I", false)
  | 13 => ("SeaFireModel", "badAt", "I", false)
  | 14 => ("SeaFireModel", "token", "I", false)
  | 15 => ("SeaFireModel", "at", "I", false)
  | 16 => ("SeaFireModel", "behind", "I", false)
  | 17 => ("SeaFireModel", "number", "I", false)
  | 18 => ("SeaFireModel", "letters", "I", false)
  | 19 => ("SeaFireModel", "word", "J", false)
  | 20 => ("SeaFireModel", "c", "[I", true)
  | 21 => ("SeaFireModel", "aside", "[I", true)
  | 22 => ("SeaFireModel", "before", "[I", true)
  | 23 => ("SeaFireModel", "words", "[J", true)
  | 24 => ("SeaFireModel", "markMany", "I", false)
  | 25 => ("SeaFireModel", "toldOnce", "I", false)
  | 26 => ("SeaFireModel", "newSteps", "I", false)
  | 27 => ("SeaFireModel", "odds", "[J", true)
  | 28 => ("SeaFireModel", "next", "[J", true)
  | 29 => ("SeaFireModel", "throwsFirst", "Z", false)
  | 30 => ("SeaFireModel", "allOdds", "J", false)
  | 31 => ("SeaFireModel", "wayMany", "I", false)
  | 32 => ("SeaFireModel", "sureOnes", "I", false)
  | 33 => ("SeaFireModel", "livedLast", "[I", true)
  | 34 => ("SeaFireModel", "hasLived", "Z", false)
  | 35 => ("SeaFireModel", "isOver", "Z", false)
  | 36 => ("SeaFireModel", "random", "I", false)
  | 37 => ("SeaFireModel", "done", "I", false)
  | 38 => ("SeaFireModel", "missed", "I", false)
  | 39 => ("SeaFireModel", "years", "I", false)
  | 40 => ("SeaFireModel", "made", "I", false)
  | 41 => ("SeaFireModel", "gone", "I", false)
  | _ => ("SeaFireModel", "leftOver", "I", false)
def tyX12 : Nat → FieldType := fun k => match k with
  | 0 => .int
  | 1 => .int
  | 2 => .long
  | 3 => .long
  | 4 => .array .int
  | 5 => .array .int
  | 6 => .array .long
  | 7 => .array .byte
  | 8 => .int
  | 9 => .int
  | 10 => .int
  | 11 => .int
  | 12 => .int
  | 13 => .int
  | 14 => .int
  | 15 => .int
  | 16 => .int
  | 17 => .int
  | 18 => .int
  | 19 => .long
  | 20 => .array .int
  | 21 => .array .int
  | 22 => .array .int
  | 23 => .array .long
  | 24 => .int
  | 25 => .int
  | 26 => .int
  | 27 => .array .long
  | 28 => .array .long
  | 29 => .boolean
  | 30 => .long
  | 31 => .int
  | 32 => .int
  | 33 => .array .int
  | 34 => .boolean
  | 35 => .boolean
  | 36 => .int
  | 37 => .int
  | 38 => .int
  | 39 => .int
  | 40 => .int
  | 41 => .int
  | _ => .int
theorem nmX12 : ∀ a, a < 43 → ∀ b, b < 43 → a ≠ b → (TX12 a).2.1 ≠ (TX12 b).2.1 := by decide +kernel
theorem tyX12_ok : ∀ k, k < 43 → parseFieldDescriptor (TX12 k).2.2.1 = some (tyX12 k) := by decide +kernel
abbrev vwCl : List vw_C := [(RX0, TX0, 2), (RX1, TX1, 14), (RX2, TX2, 1), (RX3, TX3, 5), (RX4, TX4, 8), (RX5, TX5, 4), (RX6, TX6, 8), (RX7, TX7, 2), (RX8, TX8, 14), (RX9, TX9, 3), (RX10, TX10, 3), (RX11, TX11, 19), (RX12, TX12, 43)]
def ownT : List String := ["SeaFire$Battle", "SeaFire$Empire", "SeaFire$EmpireReader", "SeaFire$Hand", "SeaFire$Life", "SeaFire$Part", "SeaFire$Plan", "SeaFire$PlanReader", "SeaFire$Reader", "SeaFire$Spring", "SeaFire$Tray", "SeaFire", "SeaFireModel", "SeaFireLaw", "java/lang/Math", "java/lang/Integer", "java/lang/Long"]
/-- what a field holds: 0 int, 1 long, 2 a reference, 3 a boolean -/
def ftab : List (List Nat) := [[2, 1], [0, 0, 0, 0, 0, 0, 0, 0, 0, 0, 2, 2, 2, 2], [0], [1, 0, 0, 0, 0], [0, 0, 0, 0, 0, 3, 0, 2], [1, 0, 0, 0], [2, 2, 2, 2, 2, 0, 0, 3], [2, 0], [2, 2, 2, 2, 0, 0, 0, 0, 0, 1, 0, 0, 0, 0], [1, 0, 0], [2, 0, 0], [0, 1, 1, 2, 2, 0, 2, 2, 2, 0, 0, 2, 2, 2, 0, 2, 2, 2, 3], [0, 0, 1, 1, 2, 2, 2, 2, 0, 0, 0, 0, 0, 0, 0, 0, 0, 0, 0, 1, 2, 2, 2, 2, 0, 0, 0, 2, 2, 3, 1, 0, 0, 2, 3, 3, 0, 0, 0, 0, 0, 0, 0]]
abbrev MInf : Type := MethodName × ByteArray × Nat × Option FieldType × Nat × Nat × (Nat × Nat × Nat × Nat)
set_option maxRecDepth 10000 in
def miT0 : List MInf := [(⟨"SeaFire", "<init>", "()V"⟩, prog_1_method_1_code, 2, none, 11, 7, (175, 174, 0, 150)),
  (⟨"SeaFire$Reader", "<init>", "()V"⟩, prog_10_method_1_code, 6, none, 8, 6, (185, 184, 0, 151)),
  (⟨"SeaFire$Reader", "isLetter", "(I)Z"⟩, prog_10_method_2_code, 1, some .boolean, 8, 1, (238, 237, 0, 151)),
  (⟨"SeaFire$Reader", "withLetter", "(JI)J"⟩, prog_10_method_6_code, 3, some .long, 8, 1, (241, 240, 0, 151)),
  (⟨"SeaFire$EmpireReader", "<init>", "()V"⟩, prog_4_method_1_code, 1, none, 2, 1, (302, 301, 0, 156)),
  (⟨"SeaFire$PlanReader", "<init>", "()V"⟩, prog_9_method_1_code, 1, none, 7, 1, (312, 311, 0, 157)),
  (⟨"SeaFire$Empire", "<init>", "()V"⟩, prog_3_method_1_code, 2, none, 1, 3, (325, 324, 0, 158)),
  (⟨"SeaFire$Plan", "<init>", "()V"⟩, prog_8_method_1_code, 1, none, 6, 1, (337, 336, 0, 159)),
  (⟨"SeaFire$Part", "<init>", "()V"⟩, prog_7_method_1_code, 1, none, 5, 1, (382, 381, 0, 160)),
  (⟨"SeaFire$Hand", "<init>", "()V"⟩, prog_5_method_1_code, 1, none, 3, 1, (409, 408, 0, 161)),
  (⟨"SeaFire$Spring", "<init>", "()V"⟩, prog_11_method_1_code, 1, none, 9, 1, (442, 441, 0, 162)),
  (⟨"SeaFire$Empire", "clear", "()V"⟩, prog_3_method_2_code, 1, none, 1, 2, (464, 462, 463, 158)),
  (⟨"SeaFire$Plan", "clear", "()V"⟩, prog_8_method_2_code, 1, none, 6, 1, (468, 466, 467, 159)),
  (⟨"SeaFire$Battle", "<init>", "()V"⟩, prog_2_method_1_code, 1, none, 0, 1, (541, 540, 0, 163)),
  (⟨"SeaFire$Life", "<init>", "()V"⟩, prog_6_method_1_code, 1, none, 4, 1, (558, 557, 0, 164)),
  (⟨"SeaFire$Tray", "<init>", "()V"⟩, prog_12_method_1_code, 1, none, 10, 1, (594, 593, 0, 165)),
  (⟨"SeaFire", "status", "()I"⟩, prog_1_method_2_code, 1, some .int, 11, 1, (670, 668, 669, 150)),
  (⟨"SeaFire", "top", "()J"⟩, prog_1_method_3_code, 1, some .long, 11, 1, (674, 672, 673, 150)),
  (⟨"SeaFire", "bottom", "()J"⟩, prog_1_method_4_code, 1, some .long, 11, 1, (678, 676, 677, 150)),
  (⟨"SeaFire", "tray", "(III)Z"⟩, prog_1_method_17_code, 4, some .boolean, 11, 3, (682, 680, 681, 150))]
set_option maxRecDepth 10000 in
def miT1 : List MInf := [(⟨"SeaFire", "isTray", "(I)Z"⟩, prog_1_method_14_code, 1, some .boolean, 11, 2, (685, 684, 0, 150)),
  (⟨"SeaFire", "within", "(JII)Z"⟩, prog_1_method_11_code, 4, some .boolean, 11, 1, (688, 687, 0, 150)),
  (⟨"SeaFire", "deny", "(I)Z"⟩, prog_1_method_9_code, 2, some .boolean, 11, 1, (692, 691, 0, 150)),
  (⟨"SeaFire$Tray", "lay", "(II)V"⟩, prog_12_method_3_code, 4, none, 10, 1, (696, 694, 695, 165)),
  (⟨"SeaFire", "grant", "()Z"⟩, prog_1_method_8_code, 1, some .boolean, 11, 1, (700, 699, 1, 150)),
  (⟨"SeaFire", "write", "(IIJ)Z"⟩, prog_1_method_18_code, 6, some .boolean, 11, 5, (704, 702, 703, 150)),
  (⟨"SeaFire", "placeTrouble", "(II)I"⟩, prog_1_method_16_code, 4, some .int, 11, 4, (708, 707, 2, 150)),
  (⟨"SeaFire", "trayTrouble", "(IJ)I"⟩, prog_1_method_15_code, 4, some .int, 11, 3, (712, 711, 3, 150)),
  (⟨"SeaFire$Tray", "isMissing", "()Z"⟩, prog_12_method_2_code, 1, some .boolean, 10, 1, (716, 714, 715, 165)),
  (⟨"SeaFire$Tray", "put", "(IJ)V"⟩, prog_12_method_4_code, 4, none, 10, 2, (720, 718, 719, 165)),
  (⟨"SeaFire$Tray", "cutToSort", "(J)J"⟩, prog_12_method_5_code, 3, some .long, 10, 1, (724, 723, 4, 165)),
  (⟨"SeaFire", "read", "(II)J"⟩, prog_1_method_19_code, 4, some .long, 11, 5, (728, 726, 727, 150)),
  (⟨"SeaFire", "refuse", "(I)I"⟩, prog_1_method_7_code, 2, some .int, 11, 1, (732, 731, 5, 150)),
  (⟨"SeaFire", "pour", "(IIIII)Z"⟩, prog_1_method_20_code, 8, some .boolean, 11, 3, (736, 734, 735, 150)),
  (⟨"SeaFire$Tray", "hasRun", "(II)Z"⟩, prog_12_method_6_code, 3, some .boolean, 10, 2, (740, 738, 739, 165)),
  (⟨"SeaFire", "feed", "(IIIII)I"⟩, prog_1_method_21_code, 6, some .int, 11, 2, (748, 746, 747, 150)),
  (⟨"SeaFire", "feedFour", "(I)V"⟩, prog_1_method_22_code, 3, none, 11, 1, (752, 751, 6, 150)),
  (⟨"SeaFire", "empire", "(I)I"⟩, prog_1_method_23_code, 3, some .int, 11, 8, (756, 754, 755, 150)),
  (⟨"SeaFire$Reader", "begin", "([BI)V"⟩, prog_10_method_7_code, 5, none, 8, 4, (760, 758, 759, 151)),
  (⟨"java/lang/Math", "min", "(II)I"⟩, prog_17_method_69_code, 2, some .int, 14, 1, (763, 762, 0, 168))]
set_option maxRecDepth 10000 in
def miT2 : List MInf := [(⟨"java/lang/Math", "max", "(II)I"⟩, prog_17_method_65_code, 2, some .int, 14, 1, (766, 765, 0, 168)),
  (⟨"SeaFire$Reader", "isBlank", "(I)Z"⟩, prog_10_method_4_code, 1, some .boolean, 8, 1, (769, 768, 0, 151)),
  (⟨"SeaFire$Reader", "scanToken", "([BI)I"⟩, prog_10_method_8_code, 4, some .int, 8, 3, (773, 772, 7, 151)),
  (⟨"SeaFire$Reader", "scanWord", "([BI)I"⟩, prog_10_method_9_code, 6, some .int, 8, 2, (777, 776, 8, 151)),
  (⟨"SeaFire$Reader", "isDigit", "(I)Z"⟩, prog_10_method_3_code, 1, some .boolean, 8, 1, (780, 779, 0, 151)),
  (⟨"SeaFire$Reader", "scanNumber", "([BI)I"⟩, prog_10_method_10_code, 5, some .int, 8, 2, (784, 783, 9, 151)),
  (⟨"SeaFire$Reader", "isSign", "(I)Z"⟩, prog_10_method_5_code, 1, some .boolean, 8, 1, (787, 786, 0, 151)),
  (⟨"SeaFire$Reader", "advance", "()V"⟩, prog_10_method_11_code, 2, none, 8, 2, (791, 789, 790, 151)),
  (⟨"SeaFire$EmpireReader", "parse", "(LSeaFire$Reader;LSeaFire$Empire;)Z"⟩, prog_4_method_2_code, 4, some .boolean, 2, 7, (795, 793, 794, 156)),
  (⟨"SeaFire$Reader", "atEnd", "()Z"⟩, prog_10_method_12_code, 1, some .boolean, 8, 1, (800, 798, 799, 151)),
  (⟨"SeaFire$EmpireReader", "parseThing", "(LSeaFire$Reader;LSeaFire$Empire;)Z"⟩, prog_4_method_3_code, 3, some .boolean, 2, 6, (804, 803, 10, 156)),
  (⟨"SeaFire$EmpireReader", "parseOnce", "(LSeaFire$Reader;LSeaFire$Empire;II)Z"⟩, prog_4_method_4_code, 6, some .boolean, 2, 5, (808, 807, 11, 156)),
  (⟨"SeaFire$Reader", "fail", "(I)Z"⟩, prog_10_method_15_code, 2, some .boolean, 8, 1, (812, 810, 811, 151)),
  (⟨"SeaFire$Reader", "takeWordAndNumber", "(III)Z"⟩, prog_10_method_21_code, 4, some .boolean, 8, 4, (816, 814, 815, 151)),
  (⟨"SeaFire$Reader", "takeWord", "(I)Z"⟩, prog_10_method_17_code, 2, some .boolean, 8, 3, (820, 818, 819, 151)),
  (⟨"SeaFire$Reader", "misplaced", "()Z"⟩, prog_10_method_16_code, 1, some .boolean, 8, 2, (824, 822, 823, 151)),
  (⟨"SeaFire$Reader", "takeNumber", "(II)Z"⟩, prog_10_method_20_code, 3, some .boolean, 8, 3, (829, 827, 828, 151)),
  (⟨"SeaFire$EmpireReader", "parsePart", "(LSeaFire$Reader;LSeaFire$Empire;)Z"⟩, prog_4_method_6_code, 4, some .boolean, 2, 5, (834, 833, 12, 156)),
  (⟨"SeaFire$EmpireReader", "checkNewName", "(LSeaFire$Reader;LSeaFire$Empire;)Z"⟩, prog_4_method_5_code, 3, some .boolean, 2, 3, (839, 838, 13, 156)),
  (⟨"SeaFire$Reader", "atName", "()Z"⟩, prog_10_method_13_code, 1, some .boolean, 8, 1, (843, 841, 842, 151))]
set_option maxRecDepth 10000 in
def miT3 : List MInf := [(⟨"SeaFire$Empire", "hasName", "(J)Z"⟩, prog_3_method_15_code, 4, some .boolean, 1, 2, (848, 846, 847, 158)),
  (⟨"SeaFire$Empire", "findPart", "(J)I"⟩, prog_3_method_13_code, 4, some .int, 1, 1, (852, 850, 851, 158)),
  (⟨"SeaFire$Empire", "findHand", "(J)I"⟩, prog_3_method_14_code, 4, some .int, 1, 1, (856, 854, 855, 158)),
  (⟨"SeaFire$Empire", "addPart", "(J)LSeaFire$Part;"⟩, prog_3_method_4_code, 4, some (.object "SeaFire$Part"), 1, 1, (860, 858, 859, 158)),
  (⟨"SeaFire$Reader", "takeOptional", "(IIII)Z"⟩, prog_10_method_22_code, 5, some .boolean, 8, 4, (864, 862, 863, 151)),
  (⟨"SeaFire$EmpireReader", "parseHand", "(LSeaFire$Reader;LSeaFire$Empire;)Z"⟩, prog_4_method_7_code, 4, some .boolean, 2, 5, (868, 867, 14, 156)),
  (⟨"SeaFire$Empire", "addHand", "(J)LSeaFire$Hand;"⟩, prog_3_method_5_code, 4, some (.object "SeaFire$Hand"), 1, 1, (872, 870, 871, 158)),
  (⟨"SeaFire$EmpireReader", "parseKnown", "(LSeaFire$Reader;LSeaFire$Empire;LSeaFire$Hand;)Z"⟩, prog_4_method_8_code, 6, some .boolean, 2, 4, (876, 875, 15, 156)),
  (⟨"SeaFire$Reader", "atSign", "(I)Z"⟩, prog_10_method_14_code, 2, some .boolean, 8, 1, (880, 878, 879, 151)),
  (⟨"SeaFire$Reader", "takeNameOf", "(I)Z"⟩, prog_10_method_23_code, 2, some .boolean, 8, 3, (885, 883, 884, 151)),
  (⟨"SeaFire$EmpireReader", "parseSpring", "(LSeaFire$Reader;LSeaFire$Empire;)Z"⟩, prog_4_method_9_code, 4, some .boolean, 2, 5, (890, 889, 16, 156)),
  (⟨"SeaFire$Empire", "addSpring", "(J)LSeaFire$Spring;"⟩, prog_3_method_6_code, 4, some (.object "SeaFire$Spring"), 1, 1, (894, 892, 893, 158)),
  (⟨"SeaFire$Reader", "takeSign", "(I)Z"⟩, prog_10_method_18_code, 2, some .boolean, 8, 3, (898, 896, 897, 151)),
  (⟨"SeaFire", "keepFault", "()V"⟩, prog_1_method_25_code, 1, none, 11, 1, (903, 902, 17, 150)),
  (⟨"SeaFire$Empire", "copyFrom", "(LSeaFire$Empire;)V"⟩, prog_3_method_3_code, 3, none, 1, 2, (907, 905, 906, 158)),
  (⟨"SeaFire$Part", "copyFrom", "(LSeaFire$Part;)V"⟩, prog_7_method_2_code, 2, none, 5, 1, (911, 909, 910, 160)),
  (⟨"SeaFire$Hand", "copyFrom", "(LSeaFire$Hand;)V"⟩, prog_5_method_2_code, 2, none, 3, 1, (915, 913, 914, 161)),
  (⟨"SeaFire$Spring", "copyFrom", "(LSeaFire$Spring;)V"⟩, prog_11_method_2_code, 2, none, 9, 1, (919, 917, 918, 162)),
  (⟨"SeaFire$Plan", "copyFrom", "(LSeaFire$Plan;)V"⟩, prog_8_method_3_code, 2, none, 6, 1, (923, 921, 922, 159)),
  (⟨"SeaFire", "answer", "(I)I"⟩, prog_1_method_5_code, 2, some .int, 11, 1, (928, 927, 18, 150))]
set_option maxRecDepth 10000 in
def miT4 : List MInf := [(⟨"SeaFire", "empires", "(I)I"⟩, prog_1_method_24_code, 3, some .int, 11, 8, (932, 930, 931, 150)),
  (⟨"SeaFire$PlanReader", "parse", "(LSeaFire$Reader;LSeaFire$Empire;LSeaFire$Plan;)Z"⟩, prog_9_method_2_code, 6, some .boolean, 7, 7, (937, 935, 936, 157)),
  (⟨"SeaFire$PlanReader", "parseEnd", "(LSeaFire$Reader;LSeaFire$Plan;)Z"⟩, prog_9_method_3_code, 4, some .boolean, 7, 3, (943, 942, 19, 157)),
  (⟨"SeaFire$Plan", "addRow", "(I)I"⟩, prog_8_method_4_code, 3, some .int, 6, 1, (949, 947, 948, 159)),
  (⟨"SeaFire$PlanReader", "parseStep", "(LSeaFire$Reader;LSeaFire$Empire;LSeaFire$Plan;)Z"⟩, prog_9_method_5_code, 7, some .boolean, 7, 6, (953, 952, 20, 157)),
  (⟨"SeaFire$PlanReader", "beginsStep", "(I)Z"⟩, prog_9_method_4_code, 1, some .boolean, 7, 2, (956, 955, 0, 157)),
  (⟨"SeaFire$PlanReader", "parseTeach", "(LSeaFire$Reader;LSeaFire$Empire;LSeaFire$Plan;I)Z"⟩, prog_9_method_8_code, 5, some .boolean, 7, 4, (962, 961, 21, 157)),
  (⟨"SeaFire$PlanReader", "parseTest", "(LSeaFire$Reader;LSeaFire$Empire;LSeaFire$Plan;I)Z"⟩, prog_9_method_9_code, 7, some .boolean, 7, 5, (969, 968, 22, 157)),
  (⟨"SeaFire$PlanReader", "parseComparing", "(LSeaFire$Reader;LSeaFire$Plan;I)Z"⟩, prog_9_method_10_code, 5, some .boolean, 7, 4, (973, 972, 23, 157)),
  (⟨"SeaFire$Reader", "takeComparing", "()Z"⟩, prog_10_method_19_code, 1, some .boolean, 8, 3, (977, 975, 976, 151)),
  (⟨"SeaFire$PlanReader", "parseOne", "(LSeaFire$Reader;LSeaFire$Empire;LSeaFire$Plan;I)Z"⟩, prog_9_method_6_code, 6, some .boolean, 7, 5, (982, 981, 24, 157)),
  (⟨"SeaFire$PlanReader", "takeOne", "(LSeaFire$Reader;LSeaFire$Empire;I)Z"⟩, prog_9_method_7_code, 4, some .boolean, 7, 4, (986, 985, 25, 157)),
  (⟨"SeaFire", "fault", "(I)I"⟩, prog_1_method_26_code, 2, some .int, 11, 1, (992, 990, 991, 150)),
  (⟨"SeaFire", "many", "(I)I"⟩, prog_1_method_27_code, 2, some .int, 11, 5, (996, 994, 995, 150)),
  (⟨"SeaFire$Empire", "living", "()I"⟩, prog_3_method_16_code, 3, some .int, 1, 1, (1000, 998, 999, 158)),
  (⟨"SeaFire$Empire", "knownAfter", "(I)I"⟩, prog_3_method_20_code, 5, some .int, 1, 3, (1004, 1002, 1003, 158)),
  (⟨"SeaFire$Empire", "yearsLeft", "(LSeaFire$Hand;)I"⟩, prog_3_method_18_code, 2, some .int, 1, 2, (1008, 1006, 1007, 158)),
  (⟨"SeaFire$Empire", "fadedWithin", "(I)I"⟩, prog_3_method_19_code, 4, some .int, 1, 1, (1013, 1011, 1012, 158)),
  (⟨"SeaFire$Empire", "isWholeAfter", "(I)Z"⟩, prog_3_method_21_code, 2, some .boolean, 1, 4, (1017, 1015, 1016, 158)),
  (⟨"SeaFire$Empire", "allParts", "()I"⟩, prog_3_method_11_code, 1, some .int, 1, 1, (1022, 1020, 1021, 158))]
set_option maxRecDepth 10000 in
def miT5 : List MInf := [(⟨"SeaFire", "answerIf", "(Z)I"⟩, prog_1_method_6_code, 2, some .int, 11, 2, (1026, 1025, 26, 150)),
  (⟨"SeaFire", "part", "(II)I"⟩, prog_1_method_28_code, 4, some .int, 11, 3, (1030, 1028, 1029, 150)),
  (⟨"SeaFire$Empire", "hasPart", "(I)Z"⟩, prog_3_method_7_code, 2, some .boolean, 1, 2, (1034, 1032, 1033, 158)),
  (⟨"SeaFire$Empire", "isWritten", "(I)Z"⟩, prog_3_method_17_code, 2, some .boolean, 1, 1, (1039, 1037, 1038, 158)),
  (⟨"SeaFire$Empire", "livingThatKnow", "(I)I"⟩, prog_3_method_35_code, 4, some .int, 1, 1, (1043, 1041, 1042, 158)),
  (⟨"SeaFire", "hand", "(II)I"⟩, prog_1_method_29_code, 4, some .int, 11, 3, (1047, 1045, 1046, 150)),
  (⟨"SeaFire$Empire", "hasHand", "(I)Z"⟩, prog_3_method_8_code, 2, some .boolean, 1, 2, (1051, 1049, 1050, 158)),
  (⟨"SeaFire", "spring", "(II)I"⟩, prog_1_method_30_code, 4, some .int, 11, 3, (1055, 1053, 1054, 150)),
  (⟨"SeaFire$Empire", "hasSpring", "(I)Z"⟩, prog_3_method_9_code, 2, some .boolean, 1, 2, (1059, 1057, 1058, 158)),
  (⟨"SeaFire", "copyKnown", "(I)I"⟩, prog_1_method_31_code, 4, some .int, 11, 4, (1063, 1061, 1062, 150)),
  (⟨"SeaFire", "year", "(I)I"⟩, prog_1_method_32_code, 2, some .int, 11, 5, (1067, 1065, 1066, 150)),
  (⟨"SeaFire$Empire", "hasTimeFor", "(I)Z"⟩, prog_3_method_25_code, 2, some .boolean, 1, 1, (1071, 1069, 1070, 158)),
  (⟨"SeaFire$Empire", "passYears", "(I)I"⟩, prog_3_method_26_code, 6, some .int, 1, 4, (1075, 1073, 1074, 158)),
  (⟨"SeaFire$Empire", "layToRest", "(LSeaFire$Hand;)V"⟩, prog_3_method_27_code, 3, none, 1, 3, (1079, 1078, 27, 158)),
  (⟨"SeaFire$Empire", "storeAfter", "(I)I"⟩, prog_3_method_22_code, 4, some .int, 1, 2, (1083, 1081, 1082, 158)),
  (⟨"SeaFire", "make", "(I)I"⟩, prog_1_method_33_code, 2, some .int, 11, 6, (1088, 1086, 1087, 150)),
  (⟨"SeaFire$Empire", "brew", "(I)Z"⟩, prog_3_method_29_code, 2, some .boolean, 1, 5, (1092, 1090, 1091, 158)),
  (⟨"SeaFire$Empire", "scourRust", "()V"⟩, prog_3_method_28_code, 2, none, 1, 1, (1097, 1096, 28, 158)),
  (⟨"SeaFire", "use", "()I"⟩, prog_1_method_34_code, 1, some .int, 11, 6, (1101, 1099, 1100, 150)),
  (⟨"SeaFire$Empire", "spend", "()Z"⟩, prog_3_method_30_code, 1, some .boolean, 1, 5, (1105, 1103, 1104, 158))]
set_option maxRecDepth 10000 in
def miT6 : List MInf := [(⟨"SeaFire", "teach", "(III)I"⟩, prog_1_method_35_code, 4, some .int, 11, 3, (1109, 1107, 1108, 150)),
  (⟨"SeaFire$Empire", "instruct", "(III)Z"⟩, prog_3_method_31_code, 7, some .boolean, 1, 2, (1113, 1111, 1112, 158)),
  (⟨"SeaFire", "note", "(IZ)Z"⟩, prog_1_method_36_code, 4, some .boolean, 11, 3, (1118, 1116, 1117, 150)),
  (⟨"SeaFire$Empire", "writeDown", "(I)Z"⟩, prog_3_method_32_code, 2, some .boolean, 1, 2, (1122, 1120, 1121, 158)),
  (⟨"SeaFire$Empire", "burnDown", "(I)Z"⟩, prog_3_method_33_code, 2, some .boolean, 1, 2, (1127, 1125, 1126, 158)),
  (⟨"SeaFire", "capture", "(I)I"⟩, prog_1_method_37_code, 2, some .int, 11, 3, (1131, 1129, 1130, 150)),
  (⟨"SeaFire$Empire", "seize", "(I)Z"⟩, prog_3_method_34_code, 2, some .boolean, 1, 1, (1135, 1133, 1134, 158)),
  (⟨"SeaFire", "hire", "(II)I"⟩, prog_1_method_38_code, 4, some .int, 11, 2, (1139, 1137, 1138, 150)),
  (⟨"SeaFire", "rule", "(II)Z"⟩, prog_1_method_39_code, 3, some .boolean, 11, 2, (1144, 1142, 1143, 150)),
  (⟨"SeaFire", "supply", "(IZ)I"⟩, prog_1_method_40_code, 3, some .int, 11, 2, (1148, 1146, 1147, 150)),
  (⟨"SeaFire", "leak", "(IZ)Z"⟩, prog_1_method_41_code, 3, some .boolean, 11, 3, (1152, 1150, 1151, 150)),
  (⟨"SeaFire", "knowers", "(I)I"⟩, prog_1_method_42_code, 2, some .int, 11, 3, (1156, 1154, 1155, 150)),
  (⟨"SeaFire", "knownBy", "(I)I"⟩, prog_1_method_43_code, 2, some .int, 11, 3, (1160, 1158, 1159, 150)),
  (⟨"SeaFire$Empire", "isHandSet", "(J)Z"⟩, prog_3_method_10_code, 3, some .boolean, 1, 2, (1164, 1162, 1163, 158)),
  (⟨"SeaFire$Empire", "allHands", "()I"⟩, prog_3_method_12_code, 1, some .int, 1, 1, (1168, 1166, 1167, 158)),
  (⟨"SeaFire$Empire", "knowledgeOf", "(I)I"⟩, prog_3_method_37_code, 4, some .int, 1, 1, (1172, 1170, 1171, 158)),
  (⟨"SeaFire", "sells", "(I)I"⟩, prog_1_method_44_code, 2, some .int, 11, 3, (1176, 1174, 1175, 150)),
  (⟨"SeaFire$Empire", "canSell", "(I)Z"⟩, prog_3_method_39_code, 2, some .boolean, 1, 2, (1180, 1178, 1179, 158)),
  (⟨"SeaFire", "loses", "(I)I"⟩, prog_1_method_45_code, 2, some .int, 11, 5, (1185, 1183, 1184, 150)),
  (⟨"SeaFire$Empire", "lostBy", "(I)I"⟩, prog_3_method_40_code, 2, some .int, 1, 4, (1189, 1187, 1188, 158))]
set_option maxRecDepth 10000 in
def miT7 : List MInf := [(⟨"SeaFire", "fewest", "()I"⟩, prog_1_method_46_code, 2, some .int, 11, 4, (1194, 1192, 1193, 150)),
  (⟨"SeaFire$Empire", "fewestSellers", "()I"⟩, prog_3_method_41_code, 5, some .int, 1, 3, (1198, 1196, 1197, 158)),
  (⟨"java/lang/Integer", "bitCount", "(I)I"⟩, prog_15_method_49_code, 1, some .int, 15, 1, (1201, 1200, 0, 169)),
  (⟨"SeaFire", "fewestSet", "()I"⟩, prog_1_method_47_code, 1, some .int, 11, 4, (1210, 1208, 1209, 150)),
  (⟨"SeaFire", "answerOrNothing", "(I)I"⟩, prog_1_method_10_code, 2, some .int, 11, 2, (1214, 1213, 29, 150)),
  (⟨"SeaFire", "bribe", "()I"⟩, prog_1_method_48_code, 2, some .int, 11, 4, (1218, 1216, 1217, 150)),
  (⟨"SeaFire$Empire", "cheapestSellers", "()I"⟩, prog_3_method_42_code, 4, some .int, 1, 3, (1222, 1220, 1221, 158)),
  (⟨"SeaFire$Empire", "isCheaper", "(II)Z"⟩, prog_3_method_43_code, 5, some .boolean, 1, 2, (1226, 1225, 30, 158)),
  (⟨"SeaFire$Empire", "priceOf", "(I)I"⟩, prog_3_method_38_code, 4, some .int, 1, 1, (1230, 1228, 1229, 158)),
  (⟨"SeaFire", "bribeSet", "()I"⟩, prog_1_method_49_code, 1, some .int, 11, 4, (1235, 1233, 1234, 150)),
  (⟨"SeaFire", "frail", "()I"⟩, prog_1_method_50_code, 2, some .int, 11, 6, (1239, 1237, 1238, 150)),
  (⟨"SeaFire$Empire", "frailestPart", "()I"⟩, prog_3_method_45_code, 4, some .int, 1, 5, (1243, 1241, 1242, 158)),
  (⟨"SeaFire$Empire", "countThatKnow", "(I)I"⟩, prog_3_method_36_code, 2, some .int, 1, 2, (1248, 1246, 1247, 158)),
  (⟨"SeaFire", "frailPart", "()I"⟩, prog_1_method_51_code, 1, some .int, 11, 6, (1253, 1251, 1252, 150)),
  (⟨"SeaFire", "safe", "(II)I"⟩, prog_1_method_52_code, 5, some .int, 11, 6, (1257, 1255, 1256, 150)),
  (⟨"SeaFire$Empire", "canBeSoldBy", "(I)Z"⟩, prog_3_method_44_code, 3, some .boolean, 1, 4, (1261, 1259, 1260, 158)),
  (⟨"SeaFire", "lesson", "(I)I"⟩, prog_1_method_53_code, 2, some .int, 11, 7, (1266, 1264, 1265, 150)),
  (⟨"SeaFire$Empire", "bestLesson", "(I)I"⟩, prog_3_method_47_code, 7, some .int, 1, 6, (1270, 1268, 1269, 158)),
  (⟨"SeaFire$Empire", "isGoodLesson", "(LSeaFire$Hand;II)Z"⟩, prog_3_method_48_code, 6, some .boolean, 1, 5, (1274, 1273, 31, 158)),
  (⟨"SeaFire$Empire", "thinnest", "()I"⟩, prog_3_method_46_code, 3, some .int, 1, 3, (1278, 1277, 32, 158))]
set_option maxRecDepth 10000 in
def miT8 : List MInf := [(⟨"SeaFire", "lostIn", "(I)I"⟩, prog_1_method_54_code, 3, some .int, 11, 4, (1283, 1281, 1282, 150)),
  (⟨"SeaFire", "wholeFor", "()I"⟩, prog_1_method_55_code, 2, some .int, 11, 5, (1287, 1285, 1286, 150)),
  (⟨"SeaFire", "knownIn", "(I)I"⟩, prog_1_method_56_code, 2, some .int, 11, 4, (1291, 1289, 1290, 150)),
  (⟨"SeaFire", "storeIn", "(I)I"⟩, prog_1_method_57_code, 2, some .int, 11, 3, (1295, 1293, 1294, 150)),
  (⟨"SeaFire", "pace", "()I"⟩, prog_1_method_58_code, 1, some .int, 11, 3, (1300, 1298, 1299, 150)),
  (⟨"SeaFire$Empire", "yearsBetweenUses", "()I"⟩, prog_3_method_23_code, 3, some .int, 1, 2, (1304, 1302, 1303, 158)),
  (⟨"SeaFire", "jarsFor", "(I)I"⟩, prog_1_method_59_code, 2, some .int, 11, 4, (1308, 1306, 1307, 150)),
  (⟨"SeaFire$Empire", "usesNeeded", "(I)I"⟩, prog_3_method_24_code, 5, some .int, 1, 3, (1312, 1310, 1311, 158)),
  (⟨"SeaFire", "dies", "(I)I"⟩, prog_1_method_60_code, 3, some .int, 11, 3, (1317, 1315, 1316, 150)),
  (⟨"SeaFire", "battle", "(IIII)Z"⟩, prog_1_method_63_code, 6, some .boolean, 11, 6, (1322, 1320, 1321, 150)),
  (⟨"SeaFire", "battleTrouble", "(IIII)I"⟩, prog_1_method_62_code, 7, some .int, 11, 5, (1326, 1325, 33, 150)),
  (⟨"SeaFire", "windTrouble", "(II)I"⟩, prog_1_method_61_code, 5, some .int, 11, 4, (1330, 1329, 34, 150)),
  (⟨"SeaFire$Battle", "foresee", "([JII)V"⟩, prog_2_method_2_code, 6, none, 0, 4, (1334, 1332, 1333, 163)),
  (⟨"SeaFire$Battle", "foreseeTurn", "(J)V"⟩, prog_2_method_3_code, 5, none, 0, 3, (1338, 1337, 35, 163)),
  (⟨"SeaFire$Battle", "kept", "(II)J"⟩, prog_2_method_4_code, 3, some .long, 0, 1, (1342, 1340, 1341, 163)),
  (⟨"SeaFire$Battle", "thrown", "(JII)J"⟩, prog_2_method_5_code, 5, some .long, 0, 2, (1347, 1345, 1346, 163)),
  (⟨"java/lang/Math", "max", "(JJ)J"⟩, prog_17_method_66_code, 4, some .long, 14, 1, (1350, 1349, 0, 168)),
  (⟨"SeaFire", "tellFraction", "(JJ)V"⟩, prog_1_method_12_code, 7, none, 11, 2, (1354, 1353, 36, 150)),
  (⟨"SeaFire", "commonDivisor", "(JJ)J"⟩, prog_1_method_13_code, 7, some .long, 11, 1, (1357, 1356, 0, 150)),
  (⟨"SeaFire", "throwFirst", "(IIII)I"⟩, prog_1_method_64_code, 8, some .int, 11, 6, (1361, 1359, 1360, 150))]
set_option maxRecDepth 10000 in
def miT9 : List MInf := [(⟨"SeaFire", "jarsToWin", "(IIII)I"⟩, prog_1_method_65_code, 7, some .int, 11, 6, (1367, 1365, 1366, 150)),
  (⟨"SeaFire", "tries", "(I)J"⟩, prog_1_method_66_code, 2, some .long, 11, 2, (1372, 1370, 1371, 150)),
  (⟨"SeaFire$Empire", "triesOneByOne", "()I"⟩, prog_3_method_49_code, 3, some .int, 1, 1, (1376, 1374, 1375, 158)),
  (⟨"SeaFire$Empire", "triesAtOnce", "(I)I"⟩, prog_3_method_50_code, 4, some .int, 1, 1, (1380, 1378, 1379, 158)),
  (⟨"SeaFire", "worstLoss", "()I"⟩, prog_1_method_67_code, 1, some .int, 11, 3, (1384, 1382, 1383, 150)),
  (⟨"SeaFire$Empire", "worstToLose", "()I"⟩, prog_3_method_51_code, 5, some .int, 1, 2, (1388, 1386, 1387, 158)),
  (⟨"SeaFire", "needed", "(II)I"⟩, prog_1_method_69_code, 4, some .int, 11, 5, (1393, 1391, 1392, 150)),
  (⟨"SeaFire", "toldTrouble", "(II)I"⟩, prog_1_method_68_code, 6, some .int, 11, 4, (1397, 1396, 37, 150)),
  (⟨"SeaFire$Empire", "waysNeeded", "([JI)J"⟩, prog_3_method_52_code, 8, some .long, 1, 2, (1402, 1400, 1401, 158)),
  (⟨"SeaFire$Empire", "waysWithin", "(JI)J"⟩, prog_3_method_53_code, 6, some .long, 1, 1, (1406, 1405, 0, 158)),
  (⟨"java/lang/Long", "bitCount", "(J)I"⟩, prog_16_method_50_code, 2, some .int, 16, 1, (1412, 1411, 0, 170)),
  (⟨"SeaFire", "sure", "(II)I"⟩, prog_1_method_70_code, 6, some .int, 11, 5, (1419, 1417, 1418, 150)),
  (⟨"SeaFire$Empire", "commonParts", "(J)I"⟩, prog_3_method_54_code, 5, some .int, 1, 1, (1423, 1421, 1422, 158)),
  (⟨"SeaFire", "ask", "(II)I"⟩, prog_1_method_71_code, 6, some .int, 11, 5, (1427, 1425, 1426, 150)),
  (⟨"SeaFire$Empire", "bestToAsk", "(J)I"⟩, prog_3_method_55_code, 8, some .int, 1, 2, (1431, 1429, 1430, 158)),
  (⟨"SeaFire", "live", "(I)I"⟩, prog_1_method_72_code, 2, some .int, 11, 8, (1436, 1434, 1435, 150)),
  (⟨"SeaFire$Life", "pursue", "(LSeaFire$Empire;I)V"⟩, prog_6_method_2_code, 6, none, 4, 7, (1440, 1438, 1439, 164)),
  (⟨"SeaFire$Life", "behindEnd", "(LSeaFire$Plan;I)I"⟩, prog_6_method_4_code, 4, some .int, 4, 1, (1445, 1444, 38, 164)),
  (⟨"SeaFire$Life", "isTurning", "(I)Z"⟩, prog_6_method_3_code, 1, some .boolean, 4, 1, (1448, 1447, 0, 164)),
  (⟨"SeaFire$Life", "behindTurning", "(LSeaFire$Empire;I)I"⟩, prog_6_method_5_code, 5, some .int, 4, 6, (1452, 1451, 39, 164))]
set_option maxRecDepth 10000 in
def miT10 : List MInf := [(⟨"SeaFire$Life", "holds", "(LSeaFire$Empire;I)Z"⟩, prog_6_method_6_code, 3, some .boolean, 4, 5, (1455, 1454, 0, 164)),
  (⟨"SeaFire$Life", "compares", "(III)Z"⟩, prog_6_method_7_code, 3, some .boolean, 4, 1, (1460, 1459, 0, 164)),
  (⟨"SeaFire$Life", "achieve", "(LSeaFire$Empire;I)Z"⟩, prog_6_method_8_code, 5, some .boolean, 4, 6, (1464, 1463, 40, 164)),
  (⟨"SeaFire$Life", "age", "(LSeaFire$Empire;I)Z"⟩, prog_6_method_9_code, 3, some .boolean, 4, 5, (1468, 1467, 41, 164)),
  (⟨"SeaFire$Life", "countMade", "(ZI)Z"⟩, prog_6_method_10_code, 3, some .boolean, 4, 1, (1476, 1475, 42, 164)),
  (⟨"SeaFire$Life", "countGone", "(Z)Z"⟩, prog_6_method_11_code, 2, some .boolean, 4, 1, (1485, 1484, 43, 164)),
  (⟨"SeaFire$Life", "draw", "(I)I"⟩, prog_6_method_12_code, 2, some .int, 4, 1, (1489, 1488, 44, 164)),
  (⟨"SeaFire", "lived", "(I)I"⟩, prog_1_method_73_code, 2, some .int, 11, 3, (1494, 1492, 1493, 150)),
  (⟨"SeaFire", "mean", "(II)Z"⟩, prog_1_method_74_code, 5, some .boolean, 11, 8, (1498, 1496, 1497, 150)),
  (⟨"SeaFire", "mark", "()I"⟩, prog_1_method_75_code, 1, some .int, 11, 3, (1502, 1500, 1501, 150)),
  (⟨"SeaFire", "back", "()I"⟩, prog_1_method_76_code, 1, some .int, 11, 3, (1506, 1504, 1505, 150)),
  (⟨"SeaFireModel", "<init>", "()V"⟩, prog_14_method_1_code, 2, none, 12, 2, (1511, 1510, 0, 166)),
  (⟨"SeaFireModel", "empties", "(I)V"⟩, prog_14_method_58_code, 4, none, 12, 1, (1516, 1515, 45, 166)),
  (⟨"SeaFireModel", "status", "()I"⟩, prog_14_method_3_code, 1, some .int, 12, 1, (1650, 1648, 1649, 166)),
  (⟨"SeaFireModel", "top", "()J"⟩, prog_14_method_4_code, 1, some .long, 12, 1, (1654, 1652, 1653, 166)),
  (⟨"SeaFireModel", "bottom", "()J"⟩, prog_14_method_5_code, 1, some .long, 12, 1, (1658, 1656, 1657, 166)),
  (⟨"SeaFireModel", "tray", "(III)Z"⟩, prog_14_method_11_code, 5, some .boolean, 12, 2, (1662, 1660, 1661, 166)),
  (⟨"SeaFireModel", "no", "(I)Z"⟩, prog_14_method_7_code, 2, some .boolean, 12, 1, (1666, 1665, 46, 166)),
  (⟨"SeaFireModel", "write", "(IIJ)Z"⟩, prog_14_method_14_code, 5, some .boolean, 12, 3, (1670, 1668, 1669, 166)),
  (⟨"SeaFireModel", "placed", "(II)I"⟩, prog_14_method_13_code, 4, some .int, 12, 2, (1674, 1673, 47, 166))]
set_option maxRecDepth 10000 in
def miT11 : List MInf := [(⟨"SeaFireModel", "trayed", "(I)I"⟩, prog_14_method_12_code, 2, some .int, 12, 1, (1678, 1677, 48, 166)),
  (⟨"SeaFireModel", "cut", "(IJ)J"⟩, prog_14_method_10_code, 3, some .long, 12, 1, (1681, 1680, 0, 166)),
  (⟨"SeaFireModel", "read", "(II)J"⟩, prog_14_method_15_code, 3, some .long, 12, 3, (1685, 1683, 1684, 166)),
  (⟨"SeaFireModel", "pour", "(IIIII)Z"⟩, prog_14_method_16_code, 9, some .boolean, 12, 2, (1690, 1688, 1689, 166)),
  (⟨"SeaFireModel", "feed", "(IIIII)I"⟩, prog_14_method_53_code, 6, some .int, 12, 2, (1694, 1692, 1693, 166)),
  (⟨"SeaFireModel", "lay", "(I)V"⟩, prog_14_method_54_code, 3, none, 12, 1, (1698, 1697, 49, 166)),
  (⟨"SeaFireModel", "fault", "(I)I"⟩, prog_14_method_57_code, 2, some .int, 12, 1, (1702, 1700, 1701, 166)),
  (⟨"SeaFireModel", "empire", "(I)I"⟩, prog_14_method_71_code, 2, some .int, 12, 9, (1706, 1704, 1705, 166)),
  (⟨"SeaFireModel", "starts", "(II)Z"⟩, prog_14_method_55_code, 3, some .boolean, 12, 3, (1710, 1709, 50, 166)),
  (⟨"SeaFireModel", "advance", "()V"⟩, prog_14_method_25_code, 2, none, 12, 2, (1714, 1713, 51, 166)),
  (⟨"SeaFireModel", "look2", "(I)I"⟩, prog_14_method_21_code, 2, some .int, 12, 1, (1718, 1717, 52, 166)),
  (⟨"SeaFireModel", "isLetter", "(I)Z"⟩, prog_14_method_22_code, 1, some .boolean, 12, 1, (1721, 1720, 0, 166)),
  (⟨"SeaFireModel", "isDigit", "(I)Z"⟩, prog_14_method_23_code, 1, some .boolean, 12, 1, (1726, 1725, 0, 166)),
  (⟨"SeaFireModel", "isSignByte", "(I)Z"⟩, prog_14_method_24_code, 2, some .boolean, 12, 1, (1730, 1729, 53, 166)),
  (⟨"SeaFireModel", "readOne", "()V"⟩, prog_14_method_70_code, 1, none, 12, 8, (1734, 1733, 54, 166)),
  (⟨"SeaFireModel", "isLife", "()Z"⟩, prog_14_method_29_code, 1, some .boolean, 12, 2, (1738, 1737, 55, 166)),
  (⟨"SeaFireModel", "spelled", "(IIIIII)J"⟩, prog_14_method_27_code, 8, some .long, 12, 1, (1741, 1740, 0, 166)),
  (⟨"SeaFireModel", "isWord", "(J)Z"⟩, prog_14_method_28_code, 3, some .boolean, 12, 1, (1745, 1744, 56, 166)),
  (⟨"SeaFireModel", "readOnce", "(III)V"⟩, prog_14_method_65_code, 4, none, 12, 4, (1749, 1748, 57, 166)),
  (⟨"SeaFireModel", "has", "(II)Z"⟩, prog_14_method_19_code, 2, some .boolean, 12, 1, (1752, 1751, 0, 166))]
set_option maxRecDepth 10000 in
def miT12 : List MInf := [(⟨"SeaFireModel", "fail", "(II)V"⟩, prog_14_method_47_code, 3, none, 12, 1, (1756, 1755, 58, 166)),
  (⟨"SeaFireModel", "count", "(II)I"⟩, prog_14_method_50_code, 4, some .int, 12, 3, (1760, 1759, 59, 166)),
  (⟨"SeaFireModel", "amiss", "()V"⟩, prog_14_method_48_code, 1, none, 12, 2, (1764, 1763, 60, 166)),
  (⟨"SeaFireModel", "isIn", "(JJJ)Z"⟩, prog_14_method_8_code, 6, some .boolean, 12, 1, (1767, 1766, 0, 166)),
  (⟨"SeaFireModel", "isBorder", "()Z"⟩, prog_14_method_30_code, 1, some .boolean, 12, 2, (1771, 1770, 61, 166)),
  (⟨"SeaFireModel", "testWord", "()I"⟩, prog_14_method_43_code, 1, some .int, 12, 2, (1775, 1774, 62, 166)),
  (⟨"SeaFireModel", "isPart", "()Z"⟩, prog_14_method_31_code, 1, some .boolean, 12, 2, (1779, 1778, 63, 166)),
  (⟨"SeaFireModel", "readPartOf", "()V"⟩, prog_14_method_66_code, 5, none, 12, 6, (1783, 1782, 64, 166)),
  (⟨"SeaFireModel", "readNew", "(II)I"⟩, prog_14_method_62_code, 4, some .int, 12, 5, (1787, 1786, 65, 166)),
  (⟨"SeaFireModel", "isName", "()Z"⟩, prog_14_method_46_code, 1, some .boolean, 12, 4, (1791, 1790, 66, 166)),
  (⟨"SeaFireModel", "isKept", "()Z"⟩, prog_14_method_45_code, 1, some .boolean, 12, 3, (1795, 1794, 67, 166)),
  (⟨"SeaFireModel", "isFades", "()Z"⟩, prog_14_method_32_code, 1, some .boolean, 12, 2, (1799, 1798, 68, 166)),
  (⟨"SeaFireModel", "isWays", "()Z"⟩, prog_14_method_33_code, 1, some .boolean, 12, 2, (1803, 1802, 69, 166)),
  (⟨"SeaFireModel", "isWritten", "()Z"⟩, prog_14_method_34_code, 1, some .boolean, 12, 2, (1807, 1806, 70, 166)),
  (⟨"SeaFireModel", "isHand", "()Z"⟩, prog_14_method_35_code, 1, some .boolean, 12, 2, (1812, 1811, 71, 166)),
  (⟨"SeaFireModel", "isAge", "()Z"⟩, prog_14_method_36_code, 1, some .boolean, 12, 2, (1816, 1815, 72, 166)),
  (⟨"SeaFireModel", "isPrice", "()Z"⟩, prog_14_method_37_code, 1, some .boolean, 12, 2, (1820, 1819, 73, 166)),
  (⟨"SeaFireModel", "isKnows", "()Z"⟩, prog_14_method_38_code, 1, some .boolean, 12, 2, (1824, 1823, 74, 166)),
  (⟨"SeaFireModel", "isSpring", "()Z"⟩, prog_14_method_39_code, 1, some .boolean, 12, 2, (1828, 1827, 75, 166)),
  (⟨"SeaFireModel", "isAt", "()Z"⟩, prog_14_method_40_code, 1, some .boolean, 12, 2, (1832, 1831, 76, 166))]
set_option maxRecDepth 10000 in
def miT13 : List MInf := [(⟨"SeaFireModel", "isGives", "()Z"⟩, prog_14_method_41_code, 1, some .boolean, 12, 2, (1836, 1835, 77, 166)),
  (⟨"SeaFireModel", "stepWord", "()I"⟩, prog_14_method_42_code, 1, some .int, 12, 2, (1840, 1839, 78, 166)),
  (⟨"SeaFireModel", "isEnd", "()Z"⟩, prog_14_method_44_code, 1, some .boolean, 12, 2, (1845, 1844, 79, 166)),
  (⟨"SeaFireModel", "isTaken", "()Z"⟩, prog_14_method_61_code, 1, some .boolean, 12, 3, (1849, 1848, 80, 166)),
  (⟨"SeaFireModel", "named", "(II)I"⟩, prog_14_method_60_code, 4, some .int, 12, 2, (1853, 1852, 81, 166)),
  (⟨"SeaFireModel", "start", "(I)I"⟩, prog_14_method_59_code, 1, some .int, 12, 1, (1856, 1855, 0, 166)),
  (⟨"SeaFireModel", "perhaps", "(Z)Z"⟩, prog_14_method_52_code, 2, some .boolean, 12, 3, (1860, 1859, 82, 166)),
  (⟨"SeaFireModel", "readHand", "()V"⟩, prog_14_method_68_code, 5, none, 12, 7, (1864, 1863, 83, 166)),
  (⟨"SeaFireModel", "behindWord", "(ZII)I"⟩, prog_14_method_51_code, 4, some .int, 12, 4, (1868, 1867, 84, 166)),
  (⟨"SeaFireModel", "must", "(Z)V"⟩, prog_14_method_49_code, 2, none, 12, 3, (1872, 1871, 85, 166)),
  (⟨"SeaFireModel", "readParts", "()I"⟩, prog_14_method_67_code, 3, some .int, 12, 6, (1876, 1875, 86, 166)),
  (⟨"SeaFireModel", "told", "(II)I"⟩, prog_14_method_63_code, 4, some .int, 12, 5, (1880, 1879, 87, 166)),
  (⟨"SeaFireModel", "readSpring", "()V"⟩, prog_14_method_69_code, 2, none, 12, 6, (1885, 1884, 88, 166)),
  (⟨"SeaFireModel", "isSign", "(I)Z"⟩, prog_14_method_26_code, 2, some .boolean, 12, 1, (1889, 1888, 89, 166)),
  (⟨"SeaFireModel", "isWell", "()Z"⟩, prog_14_method_56_code, 1, some .boolean, 12, 2, (1893, 1892, 90, 166)),
  (⟨"SeaFireModel", "copy", "(II)V"⟩, prog_14_method_171_code, 4, none, 12, 1, (1897, 1896, 91, 166)),
  (⟨"SeaFireModel", "empires", "(I)I"⟩, prog_14_method_76_code, 3, some .int, 12, 10, (1901, 1899, 1900, 166)),
  (⟨"SeaFireModel", "readStep", "(I)V"⟩, prog_14_method_75_code, 5, none, 12, 9, (1905, 1904, 92, 166)),
  (⟨"SeaFireModel", "readRest", "(I)V"⟩, prog_14_method_74_code, 3, none, 12, 8, (1909, 1908, 93, 166)),
  (⟨"SeaFireModel", "readTeach", "(I)V"⟩, prog_14_method_73_code, 2, none, 12, 7, (1913, 1912, 94, 166))]
set_option maxRecDepth 10000 in
def miT14 : List MInf := [(⟨"SeaFireModel", "readTold", "(II)I"⟩, prog_14_method_64_code, 4, some .int, 12, 6, (1917, 1916, 95, 166)),
  (⟨"SeaFireModel", "readTest", "(I)V"⟩, prog_14_method_72_code, 3, none, 12, 7, (1921, 1920, 96, 166)),
  (⟨"SeaFireModel", "many", "(I)I"⟩, prog_14_method_88_code, 2, some .int, 12, 5, (1925, 1923, 1924, 166)),
  (⟨"SeaFireModel", "refuse", "(I)I"⟩, prog_14_method_6_code, 2, some .int, 12, 1, (1930, 1929, 97, 166)),
  (⟨"SeaFireModel", "living", "()I"⟩, prog_14_method_81_code, 3, some .int, 12, 2, (1934, 1933, 98, 166)),
  (⟨"SeaFireModel", "lives", "(I)Z"⟩, prog_14_method_80_code, 2, some .boolean, 12, 1, (1938, 1937, 99, 166)),
  (⟨"SeaFireModel", "knownNow", "()I"⟩, prog_14_method_85_code, 1, some .int, 12, 3, (1942, 1941, 100, 166)),
  (⟨"SeaFireModel", "written", "()I"⟩, prog_14_method_83_code, 3, some .int, 12, 1, (1946, 1945, 101, 166)),
  (⟨"SeaFireModel", "knownTo", "(I)I"⟩, prog_14_method_84_code, 4, some .int, 12, 2, (1950, 1949, 102, 166)),
  (⟨"SeaFireModel", "isWhole", "()Z"⟩, prog_14_method_86_code, 1, some .boolean, 12, 4, (1954, 1953, 103, 166)),
  (⟨"SeaFireModel", "allParts", "()I"⟩, prog_14_method_82_code, 1, some .int, 12, 1, (1958, 1957, 104, 166)),
  (⟨"SeaFireModel", "part", "(II)I"⟩, prog_14_method_89_code, 3, some .int, 12, 3, (1962, 1960, 1961, 166)),
  (⟨"SeaFireModel", "isPartAt", "(I)Z"⟩, prog_14_method_77_code, 2, some .boolean, 12, 2, (1966, 1965, 105, 166)),
  (⟨"SeaFireModel", "knowersOf", "(I)I"⟩, prog_14_method_87_code, 4, some .int, 12, 2, (1971, 1970, 106, 166)),
  (⟨"SeaFireModel", "hand", "(II)I"⟩, prog_14_method_90_code, 3, some .int, 12, 3, (1975, 1973, 1974, 166)),
  (⟨"SeaFireModel", "isHandAt", "(I)Z"⟩, prog_14_method_78_code, 2, some .boolean, 12, 2, (1979, 1978, 107, 166)),
  (⟨"SeaFireModel", "spring", "(II)I"⟩, prog_14_method_92_code, 3, some .int, 12, 3, (1984, 1982, 1983, 166)),
  (⟨"SeaFireModel", "isSpringAt", "(I)Z"⟩, prog_14_method_79_code, 2, some .boolean, 12, 2, (1988, 1987, 108, 166)),
  (⟨"SeaFireModel", "isOurs", "(I)Z"⟩, prog_14_method_91_code, 2, some .boolean, 12, 1, (1993, 1992, 109, 166)),
  (⟨"SeaFireModel", "copyKnown", "(I)I"⟩, prog_14_method_93_code, 3, some .int, 12, 3, (1997, 1995, 1996, 166))]
set_option maxRecDepth 10000 in
def miT15 : List MInf := [(⟨"SeaFireModel", "isTray", "(I)Z"⟩, prog_14_method_18_code, 2, some .boolean, 12, 2, (2001, 2000, 110, 166)),
  (⟨"SeaFireModel", "year", "(I)I"⟩, prog_14_method_96_code, 4, some .int, 12, 4, (2005, 2003, 2004, 166)),
  (⟨"SeaFireModel", "goesYear", "()I"⟩, prog_14_method_94_code, 3, some .int, 12, 3, (2010, 2009, 111, 166)),
  (⟨"SeaFireModel", "rusts", "(I)V"⟩, prog_14_method_95_code, 3, none, 12, 2, (2015, 2014, 112, 166)),
  (⟨"SeaFireModel", "make", "(I)I"⟩, prog_14_method_99_code, 2, some .int, 12, 6, (2019, 2017, 2018, 166)),
  (⟨"SeaFireModel", "makes", "(I)Z"⟩, prog_14_method_98_code, 2, some .boolean, 12, 5, (2024, 2023, 113, 166)),
  (⟨"SeaFireModel", "used", "()V"⟩, prog_14_method_97_code, 2, none, 12, 1, (2028, 2027, 114, 166)),
  (⟨"SeaFireModel", "use", "()I"⟩, prog_14_method_101_code, 1, some .int, 12, 6, (2032, 2030, 2031, 166)),
  (⟨"SeaFireModel", "uses", "()Z"⟩, prog_14_method_100_code, 1, some .boolean, 12, 5, (2036, 2035, 115, 166)),
  (⟨"SeaFireModel", "teach", "(III)I"⟩, prog_14_method_103_code, 4, some .int, 12, 3, (2040, 2038, 2039, 166)),
  (⟨"SeaFireModel", "teaches", "(III)Z"⟩, prog_14_method_102_code, 4, some .boolean, 12, 2, (2044, 2043, 116, 166)),
  (⟨"SeaFireModel", "note", "(IZ)Z"⟩, prog_14_method_105_code, 3, some .boolean, 12, 4, (2048, 2046, 2047, 166)),
  (⟨"SeaFireModel", "notes", "(IZ)Z"⟩, prog_14_method_104_code, 3, some .boolean, 12, 3, (2052, 2051, 117, 166)),
  (⟨"SeaFireModel", "capture", "(I)I"⟩, prog_14_method_107_code, 2, some .int, 12, 3, (2056, 2054, 2055, 166)),
  (⟨"SeaFireModel", "captures", "(I)Z"⟩, prog_14_method_106_code, 2, some .boolean, 12, 2, (2060, 2059, 118, 166)),
  (⟨"SeaFireModel", "hire", "(II)I"⟩, prog_14_method_108_code, 4, some .int, 12, 2, (2064, 2062, 2063, 166)),
  (⟨"SeaFireModel", "rule", "(II)Z"⟩, prog_14_method_109_code, 4, some .boolean, 12, 2, (2068, 2066, 2067, 166)),
  (⟨"SeaFireModel", "supply", "(IZ)I"⟩, prog_14_method_110_code, 4, some .int, 12, 2, (2073, 2071, 2072, 166)),
  (⟨"SeaFireModel", "leak", "(IZ)Z"⟩, prog_14_method_111_code, 3, some .boolean, 12, 3, (2078, 2076, 2077, 166)),
  (⟨"SeaFireModel", "knowers", "(I)I"⟩, prog_14_method_114_code, 2, some .int, 12, 3, (2082, 2080, 2081, 166))]
set_option maxRecDepth 10000 in
def miT16 : List MInf := [(⟨"SeaFireModel", "knownBy", "(I)I"⟩, prog_14_method_115_code, 2, some .int, 12, 3, (2086, 2084, 2085, 166)),
  (⟨"SeaFireModel", "areHands", "(I)Z"⟩, prog_14_method_113_code, 2, some .boolean, 12, 2, (2090, 2089, 119, 166)),
  (⟨"SeaFireModel", "allHands", "()I"⟩, prog_14_method_112_code, 1, some .int, 12, 1, (2094, 2093, 120, 166)),
  (⟨"SeaFireModel", "sells", "(I)I"⟩, prog_14_method_117_code, 2, some .int, 12, 4, (2098, 2096, 2097, 166)),
  (⟨"SeaFireModel", "canSell", "(I)Z"⟩, prog_14_method_116_code, 2, some .boolean, 12, 3, (2102, 2101, 121, 166)),
  (⟨"SeaFireModel", "loses", "(I)I"⟩, prog_14_method_119_code, 2, some .int, 12, 5, (2106, 2104, 2105, 166)),
  (⟨"SeaFireModel", "lostBy", "(I)I"⟩, prog_14_method_118_code, 2, some .int, 12, 4, (2110, 2109, 122, 166)),
  (⟨"SeaFireModel", "fewest", "()I"⟩, prog_14_method_122_code, 2, some .int, 12, 5, (2114, 2112, 2113, 166)),
  (⟨"SeaFireModel", "bestSellers", "(Z)I"⟩, prog_14_method_121_code, 6, some .int, 12, 4, (2118, 2117, 123, 166)),
  (⟨"SeaFireModel", "pricesOf", "(I)I"⟩, prog_14_method_120_code, 4, some .int, 12, 2, (2122, 2121, 124, 166)),
  (⟨"SeaFireModel", "sizeOf", "(I)I"⟩, prog_14_method_20_code, 3, some .int, 12, 2, (2125, 2124, 0, 166)),
  (⟨"SeaFireModel", "fewestSet", "()I"⟩, prog_14_method_123_code, 2, some .int, 12, 5, (2129, 2127, 2128, 166)),
  (⟨"SeaFireModel", "bribe", "()I"⟩, prog_14_method_124_code, 2, some .int, 12, 5, (2133, 2131, 2132, 166)),
  (⟨"SeaFireModel", "bribeSet", "()I"⟩, prog_14_method_125_code, 2, some .int, 12, 5, (2137, 2135, 2136, 166)),
  (⟨"SeaFireModel", "frail", "()I"⟩, prog_14_method_127_code, 2, some .int, 12, 4, (2141, 2139, 2140, 166)),
  (⟨"SeaFireModel", "frailest", "()I"⟩, prog_14_method_126_code, 4, some .int, 12, 3, (2145, 2144, 125, 166)),
  (⟨"SeaFireModel", "frailPart", "()I"⟩, prog_14_method_128_code, 2, some .int, 12, 4, (2149, 2147, 2148, 166)),
  (⟨"SeaFireModel", "safe", "(II)I"⟩, prog_14_method_130_code, 4, some .int, 12, 6, (2153, 2151, 2152, 166)),
  (⟨"SeaFireModel", "isUnsold", "(I)Z"⟩, prog_14_method_129_code, 3, some .boolean, 12, 5, (2158, 2157, 126, 166)),
  (⟨"SeaFireModel", "lesson", "(I)I"⟩, prog_14_method_132_code, 8, some .int, 12, 6, (2162, 2160, 2161, 166))]
set_option maxRecDepth 10000 in
def miT17 : List MInf := [(⟨"SeaFireModel", "thinnest", "()I"⟩, prog_14_method_131_code, 3, some .int, 12, 3, (2166, 2165, 127, 166)),
  (⟨"SeaFireModel", "lostIn", "(I)I"⟩, prog_14_method_135_code, 4, some .int, 12, 4, (2170, 2168, 2169, 166)),
  (⟨"SeaFireModel", "keeps", "()V"⟩, prog_14_method_133_code, 2, none, 12, 1, (2174, 2173, 128, 166)),
  (⟨"SeaFireModel", "returns", "()V"⟩, prog_14_method_134_code, 2, none, 12, 1, (2178, 2177, 129, 166)),
  (⟨"SeaFireModel", "wholeFor", "()I"⟩, prog_14_method_136_code, 3, some .int, 12, 5, (2182, 2180, 2181, 166)),
  (⟨"SeaFireModel", "knownIn", "(I)I"⟩, prog_14_method_137_code, 3, some .int, 12, 4, (2186, 2184, 2185, 166)),
  (⟨"SeaFireModel", "storeIn", "(I)I"⟩, prog_14_method_138_code, 3, some .int, 12, 4, (2191, 2189, 2190, 166)),
  (⟨"SeaFireModel", "pace", "()I"⟩, prog_14_method_139_code, 3, some .int, 12, 2, (2195, 2193, 2194, 166)),
  (⟨"SeaFireModel", "jarsFor", "(I)I"⟩, prog_14_method_141_code, 5, some .int, 12, 2, (2199, 2197, 2198, 166)),
  (⟨"SeaFireModel", "wouldFade", "(IZ)Z"⟩, prog_14_method_140_code, 4, some .boolean, 12, 1, (2203, 2202, 130, 166)),
  (⟨"SeaFireModel", "dies", "(I)I"⟩, prog_14_method_142_code, 2, some .int, 12, 3, (2207, 2205, 2206, 166)),
  (⟨"SeaFireModel", "battle", "(IIII)Z"⟩, prog_14_method_147_code, 5, some .boolean, 12, 4, (2211, 2209, 2210, 166)),
  (⟨"SeaFireModel", "whyNoBattle", "(IIII)I"⟩, prog_14_method_146_code, 6, some .int, 12, 3, (2215, 2214, 131, 166)),
  (⟨"SeaFireModel", "numberOf", "(II)J"⟩, prog_14_method_17_code, 3, some .long, 12, 1, (2219, 2218, 132, 166)),
  (⟨"SeaFireModel", "laysOdds", "(IIII)V"⟩, prog_14_method_144_code, 12, none, 12, 3, (2224, 2223, 133, 166)),
  (⟨"SeaFireModel", "state", "(II)I"⟩, prog_14_method_143_code, 2, some .int, 12, 1, (2227, 2226, 0, 166)),
  (⟨"SeaFireModel", "turnOdds", "(IIJZJ)J"⟩, prog_14_method_145_code, 12, some .long, 12, 2, (2231, 2230, 134, 166)),
  (⟨"SeaFireModel", "fraction", "(JJ)Z"⟩, prog_14_method_9_code, 11, some .boolean, 12, 2, (2236, 2235, 135, 166)),
  (⟨"java/lang/Math", "abs", "(J)J"⟩, prog_17_method_61_code, 2, some .long, 14, 1, (2239, 2238, 0, 168)),
  (⟨"SeaFireModel", "throwFirst", "(IIII)I"⟩, prog_14_method_148_code, 5, some .int, 12, 4, (2243, 2241, 2242, 166))]
set_option maxRecDepth 10000 in
def miT18 : List MInf := [(⟨"SeaFireModel", "jarsToWin", "(IIII)I"⟩, prog_14_method_149_code, 6, some .int, 12, 4, (2247, 2245, 2246, 166)),
  (⟨"SeaFireModel", "tries", "(I)J"⟩, prog_14_method_151_code, 2, some .long, 12, 3, (2251, 2249, 2250, 166)),
  (⟨"SeaFireModel", "triesOf", "(IZ)J"⟩, prog_14_method_150_code, 6, some .long, 12, 2, (2255, 2254, 136, 166)),
  (⟨"SeaFireModel", "worstLoss", "()I"⟩, prog_14_method_152_code, 7, some .int, 12, 3, (2259, 2257, 2258, 166)),
  (⟨"SeaFireModel", "needed", "(II)I"⟩, prog_14_method_156_code, 3, some .int, 12, 5, (2263, 2261, 2262, 166)),
  (⟨"SeaFireModel", "whyNotNeeded", "(II)I"⟩, prog_14_method_153_code, 4, some .int, 12, 3, (2267, 2266, 137, 166)),
  (⟨"SeaFireModel", "laysNeeds", "(II)V"⟩, prog_14_method_155_code, 4, none, 12, 4, (2272, 2271, 138, 166)),
  (⟨"SeaFireModel", "fits", "(III)Z"⟩, prog_14_method_154_code, 5, some .boolean, 12, 3, (2276, 2275, 139, 166)),
  (⟨"SeaFireModel", "sure", "(II)I"⟩, prog_14_method_157_code, 3, some .int, 12, 5, (2280, 2278, 2279, 166)),
  (⟨"SeaFireModel", "ask", "(II)I"⟩, prog_14_method_158_code, 9, some .int, 12, 5, (2284, 2282, 2283, 166)),
  (⟨"SeaFireModel", "live", "(I)I"⟩, prog_14_method_168_code, 2, some .int, 12, 11, (2288, 2286, 2287, 166)),
  (⟨"SeaFireModel", "runsSteps", "(I)V"⟩, prog_14_method_167_code, 2, none, 12, 10, (2292, 2291, 140, 166)),
  (⟨"SeaFireModel", "doAll", "(II)V"⟩, prog_14_method_166_code, 4, none, 12, 9, (2296, 2295, 141, 166)),
  (⟨"SeaFireModel", "doOne", "(I)V"⟩, prog_14_method_165_code, 5, none, 12, 8, (2300, 2299, 142, 166)),
  (⟨"SeaFireModel", "does", "(I)Z"⟩, prog_14_method_163_code, 4, some .boolean, 12, 7, (2304, 2303, 143, 166)),
  (⟨"SeaFireModel", "anyYears", "(I)Z"⟩, prog_14_method_160_code, 3, some .boolean, 12, 4, (2308, 2307, 144, 166)),
  (⟨"SeaFireModel", "isMade", "(I)Z"⟩, prog_14_method_161_code, 2, some .boolean, 12, 6, (2312, 2311, 145, 166)),
  (⟨"SeaFireModel", "isCaptured", "(I)Z"⟩, prog_14_method_162_code, 2, some .boolean, 12, 3, (2316, 2315, 146, 166)),
  (⟨"SeaFireModel", "draw", "(I)I"⟩, prog_14_method_159_code, 2, some .int, 12, 1, (2320, 2319, 147, 166)),
  (⟨"SeaFireModel", "isSo", "(I)Z"⟩, prog_14_method_164_code, 5, some .boolean, 12, 5, (2325, 2324, 148, 166))]
set_option maxRecDepth 10000 in
def miT19 : List MInf := [(⟨"SeaFireModel", "lived", "(I)I"⟩, prog_14_method_169_code, 2, some .int, 12, 2, (2329, 2327, 2328, 166)),
  (⟨"SeaFireModel", "mean", "(II)Z"⟩, prog_14_method_170_code, 7, some .boolean, 12, 11, (2333, 2331, 2332, 166)),
  (⟨"SeaFireModel", "mark", "()I"⟩, prog_14_method_172_code, 1, some .int, 12, 2, (2337, 2335, 2336, 166)),
  (⟨"SeaFireModel", "back", "()I"⟩, prog_14_method_173_code, 1, some .int, 12, 2, (2341, 2339, 2340, 166)),
  (⟨"SeaFireLaw", "law", "([I)Z"⟩, code, 4, some .boolean, 13, 12, (0, 0, 0, 149))]
def miT : List (List MInf) := [miT0, miT1, miT2, miT3, miT4, miT5, miT6, miT7, miT8, miT9, miT10, miT11, miT12, miT13, miT14, miT15, miT16, miT17, miT18, miT19]
def MI (j : Nat) : MInf := (miT.getD (j / 20) []).getD (j % 20) (⟨"", "", ""⟩, ⟨#[]⟩, 0, none, 0, 0, (0, 0, 0, 0))
/-- own class, place in its pool, field, place of the word -/
def flT : List (Nat × Nat × Nat × Nat) := [(0, 11, 0, 545), (0, 16, 1, 547), (1, 11, 110, 498), (1, 19, 111, 500), (1, 25, 112, 502), (1, 32, 113, 504), (1, 42, 100, 469), (1, 46, 101, 472), (1, 49, 102, 475), (1, 52, 103, 479), (1, 55, 104, 481), (1, 58, 105, 483), (1, 61, 106, 485), (1, 64, 107, 488), (1, 67, 108, 491), (1, 70, 109, 495), (1, 87, 500, 385), (1, 91, 503, 395), (1, 94, 300, 412), (1, 95, 303, 422), (1, 98, 304, 426), (1, 101, 900, 445), (1, 117, 301, 415), (1, 126, 501, 388), (1, 143, 901, 448), (1, 146, 902, 452), (1, 179, 302, 420), (1, 217, 502, 393), (2, 9, 200, 304), (2, 20, 806, 249), (2, 37, 810, 258), (2, 63, 811, 260), (2, 66, 100, 470), (2, 69, 101, 473), (2, 72, 102, 476), (2, 78, 809, 254), (2, 86, 107, 489), (2, 103, 501, 387), (2, 108, 502, 391), (2, 111, 106, 486), (2, 114, 108, 492), (2, 121, 301, 414), (2, 126, 302, 418), (2, 140, 303, 423), (2, 146, 109, 496), (2, 153, 901, 447), (2, 158, 902, 451), (3, 11, 300, 411), (3, 17, 301, 413), (3, 21, 302, 417), (3, 24, 303, 421), (3, 27, 304, 425), (4, 9, 400, 560), (4, 15, 401, 562), (4, 18, 402, 564), (4, 21, 403, 566), (4, 24, 404, 568), (4, 27, 405, 570), (4, 31, 406, 572), (4, 34, 407, 573), (4, 38, 113, 505), (4, 45, 605, 355), (4, 50, 600, 340), (4, 69, 604, 353), (4, 75, 601, 343), (4, 82, 602, 346), (4, 88, 102, 477), (4, 91, 603, 349), (4, 128, 108, 493), (5, 9, 500, 384), (5, 15, 501, 386), (5, 19, 502, 390), (5, 22, 503, 394), (6, 9, 600, 339), (6, 15, 601, 342), (6, 18, 602, 345), (6, 21, 603, 348), (6, 24, 604, 351), (6, 27, 605, 354), (6, 31, 606, 356), (6, 34, 607, 359), (7, 9, 700, 314), (7, 15, 701, 315), (7, 24, 806, 250), (7, 33, 810, 257), (7, 51, 607, 360), (7, 62, 604, 352), (7, 72, 606, 357), (7, 88, 811, 261), (7, 91, 600, 341), (7, 98, 601, 344), (7, 105, 809, 255), (7, 120, 602, 347), (7, 123, 603, 350), (8, 9, 800, 242), (8, 15, 801, 243), (8, 19, 802, 244), (8, 22, 803, 245), (8, 25, 804, 246), (8, 29, 805, 247), (8, 32, 806, 248), (8, 35, 807, 251), (8, 38, 808, 252), (8, 41, 809, 253), (8, 45, 810, 256), (8, 48, 811, 259), (8, 51, 812, 262), (8, 54, 813, 264), (9, 9, 900, 444), (9, 15, 901, 446), (9, 19, 902, 450), (10, 9, 1000, 596), (10, 15, 1001, 598), (10, 19, 1002, 600), (11, 9, 1100, 609), (11, 13, 1101, 610), (11, 17, 1102, 611), (11, 22, 1103, 612), (11, 26, 1104, 613), (11, 30, 1105, 614), (11, 36, 1106, 615), (11, 43, 1107, 616), (11, 50, 1108, 617), (11, 54, 1109, 618), (11, 57, 1110, 619), (11, 63, 1111, 620), (11, 67, 1112, 621), (11, 70, 1113, 622), (11, 74, 1114, 623), (11, 80, 1115, 624), (11, 87, 1116, 625), (11, 91, 1117, 626), (11, 94, 1118, 627), (11, 122, 1002, 601), (11, 147, 1000, 597), (11, 151, 1001, 599), (11, 183, 108, 494), (11, 191, 113, 506), (11, 203, 606, 358), (11, 206, 812, 263), (11, 209, 813, 265), (11, 210, 107, 490), (11, 213, 109, 497), (11, 216, 100, 471), (11, 219, 101, 474), (11, 222, 102, 478), (11, 225, 103, 480), (11, 228, 104, 482), (11, 238, 106, 487), (11, 241, 105, 484), (11, 254, 110, 499), (11, 258, 501, 389), (11, 263, 502, 392), (11, 269, 503, 396), (11, 278, 111, 501), (11, 282, 301, 416), (11, 287, 302, 419), (11, 290, 303, 424), (11, 293, 304, 427), (11, 299, 112, 503), (11, 303, 901, 449), (11, 308, 902, 453), (11, 406, 0, 546), (11, 410, 1, 548), (11, 456, 607, 361), (11, 463, 400, 561), (11, 466, 401, 563), (11, 469, 402, 565), (11, 472, 403, 567), (11, 475, 404, 569), (11, 478, 405, 571), (12, 7, 1203, 1520), (12, 13, 1204, 1521), (12, 17, 1205, 1522), (12, 20, 1206, 1523), (12, 24, 1207, 1524), (12, 28, 1210, 1527), (12, 32, 1211, 1528), (12, 35, 1220, 1537), (12, 38, 1221, 1538), (12, 41, 1222, 1539), (12, 44, 1223, 1540), (12, 47, 1227, 1544), (12, 50, 1228, 1545), (12, 53, 1233, 1550), (12, 60, 1201, 1518), (12, 63, 1200, 1517), (12, 66, 1202, 1519), (12, 103, 1209, 1526), (12, 106, 1216, 1533), (12, 109, 1215, 1532), (12, 115, 1214, 1531), (12, 121, 1219, 1536), (12, 128, 1218, 1535), (12, 134, 1217, 1534), (12, 205, 1212, 1529), (12, 208, 1213, 1530), (12, 228, 1208, 1525), (12, 252, 1225, 1542), (12, 306, 1226, 1543), (12, 457, 1230, 1547), (12, 460, 1229, 1546), (12, 485, 1231, 1548), (12, 488, 1232, 1549), (12, 500, 1236, 1553), (12, 504, 1241, 1558), (12, 507, 1239, 1556), (12, 510, 1240, 1557), (12, 525, 1237, 1554), (12, 528, 1235, 1552), (12, 531, 1242, 1559), (12, 534, 1238, 1555), (12, 552, 1234, 1551), (12, 555, 1224, 1541)]
def mlT : List (Nat × Nat × Nat × Nat) := [(0, 20, 173, 1335), (0, 26, 174, 1339), (0, 30, 175, 1344), (0, 34, 176, 1348), (1, 39, 11, 461), (1, 73, 12, 465), (1, 74, 75, 908), (1, 78, 76, 912), (1, 81, 77, 916), (1, 84, 78, 920), (1, 106, 134, 1165), (1, 110, 61, 849), (1, 114, 62, 853), (1, 120, 40, 1009), (1, 129, 96, 1005), (1, 133, 97, 1010), (1, 137, 95, 1018), (1, 140, 99, 1019), (1, 149, 39, 1084), (1, 152, 165, 1313), (1, 155, 113, 1076), (1, 158, 114, 1080), (1, 161, 98, 1093), (1, 165, 117, 1094), (1, 168, 103, 1114), (1, 171, 104, 1123), (1, 174, 142, 1199), (1, 182, 135, 1181), (1, 185, 94, 1190), (1, 188, 137, 1205), (1, 191, 147, 1223), (1, 195, 148, 1227), (1, 198, 141, 1262), (1, 201, 139, 1244), (1, 204, 152, 1245), (1, 207, 158, 1271), (1, 211, 159, 1275), (1, 214, 155, 1279), (1, 220, 183, 1389), (1, 225, 189, 1404), (1, 235, 190, 1432), (2, 15, 11, 796), (2, 25, 49, 797), (2, 29, 50, 801), (2, 33, 72, 895), (2, 40, 51, 805), (2, 44, 57, 831), (2, 47, 65, 865), (2, 50, 70, 887), (2, 53, 55, 844), (2, 56, 52, 809), (2, 59, 53, 813), (2, 75, 59, 840), (2, 82, 60, 845), (2, 89, 47, 835), (2, 92, 58, 836), (2, 95, 63, 857), (2, 99, 64, 861), (2, 117, 66, 869), (2, 129, 67, 873), (2, 133, 68, 877), (2, 136, 61, 881), (2, 143, 69, 882), (2, 149, 71, 891), (4, 53, 197, 1442), (4, 57, 198, 1446), (4, 61, 199, 1449), (4, 65, 202, 1461), (4, 72, 200, 1453), (4, 78, 95, 1456), (4, 85, 98, 1457), (4, 94, 201, 1458), (4, 98, 203, 1465), (4, 101, 116, 1472), (4, 104, 204, 1473), (4, 108, 119, 1477), (4, 112, 121, 1478), (4, 115, 123, 1479), (4, 118, 124, 1480), (4, 121, 126, 1481), (4, 124, 205, 1482), (4, 131, 206, 1486), (4, 134, 111, 1469), (4, 137, 112, 1470), (4, 140, 142, 1471), (7, 19, 12, 938), (7, 29, 49, 939), (7, 36, 82, 940), (7, 40, 84, 950), (7, 44, 72, 987), (7, 48, 55, 944), (7, 55, 47, 945), (7, 58, 83, 946), (7, 69, 85, 954), (7, 75, 52, 958), (7, 78, 86, 959), (7, 82, 87, 966), (7, 85, 90, 979), (7, 94, 91, 983), (7, 101, 56, 978), (7, 108, 61, 965), (7, 114, 69, 964), (7, 117, 62, 963), (7, 126, 88, 970), (7, 130, 89, 974), (8, 68, 2, 236), (8, 72, 3, 239), (8, 76, 39, 761), (8, 82, 40, 764), (8, 85, 41, 767), (8, 88, 42, 770), (8, 92, 47, 788), (8, 95, 43, 774), (8, 98, 44, 778), (8, 101, 45, 781), (8, 104, 46, 785), (8, 107, 52, 825), (8, 110, 55, 821), (8, 114, 68, 899), (8, 121, 54, 817), (8, 124, 56, 826), (8, 128, 59, 886), (10, 22, 30, 721), (11, 35, 1, 183), (11, 62, 6, 323), (11, 99, 79, 925), (11, 103, 32, 729), (11, 106, 178, 1355), (11, 110, 21, 686), (11, 114, 20, 683), (11, 118, 28, 713), (11, 125, 27, 709), (11, 129, 22, 689), (11, 132, 23, 693), (11, 136, 24, 697), (11, 139, 26, 705), (11, 143, 29, 717), (11, 154, 34, 737), (11, 164, 36, 749), (11, 168, 38, 757), (11, 172, 48, 792), (11, 176, 73, 900), (11, 179, 74, 904), (11, 186, 39, 933), (11, 195, 81, 934), (11, 198, 78, 988), (11, 231, 94, 997), (11, 235, 95, 1001), (11, 244, 98, 1014), (11, 247, 100, 1023), (11, 251, 102, 1031), (11, 266, 103, 1036), (11, 272, 104, 1040), (11, 275, 106, 1048), (11, 296, 108, 1056), (11, 311, 111, 1068), (11, 314, 112, 1072), (11, 317, 116, 1089), (11, 320, 119, 1102), (11, 323, 121, 1110), (11, 327, 123, 1119), (11, 330, 124, 1124), (11, 333, 126, 1132), (11, 336, 66, 1140), (11, 340, 133, 1161), (11, 344, 135, 1169), (11, 347, 137, 1177), (11, 350, 139, 1186), (11, 353, 141, 1195), (11, 356, 142, 1206), (11, 361, 144, 1211), (11, 364, 146, 1219), (11, 367, 148, 1231), (11, 370, 151, 1240), (11, 373, 152, 1249), (11, 376, 155, 1258), (11, 379, 157, 1267), (11, 382, 114, 1296), (11, 385, 165, 1301), (11, 388, 167, 1309), (11, 391, 96, 1318), (11, 395, 171, 1327), (11, 398, 170, 1323), (11, 402, 172, 1331), (11, 413, 177, 1351), (11, 417, 175, 1362), (11, 421, 174, 1363), (11, 427, 182, 1373), (11, 430, 183, 1377), (11, 433, 185, 1385), (11, 438, 187, 1394), (11, 441, 188, 1399), (11, 445, 190, 1410), (11, 450, 192, 1420), (11, 453, 194, 1428), (11, 459, 196, 1437), (12, 56, 212, 1513), (12, 69, 358, 2237), (12, 75, 217, 1663), (12, 79, 220, 1675), (12, 83, 219, 1671), (12, 87, 221, 1679), (12, 95, 243, 1765), (12, 99, 239, 1750), (12, 112, 230, 1715), (12, 118, 231, 1719), (12, 131, 232, 1724), (12, 137, 233, 1727), (12, 140, 236, 1739), (12, 144, 237, 1742), (12, 152, 235, 1735), (12, 156, 244, 1768), (12, 159, 246, 1776), (12, 162, 251, 1796), (12, 165, 252, 1800), (12, 168, 253, 1804), (12, 171, 254, 1809), (12, 174, 255, 1813), (12, 177, 256, 1817), (12, 180, 257, 1821), (12, 183, 258, 1825), (12, 186, 259, 1829), (12, 189, 260, 1833), (12, 192, 261, 1837), (12, 196, 245, 1772), (12, 199, 262, 1842), (12, 202, 250, 1792), (12, 211, 240, 1753), (12, 215, 229, 1711), (12, 218, 242, 1761), (12, 221, 269, 1869), (12, 225, 241, 1757), (12, 231, 225, 1695), (12, 234, 265, 1854), (12, 237, 264, 1850), (12, 240, 249, 1788), (12, 243, 263, 1846), (12, 246, 40, 1881), (12, 249, 271, 1877), (12, 255, 248, 1784), (12, 258, 266, 1857), (12, 262, 268, 1865), (12, 266, 270, 1873), (12, 269, 238, 1746), (12, 273, 247, 1780), (12, 276, 267, 1861), (12, 279, 272, 1882), (12, 282, 228, 1707), (12, 285, 234, 1731), (12, 288, 273, 1886), (12, 291, 274, 1890), (12, 294, 275, 1894), (12, 297, 280, 1914), (12, 300, 279, 1910), (12, 303, 281, 1918), (12, 309, 278, 1906), (12, 312, 277, 1902), (12, 315, 285, 1935), (12, 318, 287, 1943), (12, 321, 284, 1931), (12, 324, 288, 1947), (12, 327, 286, 1939), (12, 330, 290, 1955), (12, 335, 283, 1927), (12, 338, 289, 1951), (12, 341, 292, 1963), (12, 346, 293, 1968), (12, 349, 295, 1976), (12, 352, 297, 1985), (12, 357, 298, 1990), (12, 360, 300, 1998), (12, 363, 39, 2011), (12, 366, 303, 2012), (12, 371, 302, 2007), (12, 374, 306, 2025), (12, 379, 305, 2021), (12, 382, 308, 2033), (12, 385, 310, 2041), (12, 389, 312, 2049), (12, 393, 314, 2057), (12, 400, 322, 2091), (12, 403, 321, 2087), (12, 406, 324, 2099), (12, 409, 326, 2107), (12, 412, 329, 2119), (12, 415, 330, 2123), (12, 418, 328, 2115), (12, 422, 335, 2142), (12, 427, 338, 2155), (12, 430, 340, 2163), (12, 433, 342, 2171), (12, 436, 343, 2175), (12, 441, 349, 2200), (12, 444, 353, 2216), (12, 450, 355, 2225), (12, 453, 356, 2228), (12, 464, 176, 2232), (12, 467, 352, 2212), (12, 471, 354, 2221), (12, 475, 357, 2233), (12, 479, 362, 2252), (12, 491, 367, 2273), (12, 494, 365, 2264), (12, 497, 366, 2269), (12, 513, 375, 2305), (12, 516, 376, 2309), (12, 519, 377, 2313), (12, 522, 378, 2317), (12, 537, 374, 2301), (12, 540, 379, 2322), (12, 543, 372, 2293), (12, 546, 373, 2297), (12, 549, 371, 2289), (13, 9, 0, 173), (13, 12, 211, 1509), (13, 13, 16, 667), (13, 17, 213, 1647), (13, 18, 17, 671), (13, 22, 214, 1651), (13, 23, 18, 675), (13, 26, 215, 1655), (13, 27, 19, 679), (13, 31, 216, 1659), (13, 34, 25, 701), (13, 38, 218, 1667), (13, 39, 31, 725), (13, 43, 222, 1682), (13, 44, 33, 733), (13, 48, 223, 1687), (13, 49, 35, 745), (13, 53, 224, 1691), (13, 54, 37, 753), (13, 58, 227, 1703), (13, 59, 80, 929), (13, 62, 276, 1898), (13, 63, 92, 989), (13, 66, 226, 1699), (13, 67, 93, 993), (13, 70, 282, 1922), (13, 71, 101, 1027), (13, 75, 291, 1959), (13, 76, 105, 1044), (13, 79, 294, 1972), (13, 80, 107, 1052), (13, 83, 296, 1981), (13, 84, 109, 1060), (13, 87, 299, 1994), (13, 88, 110, 1064), (13, 91, 301, 2002), (13, 92, 115, 1085), (13, 95, 304, 2016), (13, 96, 118, 1098), (13, 99, 307, 2029), (13, 100, 120, 1106), (13, 104, 309, 2037), (13, 105, 122, 1115), (13, 109, 311, 2045), (13, 110, 125, 1128), (13, 113, 313, 2053), (13, 114, 127, 1136), (13, 117, 315, 2061), (13, 118, 128, 1141), (13, 122, 316, 2065), (13, 123, 129, 1145), (13, 127, 317, 2070), (13, 128, 130, 1149), (13, 131, 318, 2075), (13, 132, 131, 1153), (13, 135, 319, 2079), (13, 136, 132, 1157), (13, 139, 320, 2083), (13, 140, 136, 1173), (13, 143, 323, 2095), (13, 144, 138, 1182), (13, 147, 325, 2103), (13, 148, 140, 1191), (13, 151, 327, 2111), (13, 152, 143, 1207), (13, 155, 331, 2126), (13, 156, 145, 1215), (13, 159, 332, 2130), (13, 160, 149, 1232), (13, 163, 333, 2134), (13, 164, 150, 1236), (13, 167, 334, 2138), (13, 168, 153, 1250), (13, 171, 336, 2146), (13, 172, 154, 1254), (13, 175, 337, 2150), (13, 176, 156, 1263), (13, 179, 339, 2159), (13, 180, 160, 1280), (13, 183, 341, 2167), (13, 184, 161, 1284), (13, 187, 344, 2179), (13, 188, 162, 1288), (13, 191, 345, 2183), (13, 192, 163, 1292), (13, 195, 346, 2188), (13, 196, 164, 1297), (13, 199, 347, 2192), (13, 200, 166, 1305), (13, 203, 348, 2196), (13, 204, 168, 1314), (13, 207, 350, 2204), (13, 208, 169, 1319), (13, 212, 351, 2208), (13, 213, 179, 1358), (13, 217, 359, 2240), (13, 218, 180, 1364), (13, 221, 360, 2244), (13, 222, 181, 1369), (13, 226, 361, 2248), (13, 227, 184, 1381), (13, 230, 363, 2256), (13, 231, 186, 1390), (13, 234, 364, 2260), (13, 235, 191, 1416), (13, 238, 368, 2277), (13, 239, 193, 1424), (13, 242, 369, 2281), (13, 243, 195, 1433), (13, 246, 370, 2285), (13, 247, 207, 1491), (13, 250, 380, 2326), (13, 251, 208, 1495), (13, 254, 381, 2330), (13, 255, 209, 1499), (13, 258, 382, 2334), (13, 259, 210, 1503), (13, 262, 383, 2338)]
def mnT : List (Nat × Nat × Nat × Nat) := [(1, 31, 7, 335), (1, 36, 8, 380), (1, 37, 9, 407), (1, 38, 10, 440), (1, 102, 21, 1035), (7, 65, 21, 957), (8, 117, 21, 830), (10, 26, 21, 741), (11, 42, 4, 300), (11, 49, 5, 310), (11, 79, 13, 539), (11, 86, 14, 556), (11, 98, 15, 592)]
def clT : List (Nat × Nat × Nat × Nat) := [(1, 9, 5, 327), (1, 17, 3, 329), (1, 23, 9, 331), (1, 29, 6, 333), (11, 20, 10, 179), (11, 33, 8, 181), (11, 40, 2, 298), (11, 47, 7, 308), (11, 60, 1, 321), (11, 77, 0, 537), (11, 84, 4, 554), (13, 7, 11, 171), (13, 10, 12, 1507)]
def ctT : List (Nat × Nat × Int × Nat) := [(4, 44, 1000000, 1441), (4, 145, 65536, 1490), (12, 503, 65536, 2321), (15, 265, 1431655765, 1202), (15, 266, 858993459, 1203), (15, 267, 252645135, 1204)]
def c2T : List (Nat × Nat × Int × Nat) := [(0, 24, 16, 1343), (1, 223, (-2), 1403), (1, 229, (-1), 1409), (11, 425, 16, 1368), (11, 436, 2, 1398), (12, 91, (-1), 1686), (12, 93, 3, 1980), (12, 124, 32, 1722), (12, 126, 96, 1723), (12, 148, 14, 1808), (12, 150, 5, 1841), (12, 333, 12, 1926), (12, 344, 4, 1967), (12, 355, 2, 1989), (12, 369, 99, 2006), (12, 377, 999, 2020), (12, 396, 10, 2069), (12, 398, 9999, 2074), (12, 425, 8, 2154), (12, 439, 200, 2187), (12, 448, 16, 2220), (12, 483, 20, 2268), (13, 32, 4294967295, 2342), (16, 314, 6148914691236517205, 1413), (16, 316, 3689348814741910323, 1414), (16, 318, 1085102592571150095, 1415)]
def obT : List (Nat × Nat × Nat) := [(0, 3, 542), (1, 3, 326), (2, 3, 303), (3, 3, 410), (4, 3, 559), (5, 1, 383), (6, 3, 338), (7, 3, 313), (8, 3, 186), (9, 1, 443), (10, 3, 595), (11, 3, 176), (12, 1, 1512)]
def acT : List (Nat × Nat × Nat) := [(6, 38, 924), (11, 158, 742)]
