def RX0 : String := "DonkeyBridge$Bodies"
def TX0 : u_T := fun k => match k with
  | 0 => ("DonkeyBridge$Bodies", "road", "LDonkeyBridge$Road;", true)
  | 1 => ("DonkeyBridge$Bodies", "numbers", "LDonkeyBridge$Strip;", true)
  | 2 => ("DonkeyBridge$Bodies", "ran", "I", false)
  | 3 => ("DonkeyBridge$Bodies", "kind", "I", false)
  | 4 => ("DonkeyBridge$Bodies", "v", "I", false)
  | _ => ("DonkeyBridge$Bodies", "number", "I", false)
def tyX0 : Nat → FieldType := fun k => match k with
  | 0 => .object "DonkeyBridge$Road"
  | 1 => .object "DonkeyBridge$Strip"
  | 2 => .int
  | 3 => .int
  | 4 => .int
  | _ => .int
theorem nmX0 : ∀ a, a < 6 → ∀ b, b < 6 → a ≠ b → (TX0 a).2.1 ≠ (TX0 b).2.1 := by decide +kernel
theorem tyX0_ok : ∀ k, k < 6 → parseFieldDescriptor (TX0 k).2.2.1 = some (tyX0 k) := by decide +kernel
abbrev cX0_init : ByteArray := prog_2_method_1_code
def yX0_init : MethodName := ⟨RX0, "<init>", "(LDonkeyBridge$Road;)V"⟩
abbrev cX0_ran : ByteArray := prog_2_method_2_code
def yX0_ran : MethodName := ⟨RX0, "ran", "()I"⟩
abbrev cX0_kept : ByteArray := prog_2_method_3_code
def yX0_kept : MethodName := ⟨RX0, "kept", "(I)I"⟩
abbrev cX0_ask : ByteArray := prog_2_method_4_code
def yX0_ask : MethodName := ⟨RX0, "ask", "(III)I"⟩
abbrev cX0_bodyOf : ByteArray := prog_2_method_5_code
def yX0_bodyOf : MethodName := ⟨RX0, "bodyOf", "(II)I"⟩
abbrev cX0_run : ByteArray := prog_2_method_6_code
def yX0_run : MethodName := ⟨RX0, "run", "(IIII)I"⟩
abbrev cX0_answer : ByteArray := prog_2_method_7_code
def yX0_answer : MethodName := ⟨RX0, "answer", "(III)I"⟩
def RX1 : String := "DonkeyBridge$Donkey"
def TX1 : u_T := fun k => match k with
  | _ => ("DonkeyBridge$Donkey", "numbers", "[I", true)
def tyX1 : Nat → FieldType := fun k => match k with
  | _ => .array .int
theorem nmX1 : ∀ a, a < 1 → ∀ b, b < 1 → a ≠ b → (TX1 a).2.1 ≠ (TX1 b).2.1 := by decide +kernel
theorem tyX1_ok : ∀ k, k < 1 → parseFieldDescriptor (TX1 k).2.2.1 = some (tyX1 k) := by decide +kernel
abbrev cX1_init : ByteArray := prog_3_method_1_code
def yX1_init : MethodName := ⟨RX1, "<init>", "()V"⟩
abbrev cX1_mostOf : ByteArray := prog_3_method_2_code
def yX1_mostOf : MethodName := ⟨RX1, "mostOf", "(I)I"⟩
abbrev cX1_get : ByteArray := prog_3_method_3_code
def yX1_get : MethodName := ⟨RX1, "get", "(I)I"⟩
abbrev cX1_tell : ByteArray := prog_3_method_4_code
def yX1_tell : MethodName := ⟨RX1, "tell", "(I)I"⟩
abbrev cX1_put : ByteArray := prog_3_method_5_code
def yX1_put : MethodName := ⟨RX1, "put", "(II)V"⟩
abbrev cX1_addTo : ByteArray := prog_3_method_6_code
def yX1_addTo : MethodName := ⟨RX1, "addTo", "(II)V"⟩
abbrev cX1_sits : ByteArray := prog_3_method_7_code
def yX1_sits : MethodName := ⟨RX1, "sits", "()Z"⟩
abbrev cX1_learnt : ByteArray := prog_3_method_8_code
def yX1_learnt : MethodName := ⟨RX1, "learnt", "()I"⟩
abbrev cX1_become : ByteArray := prog_3_method_9_code
def yX1_become : MethodName := ⟨RX1, "become", "(LDonkeyBridge$Donkey;)V"⟩
def RX2 : String := "DonkeyBridge$Law"
def TX2 : u_T := fun k => match k with
  | 0 => ("DonkeyBridge$Law", "words", "[I", true)
  | 1 => ("DonkeyBridge$Law", "amounts", "[I", true)
  | 2 => ("DonkeyBridge$Law", "starts", "[I", true)
  | 3 => ("DonkeyBridge$Law", "clauses", "I", false)
  | 4 => ("DonkeyBridge$Law", "codes", "[I", true)
  | _ => ("DonkeyBridge$Law", "codeCount", "I", false)
def tyX2 : Nat → FieldType := fun k => match k with
  | 0 => .array .int
  | 1 => .array .int
  | 2 => .array .int
  | 3 => .int
  | 4 => .array .int
  | _ => .int
theorem nmX2 : ∀ a, a < 6 → ∀ b, b < 6 → a ≠ b → (TX2 a).2.1 ≠ (TX2 b).2.1 := by decide +kernel
theorem tyX2_ok : ∀ k, k < 6 → parseFieldDescriptor (TX2 k).2.2.1 = some (tyX2 k) := by decide +kernel
abbrev cX2_init : ByteArray := prog_4_method_1_code
def yX2_init : MethodName := ⟨RX2, "<init>", "()V"⟩
abbrev cX2_clear : ByteArray := prog_4_method_2_code
def yX2_clear : MethodName := ⟨RX2, "clear", "()V"⟩
abbrev cX2_beginClause : ByteArray := prog_4_method_3_code
def yX2_beginClause : MethodName := ⟨RX2, "beginClause", "(II)V"⟩
abbrev cX2_addCode : ByteArray := prog_4_method_4_code
def yX2_addCode : MethodName := ⟨RX2, "addCode", "(I)V"⟩
abbrev cX2_codeOf : ByteArray := prog_4_method_5_code
def yX2_codeOf : MethodName := ⟨RX2, "codeOf", "(III)I"⟩
abbrev cX2_together : ByteArray := prog_4_method_6_code
def yX2_together : MethodName := ⟨RX2, "together", "(I[I)I"⟩
abbrev cX2_last : ByteArray := prog_4_method_7_code
def yX2_last : MethodName := ⟨RX2, "last", "(I)I"⟩
abbrev cX2_isTrue : ByteArray := prog_4_method_8_code
def yX2_isTrue : MethodName := ⟨RX2, "isTrue", "(I[I)Z"⟩
def RX3 : String := "DonkeyBridge$Moment"
def TX3 : u_T := fun k => match k with
  | 0 => ("DonkeyBridge$Moment", "donkey", "LDonkeyBridge$Donkey;", true)
  | 1 => ("DonkeyBridge$Moment", "acts", "LDonkeyBridge$Strip;", true)
  | 2 => ("DonkeyBridge$Moment", "seen", "LDonkeyBridge$Strip;", true)
  | 3 => ("DonkeyBridge$Moment", "beasts", "LDonkeyBridge$Strip;", true)
  | 4 => ("DonkeyBridge$Moment", "odds", "I", false)
  | _ => ("DonkeyBridge$Moment", "held", "I", false)
def tyX3 : Nat → FieldType := fun k => match k with
  | 0 => .object "DonkeyBridge$Donkey"
  | 1 => .object "DonkeyBridge$Strip"
  | 2 => .object "DonkeyBridge$Strip"
  | 3 => .object "DonkeyBridge$Strip"
  | 4 => .int
  | _ => .int
theorem nmX3 : ∀ a, a < 6 → ∀ b, b < 6 → a ≠ b → (TX3 a).2.1 ≠ (TX3 b).2.1 := by decide +kernel
theorem tyX3_ok : ∀ k, k < 6 → parseFieldDescriptor (TX3 k).2.2.1 = some (tyX3 k) := by decide +kernel
abbrev cX3_init : ByteArray := prog_5_method_1_code
def yX3_init : MethodName := ⟨RX3, "<init>", "()V"⟩
abbrev cX3_become : ByteArray := prog_5_method_2_code
def yX3_become : MethodName := ⟨RX3, "become", "(LDonkeyBridge$Moment;)V"⟩
def RX4 : String := "DonkeyBridge$Road"
def TX4 : u_T := fun k => match k with
  | 0 => ("DonkeyBridge$Road", "kinds", "[I", true)
  | 1 => ("DonkeyBridge$Road", "numbers", "[I", true)
  | 2 => ("DonkeyBridge$Road", "things", "[I", true)
  | _ => ("DonkeyBridge$Road", "size", "I", false)
def tyX4 : Nat → FieldType := fun k => match k with
  | 0 => .array .int
  | 1 => .array .int
  | 2 => .array .int
  | _ => .int
theorem nmX4 : ∀ a, a < 4 → ∀ b, b < 4 → a ≠ b → (TX4 a).2.1 ≠ (TX4 b).2.1 := by decide +kernel
theorem tyX4_ok : ∀ k, k < 4 → parseFieldDescriptor (TX4 k).2.2.1 = some (tyX4 k) := by decide +kernel
abbrev cX4_init : ByteArray := prog_6_method_1_code
def yX4_init : MethodName := ⟨RX4, "<init>", "()V"⟩
abbrev cX4_size : ByteArray := prog_6_method_2_code
def yX4_size : MethodName := ⟨RX4, "size", "()I"⟩
abbrev cX4_has : ByteArray := prog_6_method_3_code
def yX4_has : MethodName := ⟨RX4, "has", "(I)Z"⟩
abbrev cX4_kindOf : ByteArray := prog_6_method_4_code
def yX4_kindOf : MethodName := ⟨RX4, "kindOf", "(I)I"⟩
abbrev cX4_numberOf : ByteArray := prog_6_method_5_code
def yX4_numberOf : MethodName := ⟨RX4, "numberOf", "(I)I"⟩
abbrev cX4_thingOf : ByteArray := prog_6_method_6_code
def yX4_thingOf : MethodName := ⟨RX4, "thingOf", "(I)I"⟩
abbrev cX4_add : ByteArray := prog_6_method_7_code
def yX4_add : MethodName := ⟨RX4, "add", "(III)I"⟩
abbrev cX4_aboveOf : ByteArray := prog_6_method_8_code
def yX4_aboveOf : MethodName := ⟨RX4, "aboveOf", "(I)I"⟩
abbrev cX4_isUnder : ByteArray := prog_6_method_9_code
def yX4_isUnder : MethodName := ⟨RX4, "isUnder", "(II)Z"⟩
def RX5 : String := "DonkeyBridge$Strip"
def TX5 : u_T := fun k => match k with
  | 0 => ("DonkeyBridge$Strip", "items", "[I", true)
  | _ => ("DonkeyBridge$Strip", "size", "I", false)
def tyX5 : Nat → FieldType := fun k => match k with
  | 0 => .array .int
  | _ => .int
theorem nmX5 : ∀ a, a < 2 → ∀ b, b < 2 → a ≠ b → (TX5 a).2.1 ≠ (TX5 b).2.1 := by decide +kernel
theorem tyX5_ok : ∀ k, k < 2 → parseFieldDescriptor (TX5 k).2.2.1 = some (tyX5 k) := by decide +kernel
abbrev cX5_init : ByteArray := prog_7_method_1_code
def yX5_init : MethodName := ⟨RX5, "<init>", "(I)V"⟩
abbrev cX5_size : ByteArray := prog_7_method_2_code
def yX5_size : MethodName := ⟨RX5, "size", "()I"⟩
abbrev cX5_get : ByteArray := prog_7_method_3_code
def yX5_get : MethodName := ⟨RX5, "get", "(I)I"⟩
abbrev cX5_add : ByteArray := prog_7_method_4_code
def yX5_add : MethodName := ⟨RX5, "add", "(I)Z"⟩
abbrev cX5_clear : ByteArray := prog_7_method_5_code
def yX5_clear : MethodName := ⟨RX5, "clear", "()V"⟩
abbrev cX5_placeOfLeast : ByteArray := prog_7_method_6_code
def yX5_placeOfLeast : MethodName := ⟨RX5, "placeOfLeast", "()I"⟩
abbrev cX5_become : ByteArray := prog_7_method_7_code
def yX5_become : MethodName := ⟨RX5, "become", "(LDonkeyBridge$Strip;)V"⟩
def RX6 : String := "DonkeyBridge$Tape"
def TX6 : u_T := fun k => match k with
  | 0 => ("DonkeyBridge$Tape", "items", "[J", true)
  | 1 => ("DonkeyBridge$Tape", "sort", "I", false)
  | _ => ("DonkeyBridge$Tape", "size", "I", false)
def tyX6 : Nat → FieldType := fun k => match k with
  | 0 => .array .long
  | 1 => .int
  | _ => .int
theorem nmX6 : ∀ a, a < 3 → ∀ b, b < 3 → a ≠ b → (TX6 a).2.1 ≠ (TX6 b).2.1 := by decide +kernel
theorem tyX6_ok : ∀ k, k < 3 → parseFieldDescriptor (TX6 k).2.2.1 = some (tyX6 k) := by decide +kernel
abbrev cX6_init : ByteArray := prog_8_method_1_code
def yX6_init : MethodName := ⟨RX6, "<init>", "()V"⟩
abbrev cX6_sort : ByteArray := prog_8_method_2_code
def yX6_sort : MethodName := ⟨RX6, "sort", "()I"⟩
abbrev cX6_holdsSomething : ByteArray := prog_8_method_3_code
def yX6_holdsSomething : MethodName := ⟨RX6, "holdsSomething", "()Z"⟩
abbrev cX6_renew : ByteArray := prog_8_method_4_code
def yX6_renew : MethodName := ⟨RX6, "renew", "(II)V"⟩
abbrev cX6_has : ByteArray := prog_8_method_5_code
def yX6_has : MethodName := ⟨RX6, "has", "(I)Z"⟩
abbrev cX6_spans : ByteArray := prog_8_method_6_code
def yX6_spans : MethodName := ⟨RX6, "spans", "(II)Z"⟩
abbrev cX6_get : ByteArray := prog_8_method_7_code
def yX6_get : MethodName := ⟨RX6, "get", "(I)J"⟩
abbrev cX6_put : ByteArray := prog_8_method_8_code
def yX6_put : MethodName := ⟨RX6, "put", "(IJ)V"⟩
abbrev cX6_cut : ByteArray := prog_8_method_9_code
def yX6_cut : MethodName := ⟨RX6, "cut", "(J)J"⟩
abbrev cX6_copyIn : ByteArray := prog_8_method_10_code
def yX6_copyIn : MethodName := ⟨RX6, "copyIn", "(ILDonkeyBridge$Tape;II)V"⟩
def RX7 : String := "DonkeyBridge$Text"
def TX7 : u_T := fun k => match k with
  | 0 => ("DonkeyBridge$Text", "signs", "LDonkeyBridge$Strip;", true)
  | _ => ("DonkeyBridge$Text", "pos", "I", false)
def tyX7 : Nat → FieldType := fun k => match k with
  | 0 => .object "DonkeyBridge$Strip"
  | _ => .int
theorem nmX7 : ∀ a, a < 2 → ∀ b, b < 2 → a ≠ b → (TX7 a).2.1 ≠ (TX7 b).2.1 := by decide +kernel
theorem tyX7_ok : ∀ k, k < 2 → parseFieldDescriptor (TX7 k).2.2.1 = some (tyX7 k) := by decide +kernel
abbrev cX7_init : ByteArray := prog_9_method_1_code
def yX7_init : MethodName := ⟨RX7, "<init>", "()V"⟩
abbrev cX7_size : ByteArray := prog_9_method_2_code
def yX7_size : MethodName := ⟨RX7, "size", "()I"⟩
abbrev cX7_add : ByteArray := prog_9_method_3_code
def yX7_add : MethodName := ⟨RX7, "add", "(I)Z"⟩
abbrev cX7_clear : ByteArray := prog_9_method_4_code
def yX7_clear : MethodName := ⟨RX7, "clear", "()V"⟩
abbrev cX7_readLaw : ByteArray := prog_9_method_5_code
def yX7_readLaw : MethodName := ⟨RX7, "readLaw", "(LDonkeyBridge$Law;)I"⟩
abbrev cX7_next : ByteArray := prog_9_method_6_code
def yX7_next : MethodName := ⟨RX7, "next", "(C)Z"⟩
abbrev cX7_readHead : ByteArray := prog_9_method_7_code
def yX7_readHead : MethodName := ⟨RX7, "readHead", "(LDonkeyBridge$Law;)I"⟩
abbrev cX7_readWord : ByteArray := prog_9_method_8_code
def yX7_readWord : MethodName := ⟨RX7, "readWord", "()I"⟩
abbrev cX7_wordOf : ByteArray := prog_9_method_9_code
def yX7_wordOf : MethodName := ⟨RX7, "wordOf", "(I)Ljava/lang/String;"⟩
abbrev cX7_readNumber : ByteArray := prog_9_method_10_code
def yX7_readNumber : MethodName := ⟨RX7, "readNumber", "()I"⟩
abbrev cX7_readEither : ByteArray := prog_9_method_11_code
def yX7_readEither : MethodName := ⟨RX7, "readEither", "(LDonkeyBridge$Law;I)Z"⟩
abbrev cX7_readBoth : ByteArray := prog_9_method_12_code
def yX7_readBoth : MethodName := ⟨RX7, "readBoth", "(LDonkeyBridge$Law;I)Z"⟩
abbrev cX7_readSingle : ByteArray := prog_9_method_13_code
def yX7_readSingle : MethodName := ⟨RX7, "readSingle", "(LDonkeyBridge$Law;I)Z"⟩
abbrev cX7_readTest : ByteArray := prog_9_method_14_code
def yX7_readTest : MethodName := ⟨RX7, "readTest", "(LDonkeyBridge$Law;)Z"⟩
abbrev cX7_placeIn : ByteArray := prog_9_method_15_code
def yX7_placeIn : MethodName := ⟨RX7, "placeIn", "(Ljava/lang/String;)I"⟩
def RX8 : String := "DonkeyBridge$Trial"
def TX8 : u_T := fun k => match k with
  | 0 => ("DonkeyBridge$Trial", "walk", "LDonkeyBridge$Walk;", true)
  | 1 => ("DonkeyBridge$Trial", "present", "LDonkeyBridge$Moment;", true)
  | 2 => ("DonkeyBridge$Trial", "stages", "[LDonkeyBridge$Donkey;", true)
  | 3 => ("DonkeyBridge$Trial", "spare", "LDonkeyBridge$Donkey;", true)
  | 4 => ("DonkeyBridge$Trial", "tried", "[I", true)
  | 5 => ("DonkeyBridge$Trial", "best", "[I", true)
  | 6 => ("DonkeyBridge$Trial", "bestSize", "I", false)
  | 7 => ("DonkeyBridge$Trial", "bestLearnt", "I", false)
  | _ => ("DonkeyBridge$Trial", "goal", "I", false)
def tyX8 : Nat → FieldType := fun k => match k with
  | 0 => .object "DonkeyBridge$Walk"
  | 1 => .object "DonkeyBridge$Moment"
  | 2 => .array (.object "DonkeyBridge$Donkey")
  | 3 => .object "DonkeyBridge$Donkey"
  | 4 => .array .int
  | 5 => .array .int
  | 6 => .int
  | 7 => .int
  | _ => .int
theorem nmX8 : ∀ a, a < 9 → ∀ b, b < 9 → a ≠ b → (TX8 a).2.1 ≠ (TX8 b).2.1 := by decide +kernel
theorem tyX8_ok : ∀ k, k < 9 → parseFieldDescriptor (TX8 k).2.2.1 = some (tyX8 k) := by decide +kernel
abbrev cX8_init : ByteArray := prog_10_method_1_code
def yX8_init : MethodName := ⟨RX8, "<init>", "(LDonkeyBridge$Walk;LDonkeyBridge$Moment;)V"⟩
abbrev cX8_stage : ByteArray := prog_10_method_2_code
def yX8_stage : MethodName := ⟨RX8, "stage", "(I)LDonkeyBridge$Donkey;"⟩
abbrev cX8_stageAfter : ByteArray := prog_10_method_3_code
def yX8_stageAfter : MethodName := ⟨RX8, "stageAfter", "(I)LDonkeyBridge$Donkey;"⟩
abbrev cX8_begin : ByteArray := prog_10_method_4_code
def yX8_begin : MethodName := ⟨RX8, "begin", "()LDonkeyBridge$Donkey;"⟩
abbrev cX8_byHand : ByteArray := prog_10_method_5_code
def yX8_byHand : MethodName := ⟨RX8, "byHand", "(I)LDonkeyBridge$Donkey;"⟩
abbrev cX8_doRow : ByteArray := prog_10_method_6_code
def yX8_doRow : MethodName := ⟨RX8, "doRow", "(LDonkeyBridge$Donkey;I)V"⟩
abbrev cX8_afterDays : ByteArray := prog_10_method_7_code
def yX8_afterDays : MethodName := ⟨RX8, "afterDays", "(I)LDonkeyBridge$Donkey;"⟩
abbrev cX8_waiting : ByteArray := prog_10_method_8_code
def yX8_waiting : MethodName := ⟨RX8, "waiting", "()I"⟩
abbrev cX8_bestShift : ByteArray := prog_10_method_9_code
def yX8_bestShift : MethodName := ⟨RX8, "bestShift", "()I"⟩
abbrev cX8_hurtWith : ByteArray := prog_10_method_10_code
def yX8_hurtWith : MethodName := ⟨RX8, "hurtWith", "(I)I"⟩
abbrev cX8_firstOtherwise : ByteArray := prog_10_method_11_code
def yX8_firstOtherwise : MethodName := ⟨RX8, "firstOtherwise", "()I"⟩
abbrev cX8_firstMistold : ByteArray := prog_10_method_12_code
def yX8_firstMistold : MethodName := ⟨RX8, "firstMistold", "(LDonkeyBridge$Tape;I)I"⟩
abbrev cX8_findSoonest : ByteArray := prog_10_method_13_code
def yX8_findSoonest : MethodName := ⟨RX8, "findSoonest", "(I)I"⟩
abbrev cX8_findGentlest : ByteArray := prog_10_method_14_code
def yX8_findGentlest : MethodName := ⟨RX8, "findGentlest", "(I)I"⟩
abbrev cX8_found : ByteArray := prog_10_method_15_code
def yX8_found : MethodName := ⟨RX8, "found", "(I)I"⟩
abbrev cX8_trySooner : ByteArray := prog_10_method_16_code
def yX8_trySooner : MethodName := ⟨RX8, "trySooner", "(I)V"⟩
abbrev cX8_trySoonerWith : ByteArray := prog_10_method_17_code
def yX8_trySoonerWith : MethodName := ⟨RX8, "trySoonerWith", "(II)V"⟩
abbrev cX8_tryGentler : ByteArray := prog_10_method_18_code
def yX8_tryGentler : MethodName := ⟨RX8, "tryGentler", "(II)V"⟩
abbrev cX8_tryGentlerWith : ByteArray := prog_10_method_19_code
def yX8_tryGentlerWith : MethodName := ⟨RX8, "tryGentlerWith", "(III)V"⟩
abbrev cX8_keepGentler : ByteArray := prog_10_method_20_code
def yX8_keepGentler : MethodName := ⟨RX8, "keepGentler", "(LDonkeyBridge$Donkey;I)V"⟩
abbrev cX8_keepTried : ByteArray := prog_10_method_21_code
def yX8_keepTried : MethodName := ⟨RX8, "keepTried", "(I)V"⟩
abbrev cX8_chanceOf : ByteArray := prog_10_method_22_code
def yX8_chanceOf : MethodName := ⟨RX8, "chanceOf", "(II)J"⟩
abbrev cX8_waysFrom : ByteArray := prog_10_method_23_code
def yX8_waysFrom : MethodName := ⟨RX8, "waysFrom", "(II)J"⟩
abbrev cX8_waysWith : ByteArray := prog_10_method_24_code
def yX8_waysWith : MethodName := ⟨RX8, "waysWith", "(III)J"⟩
def RX9 : String := "DonkeyBridge$Walk"
def TX9 : u_T := fun k => match k with
  | 0 => ("DonkeyBridge$Walk", "road", "LDonkeyBridge$Road;", true)
  | 1 => ("DonkeyBridge$Walk", "law", "LDonkeyBridge$Law;", false)
  | 2 => ("DonkeyBridge$Walk", "facts", "[I", true)
  | _ => ("DonkeyBridge$Walk", "less", "[I", true)
def tyX9 : Nat → FieldType := fun k => match k with
  | 0 => .object "DonkeyBridge$Road"
  | 1 => .object "DonkeyBridge$Law"
  | 2 => .array .int
  | _ => .array .int
theorem nmX9 : ∀ a, a < 4 → ∀ b, b < 4 → a ≠ b → (TX9 a).2.1 ≠ (TX9 b).2.1 := by decide +kernel
theorem tyX9_ok : ∀ k, k < 4 → parseFieldDescriptor (TX9 k).2.2.1 = some (tyX9 k) := by decide +kernel
abbrev cX9_init : ByteArray := prog_11_method_1_code
def yX9_init : MethodName := ⟨RX9, "<init>", "(LDonkeyBridge$Road;LDonkeyBridge$Law;)V"⟩
abbrev cX9_obey : ByteArray := prog_11_method_2_code
def yX9_obey : MethodName := ⟨RX9, "obey", "(LDonkeyBridge$Law;)V"⟩
abbrev cX9_isOver : ByteArray := prog_11_method_3_code
def yX9_isOver : MethodName := ⟨RX9, "isOver", "(LDonkeyBridge$Donkey;)Z"⟩
abbrev cX9_fearThere : ByteArray := prog_11_method_4_code
def yX9_fearThere : MethodName := ⟨RX9, "fearThere", "(LDonkeyBridge$Donkey;)I"⟩
abbrev cX9_lastOf : ByteArray := prog_11_method_5_code
def yX9_lastOf : MethodName := ⟨RX9, "lastOf", "(I)I"⟩
abbrev cX9_halfMinutesOf : ByteArray := prog_11_method_6_code
def yX9_halfMinutesOf : MethodName := ⟨RX9, "halfMinutesOf", "(I)I"⟩
abbrev cX9_togetherOf : ByteArray := prog_11_method_7_code
def yX9_togetherOf : MethodName := ⟨RX9, "togetherOf", "(LDonkeyBridge$Donkey;I)I"⟩
abbrev cX9_lookAround : ByteArray := prog_11_method_8_code
def yX9_lookAround : MethodName := ⟨RX9, "lookAround", "(LDonkeyBridge$Donkey;)V"⟩
abbrev cX9_weigh : ByteArray := prog_11_method_9_code
def yX9_weigh : MethodName := ⟨RX9, "weigh", "(LDonkeyBridge$Donkey;I)I"⟩
abbrev cX9_moreBy : ByteArray := prog_11_method_10_code
def yX9_moreBy : MethodName := ⟨RX9, "moreBy", "(LDonkeyBridge$Donkey;I)I"⟩
abbrev cX9_fearThatCounts : ByteArray := prog_11_method_11_code
def yX9_fearThatCounts : MethodName := ⟨RX9, "fearThatCounts", "(LDonkeyBridge$Donkey;I)I"⟩
abbrev cX9_mostAgainst : ByteArray := prog_11_method_12_code
def yX9_mostAgainst : MethodName := ⟨RX9, "mostAgainst", "(LDonkeyBridge$Donkey;)I"⟩
abbrev cX9_doing : ByteArray := prog_11_method_13_code
def yX9_doing : MethodName := ⟨RX9, "doing", "(LDonkeyBridge$Donkey;I)I"⟩
abbrev cX9_doneBy : ByteArray := prog_11_method_14_code
def yX9_doneBy : MethodName := ⟨RX9, "doneBy", "(I)I"⟩
abbrev cX9_step : ByteArray := prog_11_method_15_code
def yX9_step : MethodName := ⟨RX9, "step", "(LDonkeyBridge$Donkey;II)I"⟩
abbrev cX9_leave : ByteArray := prog_11_method_16_code
def yX9_leave : MethodName := ⟨RX9, "leave", "(LDonkeyBridge$Donkey;I)V"⟩
abbrev cX9_follow : ByteArray := prog_11_method_17_code
def yX9_follow : MethodName := ⟨RX9, "follow", "(LDonkeyBridge$Donkey;III)V"⟩
abbrev cX9_answer : ByteArray := prog_11_method_18_code
def yX9_answer : MethodName := ⟨RX9, "answer", "(LDonkeyBridge$Donkey;III)V"⟩
def RX10 : String := "DonkeyBridge"
def TX10 : u_T := fun k => match k with
  | 0 => ("DonkeyBridge", "road", "LDonkeyBridge$Road;", true)
  | 1 => ("DonkeyBridge", "text", "LDonkeyBridge$Text;", true)
  | 2 => ("DonkeyBridge", "laws", "[LDonkeyBridge$Law;", true)
  | 3 => ("DonkeyBridge", "noLaw", "LDonkeyBridge$Law;", true)
  | 4 => ("DonkeyBridge", "lawCount", "I", false)
  | 5 => ("DonkeyBridge", "walk", "LDonkeyBridge$Walk;", true)
  | 6 => ("DonkeyBridge", "trial", "LDonkeyBridge$Trial;", true)
  | 7 => ("DonkeyBridge", "bodies", "LDonkeyBridge$Bodies;", true)
  | 8 => ("DonkeyBridge", "tapes", "[LDonkeyBridge$Tape;", true)
  | 9 => ("DonkeyBridge", "present", "LDonkeyBridge$Moment;", true)
  | 10 => ("DonkeyBridge", "kept", "LDonkeyBridge$Moment;", true)
  | _ => ("DonkeyBridge", "imageTaken", "Z", false)
def tyX10 : Nat → FieldType := fun k => match k with
  | 0 => .object "DonkeyBridge$Road"
  | 1 => .object "DonkeyBridge$Text"
  | 2 => .array (.object "DonkeyBridge$Law")
  | 3 => .object "DonkeyBridge$Law"
  | 4 => .int
  | 5 => .object "DonkeyBridge$Walk"
  | 6 => .object "DonkeyBridge$Trial"
  | 7 => .object "DonkeyBridge$Bodies"
  | 8 => .array (.object "DonkeyBridge$Tape")
  | 9 => .object "DonkeyBridge$Moment"
  | 10 => .object "DonkeyBridge$Moment"
  | _ => .boolean
theorem nmX10 : ∀ a, a < 12 → ∀ b, b < 12 → a ≠ b → (TX10 a).2.1 ≠ (TX10 b).2.1 := by decide +kernel
theorem tyX10_ok : ∀ k, k < 12 → parseFieldDescriptor (TX10 k).2.2.1 = some (tyX10 k) := by decide +kernel
abbrev cX10_init : ByteArray := prog_1_method_1_code
def yX10_init : MethodName := ⟨RX10, "<init>", "()V"⟩
abbrev cX10_place : ByteArray := prog_1_method_2_code
def yX10_place : MethodName := ⟨RX10, "place", "(III)I"⟩
abbrev cX10_of : ByteArray := prog_1_method_3_code
def yX10_of : MethodName := ⟨RX10, "of", "(II)I"⟩
abbrev cX10_set : ByteArray := prog_1_method_4_code
def yX10_set : MethodName := ⟨RX10, "set", "(II)I"⟩
abbrev cX10_now : ByteArray := prog_1_method_5_code
def yX10_now : MethodName := ⟨RX10, "now", "(I)I"⟩
abbrev cX10_feed : ByteArray := prog_1_method_6_code
def yX10_feed : MethodName := ⟨RX10, "feed", "(I)I"⟩
abbrev cX10_law : ByteArray := prog_1_method_7_code
def yX10_law : MethodName := ⟨RX10, "law", "()I"⟩
abbrev cX10_told : ByteArray := prog_1_method_8_code
def yX10_told : MethodName := ⟨RX10, "told", "(I)I"⟩
abbrev cX10_drive : ByteArray := prog_1_method_9_code
def yX10_drive : MethodName := ⟨RX10, "drive", "(I)I"⟩
abbrev cX10_would : ByteArray := prog_1_method_10_code
def yX10_would : MethodName := ⟨RX10, "would", "(I)I"⟩
abbrev cX10_go : ByteArray := prog_1_method_11_code
def yX10_go : MethodName := ⟨RX10, "go", "(I)I"⟩
abbrev cX10_row : ByteArray := prog_1_method_12_code
def yX10_row : MethodName := ⟨RX10, "row", "(I)I"⟩
abbrev cX10_hand : ByteArray := prog_1_method_13_code
def yX10_hand : MethodName := ⟨RX10, "hand", "(II)I"⟩
abbrev cX10_soonest : ByteArray := prog_1_method_14_code
def yX10_soonest : MethodName := ⟨RX10, "soonest", "(II)I"⟩
abbrev cX10_gentlest : ByteArray := prog_1_method_15_code
def yX10_gentlest : MethodName := ⟨RX10, "gentlest", "(II)I"⟩
abbrev cX10_why : ByteArray := prog_1_method_16_code
def yX10_why : MethodName := ⟨RX10, "why", "()I"⟩
abbrev cX10_waits : ByteArray := prog_1_method_17_code
def yX10_waits : MethodName := ⟨RX10, "waits", "()I"⟩
abbrev cX10_round : ByteArray := prog_1_method_18_code
def yX10_round : MethodName := ⟨RX10, "round", "()I"⟩
abbrev cX10_shiftLoad : ByteArray := prog_1_method_19_code
def yX10_shiftLoad : MethodName := ⟨RX10, "shiftLoad", "()I"⟩
abbrev cX10_wander : ByteArray := prog_1_method_20_code
def yX10_wander : MethodName := ⟨RX10, "wander", "(I)I"⟩
abbrev cX10_sure : ByteArray := prog_1_method_21_code
def yX10_sure : MethodName := ⟨RX10, "sure", "(II)J"⟩
abbrev cX10_days : ByteArray := prog_1_method_22_code
def yX10_days : MethodName := ⟨RX10, "days", "(II)I"⟩
abbrev cX10_beast : ByteArray := prog_1_method_23_code
def yX10_beast : MethodName := ⟨RX10, "beast", "(I)I"⟩
abbrev cX10_string : ByteArray := prog_1_method_24_code
def yX10_string : MethodName := ⟨RX10, "string", "(I)I"⟩
abbrev cX10_film : ByteArray := prog_1_method_25_code
def yX10_film : MethodName := ⟨RX10, "film", "(I)I"⟩
abbrev cX10_off : ByteArray := prog_1_method_26_code
def yX10_off : MethodName := ⟨RX10, "off", "()I"⟩
abbrev cX10_judge : ByteArray := prog_1_method_27_code
def yX10_judge : MethodName := ⟨RX10, "judge", "(II)I"⟩
abbrev cX10_image : ByteArray := prog_1_method_28_code
def yX10_image : MethodName := ⟨RX10, "image", "()I"⟩
abbrev cX10_undo : ByteArray := prog_1_method_29_code
def yX10_undo : MethodName := ⟨RX10, "undo", "()I"⟩
abbrev cX10_part : ByteArray := prog_1_method_30_code
def yX10_part : MethodName := ⟨RX10, "part", "(III)I"⟩
abbrev cX10_trace : ByteArray := prog_1_method_31_code
def yX10_trace : MethodName := ⟨RX10, "trace", "(I)I"⟩
abbrev cX10_taken : ByteArray := prog_1_method_32_code
def yX10_taken : MethodName := ⟨RX10, "taken", "(II)I"⟩
abbrev cX10_count : ByteArray := prog_1_method_33_code
def yX10_count : MethodName := ⟨RX10, "count", "(I)I"⟩
abbrev cX10_tape : ByteArray := prog_1_method_34_code
def yX10_tape : MethodName := ⟨RX10, "tape", "(III)I"⟩
abbrev cX10_item : ByteArray := prog_1_method_35_code
def yX10_item : MethodName := ⟨RX10, "item", "(IIJ)I"⟩
abbrev cX10_read : ByteArray := prog_1_method_36_code
def yX10_read : MethodName := ⟨RX10, "read", "(II)J"⟩
abbrev cX10_shift : ByteArray := prog_1_method_37_code
def yX10_shift : MethodName := ⟨RX10, "shift", "(IIIII)I"⟩
abbrev cX10_isAct : ByteArray := prog_1_method_38_code
def yX10_isAct : MethodName := ⟨RX10, "isAct", "(I)Z"⟩
abbrev cX10_isOver : ByteArray := prog_1_method_39_code
def yX10_isOver : MethodName := ⟨RX10, "isOver", "()Z"⟩
abbrev cX10_heldLaw : ByteArray := prog_1_method_40_code
def yX10_heldLaw : MethodName := ⟨RX10, "heldLaw", "()LDonkeyBridge$Law;"⟩
abbrev cX10_tapeOf : ByteArray := prog_1_method_41_code
def yX10_tapeOf : MethodName := ⟨RX10, "tapeOf", "(I)LDonkeyBridge$Tape;"⟩
abbrev cX10_addOrClear : ByteArray := prog_1_method_42_code
def yX10_addOrClear : MethodName := ⟨RX10, "addOrClear", "(LDonkeyBridge$Strip;I)I"⟩
def RX11 : String := "DonkeyBridgeModel"
def TX11 : u_T := fun k => match k with
  | 0 => ("DonkeyBridgeModel", "code", "I", false)
  | 1 => ("DonkeyBridgeModel", "places", "I", false)
  | 2 => ("DonkeyBridgeModel", "kind", "[I", true)
  | 3 => ("DonkeyBridgeModel", "number", "[I", true)
  | 4 => ("DonkeyBridgeModel", "thing", "[I", true)
  | 5 => ("DonkeyBridgeModel", "is", "[I", true)
  | 6 => ("DonkeyBridgeModel", "tape", "[B", true)
  | 7 => ("DonkeyBridgeModel", "taped", "I", false)
  | 8 => ("DonkeyBridgeModel", "laws", "I", false)
  | 9 => ("DonkeyBridgeModel", "holds", "I", false)
  | 10 => ("DonkeyBridgeModel", "clauseMany", "[I", true)
  | 11 => ("DonkeyBridgeModel", "clauseIs", "[I", true)
  | 12 => ("DonkeyBridgeModel", "clauseN", "[I", true)
  | 13 => ("DonkeyBridgeModel", "clauseFrom", "[I", true)
  | 14 => ("DonkeyBridgeModel", "clauseTo", "[I", true)
  | 15 => ("DonkeyBridgeModel", "step", "[I", true)
  | 16 => ("DonkeyBridgeModel", "letter", "[I", true)
  | 17 => ("DonkeyBridgeModel", "sign", "[I", true)
  | 18 => ("DonkeyBridgeModel", "value", "[I", true)
  | 19 => ("DonkeyBridgeModel", "here", "I", false)
  | 20 => ("DonkeyBridgeModel", "fault", "I", false)
  | 21 => ("DonkeyBridgeModel", "laid", "I", false)
  | 22 => ("DonkeyBridgeModel", "words", "[I", true)
  | 23 => ("DonkeyBridgeModel", "pile", "[Z", true)
  | 24 => ("DonkeyBridgeModel", "moreLead", "I", false)
  | 25 => ("DonkeyBridgeModel", "wandered", "I", false)
  | 26 => ("DonkeyBridgeModel", "rowMany", "I", false)
  | 27 => ("DonkeyBridgeModel", "row", "[I", true)
  | 28 => ("DonkeyBridgeModel", "was", "[I", true)
  | 29 => ("DonkeyBridgeModel", "learntThen", "I", false)
  | 30 => ("DonkeyBridgeModel", "odds", "I", false)
  | 31 => ("DonkeyBridgeModel", "beasts", "I", false)
  | 32 => ("DonkeyBridgeModel", "beastFear", "[I", true)
  | 33 => ("DonkeyBridgeModel", "filmed", "I", false)
  | 34 => ("DonkeyBridgeModel", "film", "[I", true)
  | 35 => ("DonkeyBridgeModel", "tapeSort", "[I", true)
  | 36 => ("DonkeyBridgeModel", "tapeSize", "[I", true)
  | 37 => ("DonkeyBridgeModel", "items", "[J", true)
  | 38 => ("DonkeyBridgeModel", "moving", "[J", true)
  | 39 => ("DonkeyBridgeModel", "hasImage", "Z", false)
  | 40 => ("DonkeyBridgeModel", "keptHolds", "I", false)
  | 41 => ("DonkeyBridgeModel", "keptOdds", "I", false)
  | 42 => ("DonkeyBridgeModel", "keptRows", "I", false)
  | 43 => ("DonkeyBridgeModel", "keptFilmed", "I", false)
  | 44 => ("DonkeyBridgeModel", "keptBeasts", "I", false)
  | 45 => ("DonkeyBridgeModel", "keptIs", "[I", true)
  | 46 => ("DonkeyBridgeModel", "keptRow", "[I", true)
  | 47 => ("DonkeyBridgeModel", "keptFilm", "[I", true)
  | 48 => ("DonkeyBridgeModel", "keptFear", "[I", true)
  | 49 => ("DonkeyBridgeModel", "traces", "I", false)
  | _ => ("DonkeyBridgeModel", "traced", "[I", true)
def tyX11 : Nat → FieldType := fun k => match k with
  | 0 => .int
  | 1 => .int
  | 2 => .array .int
  | 3 => .array .int
  | 4 => .array .int
  | 5 => .array .int
  | 6 => .array .byte
  | 7 => .int
  | 8 => .int
  | 9 => .int
  | 10 => .array .int
  | 11 => .array .int
  | 12 => .array .int
  | 13 => .array .int
  | 14 => .array .int
  | 15 => .array .int
  | 16 => .array .int
  | 17 => .array .int
  | 18 => .array .int
  | 19 => .int
  | 20 => .int
  | 21 => .int
  | 22 => .array .int
  | 23 => .array .boolean
  | 24 => .int
  | 25 => .int
  | 26 => .int
  | 27 => .array .int
  | 28 => .array .int
  | 29 => .int
  | 30 => .int
  | 31 => .int
  | 32 => .array .int
  | 33 => .int
  | 34 => .array .int
  | 35 => .array .int
  | 36 => .array .int
  | 37 => .array .long
  | 38 => .array .long
  | 39 => .boolean
  | 40 => .int
  | 41 => .int
  | 42 => .int
  | 43 => .int
  | 44 => .int
  | 45 => .array .int
  | 46 => .array .int
  | 47 => .array .int
  | 48 => .array .int
  | 49 => .int
  | _ => .array .int
theorem nmX11 : ∀ a, a < 51 → ∀ b, b < 51 → a ≠ b → (TX11 a).2.1 ≠ (TX11 b).2.1 := by decide +kernel
theorem tyX11_ok : ∀ k, k < 51 → parseFieldDescriptor (TX11 k).2.2.1 = some (tyX11 k) := by decide +kernel
abbrev cX11_init : ByteArray := prog_13_method_1_code
def yX11_init : MethodName := ⟨RX11, "<init>", "()V"⟩
abbrev cX11_in : ByteArray := prog_13_method_3_code
def yX11_in : MethodName := ⟨RX11, "in", "(III)Z"⟩
abbrev cX11_sizeOf : ByteArray := prog_13_method_4_code
def yX11_sizeOf : MethodName := ⟨RX11, "sizeOf", "(I)I"⟩
abbrev cX11_held : ByteArray := prog_13_method_5_code
def yX11_held : MethodName := ⟨RX11, "held", "(II)I"⟩
abbrev cX11_isPlace : ByteArray := prog_13_method_6_code
def yX11_isPlace : MethodName := ⟨RX11, "isPlace", "(I)Z"⟩
abbrev cX11_place : ByteArray := prog_13_method_7_code
def yX11_place : MethodName := ⟨RX11, "place", "(III)I"⟩
abbrev cX11_of : ByteArray := prog_13_method_8_code
def yX11_of : MethodName := ⟨RX11, "of", "(II)I"⟩
abbrev cX11_isOver : ByteArray := prog_13_method_9_code
def yX11_isOver : MethodName := ⟨RX11, "isOver", "()Z"⟩
abbrev cX11_mostOf : ByteArray := prog_13_method_10_code
def yX11_mostOf : MethodName := ⟨RX11, "mostOf", "(I)I"⟩
abbrev cX11_set : ByteArray := prog_13_method_11_code
def yX11_set : MethodName := ⟨RX11, "set", "(II)I"⟩
abbrev cX11_learnt : ByteArray := prog_13_method_12_code
def yX11_learnt : MethodName := ⟨RX11, "learnt", "()I"⟩
abbrev cX11_nowOf : ByteArray := prog_13_method_13_code
def yX11_nowOf : MethodName := ⟨RX11, "nowOf", "(I)I"⟩
abbrev cX11_now : ByteArray := prog_13_method_14_code
def yX11_now : MethodName := ⟨RX11, "now", "(I)I"⟩
abbrev cX11_feed : ByteArray := prog_13_method_15_code
def yX11_feed : MethodName := ⟨RX11, "feed", "(I)I"⟩
abbrev cX11_isHere : ByteArray := prog_13_method_16_code
def yX11_isHere : MethodName := ⟨RX11, "isHere", "(I)Z"⟩
abbrev cX11_faulty : ByteArray := prog_13_method_17_code
def yX11_faulty : MethodName := ⟨RX11, "faulty", "()V"⟩
abbrev cX11_takes : ByteArray := prog_13_method_18_code
def yX11_takes : MethodName := ⟨RX11, "takes", "(I)V"⟩
abbrev cX11_isDigit : ByteArray := prog_13_method_19_code
def yX11_isDigit : MethodName := ⟨RX11, "isDigit", "()Z"⟩
abbrev cX11_readNumber : ByteArray := prog_13_method_20_code
def yX11_readNumber : MethodName := ⟨RX11, "readNumber", "()I"⟩
abbrev cX11_lay : ByteArray := prog_13_method_21_code
def yX11_lay : MethodName := ⟨RX11, "lay", "(I)V"⟩
abbrev cX11_either : ByteArray := prog_13_method_22_code
def yX11_either : MethodName := ⟨RX11, "either", "(I)V"⟩
abbrev cX11_both : ByteArray := prog_13_method_23_code
def yX11_both : MethodName := ⟨RX11, "both", "(I)V"⟩
abbrev cX11_isLetter : ByteArray := prog_13_method_24_code
def yX11_isLetter : MethodName := ⟨RX11, "isLetter", "()Z"⟩
abbrev cX11_one : ByteArray := prog_13_method_25_code
def yX11_one : MethodName := ⟨RX11, "one", "(I)V"⟩
abbrev cX11_readWord : ByteArray := prog_13_method_26_code
def yX11_readWord : MethodName := ⟨RX11, "readWord", "()I"⟩
abbrev cX11_clause : ByteArray := prog_13_method_27_code
def yX11_clause : MethodName := ⟨RX11, "clause", "()V"⟩
abbrev cX11_law : ByteArray := prog_13_method_28_code
def yX11_law : MethodName := ⟨RX11, "law", "()I"⟩
abbrev cX11_factOf : ByteArray := prog_13_method_29_code
def yX11_factOf : MethodName := ⟨RX11, "factOf", "(I)I"⟩
abbrev cX11_test : ByteArray := prog_13_method_30_code
def yX11_test : MethodName := ⟨RX11, "test", "(III)Z"⟩
abbrev cX11_isSo : ByteArray := prog_13_method_31_code
def yX11_isSo : MethodName := ⟨RX11, "isSo", "(I)Z"⟩
abbrev cX11_sumOf : ByteArray := prog_13_method_32_code
def yX11_sumOf : MethodName := ⟨RX11, "sumOf", "(I)I"⟩
abbrev cX11_lastOf : ByteArray := prog_13_method_33_code
def yX11_lastOf : MethodName := ⟨RX11, "lastOf", "(I)I"⟩
abbrev cX11_fordHalves : ByteArray := prog_13_method_34_code
def yX11_fordHalves : MethodName := ⟨RX11, "fordHalves", "()I"⟩
abbrev cX11_told : ByteArray := prog_13_method_35_code
def yX11_told : MethodName := ⟨RX11, "told", "(I)I"⟩
abbrev cX11_fearAs : ByteArray := prog_13_method_36_code
def yX11_fearAs : MethodName := ⟨RX11, "fearAs", "(I)I"⟩
abbrev cX11_lessBy : ByteArray := prog_13_method_37_code
def yX11_lessBy : MethodName := ⟨RX11, "lessBy", "(II)I"⟩
abbrev cX11_driveBy : ByteArray := prog_13_method_38_code
def yX11_driveBy : MethodName := ⟨RX11, "driveBy", "(I)I"⟩
abbrev cX11_isAct : ByteArray := prog_13_method_39_code
def yX11_isAct : MethodName := ⟨RX11, "isAct", "(I)Z"⟩
abbrev cX11_drive : ByteArray := prog_13_method_40_code
def yX11_drive : MethodName := ⟨RX11, "drive", "(I)I"⟩
abbrev cX11_wouldBy : ByteArray := prog_13_method_41_code
def yX11_wouldBy : MethodName := ⟨RX11, "wouldBy", "(I)I"⟩
abbrev cX11_would : ByteArray := prog_13_method_42_code
def yX11_would : MethodName := ⟨RX11, "would", "(I)I"⟩
abbrev cX11_more : ByteArray := prog_13_method_43_code
def yX11_more : MethodName := ⟨RX11, "more", "(II)V"⟩
abbrev cX11_does : ByteArray := prog_13_method_44_code
def yX11_does : MethodName := ⟨RX11, "does", "(I)I"⟩
abbrev cX11_driven : ByteArray := prog_13_method_45_code
def yX11_driven : MethodName := ⟨RX11, "driven", "(IZI)V"⟩
abbrev cX11_go : ByteArray := prog_13_method_46_code
def yX11_go : MethodName := ⟨RX11, "go", "(I)I"⟩
abbrev cX11_row : ByteArray := prog_13_method_47_code
def yX11_row : MethodName := ⟨RX11, "row", "(I)I"⟩
abbrev cX11_keepNow : ByteArray := prog_13_method_48_code
def yX11_keepNow : MethodName := ⟨RX11, "keepNow", "()V"⟩
abbrev cX11_layBack : ByteArray := prog_13_method_49_code
def yX11_layBack : MethodName := ⟨RX11, "layBack", "()V"⟩
abbrev cX11_hand : ByteArray := prog_13_method_50_code
def yX11_hand : MethodName := ⟨RX11, "hand", "(II)I"⟩
abbrev cX11_actOf : ByteArray := prog_13_method_51_code
def yX11_actOf : MethodName := ⟨RX11, "actOf", "(III)I"⟩
abbrev cX11_rowsOf : ByteArray := prog_13_method_52_code
def yX11_rowsOf : MethodName := ⟨RX11, "rowsOf", "(I)I"⟩
abbrev cX11_atBehind : ByteArray := prog_13_method_53_code
def yX11_atBehind : MethodName := ⟨RX11, "atBehind", "(II)I"⟩
abbrev cX11_soonest : ByteArray := prog_13_method_54_code
def yX11_soonest : MethodName := ⟨RX11, "soonest", "(II)I"⟩
abbrev cX11_gentlest : ByteArray := prog_13_method_55_code
def yX11_gentlest : MethodName := ⟨RX11, "gentlest", "(II)I"⟩
abbrev cX11_why : ByteArray := prog_13_method_56_code
def yX11_why : MethodName := ⟨RX11, "why", "()I"⟩
abbrev cX11_waitsFor : ByteArray := prog_13_method_57_code
def yX11_waitsFor : MethodName := ⟨RX11, "waitsFor", "()I"⟩
abbrev cX11_waits : ByteArray := prog_13_method_58_code
def yX11_waits : MethodName := ⟨RX11, "waits", "()I"⟩
abbrev cX11_round : ByteArray := prog_13_method_59_code
def yX11_round : MethodName := ⟨RX11, "round", "()I"⟩
abbrev cX11_shiftLoad : ByteArray := prog_13_method_60_code
def yX11_shiftLoad : MethodName := ⟨RX11, "shiftLoad", "()I"⟩
abbrev cX11_wander : ByteArray := prog_13_method_61_code
def yX11_wander : MethodName := ⟨RX11, "wander", "(I)I"⟩
abbrev cX11_lowest : ByteArray := prog_13_method_62_code
def yX11_lowest : MethodName := ⟨RX11, "lowest", "(JJZ)J"⟩
abbrev cX11_sure : ByteArray := prog_13_method_63_code
def yX11_sure : MethodName := ⟨RX11, "sure", "(II)J"⟩
abbrev cX11_days : ByteArray := prog_13_method_64_code
def yX11_days : MethodName := ⟨RX11, "days", "(II)I"⟩
abbrev cX11_beast : ByteArray := prog_13_method_65_code
def yX11_beast : MethodName := ⟨RX11, "beast", "(I)I"⟩
abbrev cX11_string : ByteArray := prog_13_method_66_code
def yX11_string : MethodName := ⟨RX11, "string", "(I)I"⟩
abbrev cX11_film : ByteArray := prog_13_method_67_code
def yX11_film : MethodName := ⟨RX11, "film", "(I)I"⟩
abbrev cX11_off : ByteArray := prog_13_method_68_code
def yX11_off : MethodName := ⟨RX11, "off", "()I"⟩
abbrev cX11_isTape : ByteArray := prog_13_method_69_code
def yX11_isTape : MethodName := ⟨RX11, "isTape", "(I)Z"⟩
abbrev cX11_judge : ByteArray := prog_13_method_70_code
def yX11_judge : MethodName := ⟨RX11, "judge", "(II)I"⟩
abbrev cX11_image : ByteArray := prog_13_method_71_code
def yX11_image : MethodName := ⟨RX11, "image", "()I"⟩
abbrev cX11_undo : ByteArray := prog_13_method_72_code
def yX11_undo : MethodName := ⟨RX11, "undo", "()I"⟩
abbrev cX11_ran : ByteArray := prog_13_method_73_code
def yX11_ran : MethodName := ⟨RX11, "ran", "(I)V"⟩
abbrev cX11_plainHolds : ByteArray := prog_13_method_74_code
def yX11_plainHolds : MethodName := ⟨RX11, "plainHolds", "(II)I"⟩
abbrev cX11_holding : ByteArray := prog_13_method_75_code
def yX11_holding : MethodName := ⟨RX11, "holding", "(II)I"⟩
abbrev cX11_plainChooses : ByteArray := prog_13_method_76_code
def yX11_plainChooses : MethodName := ⟨RX11, "plainChooses", "(II)I"⟩
abbrev cX11_fearedChooses : ByteArray := prog_13_method_77_code
def yX11_fearedChooses : MethodName := ⟨RX11, "fearedChooses", "(II)I"⟩
abbrev cX11_chooses : ByteArray := prog_13_method_78_code
def yX11_chooses : MethodName := ⟨RX11, "chooses", "(II)I"⟩
abbrev cX11_calledChooses : ByteArray := prog_13_method_79_code
def yX11_calledChooses : MethodName := ⟨RX11, "calledChooses", "(II)I"⟩
abbrev cX11_plainTells : ByteArray := prog_13_method_80_code
def yX11_plainTells : MethodName := ⟨RX11, "plainTells", "(II)I"⟩
abbrev cX11_telling : ByteArray := prog_13_method_81_code
def yX11_telling : MethodName := ⟨RX11, "telling", "(II)I"⟩
abbrev cX11_spoiltTells : ByteArray := prog_13_method_82_code
def yX11_spoiltTells : MethodName := ⟨RX11, "spoiltTells", "(II)I"⟩
abbrev cX11_part : ByteArray := prog_13_method_83_code
def yX11_part : MethodName := ⟨RX11, "part", "(III)I"⟩
abbrev cX11_trace : ByteArray := prog_13_method_84_code
def yX11_trace : MethodName := ⟨RX11, "trace", "(I)I"⟩
abbrev cX11_isUnder : ByteArray := prog_13_method_85_code
def yX11_isUnder : MethodName := ⟨RX11, "isUnder", "(II)Z"⟩
abbrev cX11_taken : ByteArray := prog_13_method_86_code
def yX11_taken : MethodName := ⟨RX11, "taken", "(II)I"⟩
abbrev cX11_count : ByteArray := prog_13_method_87_code
def yX11_count : MethodName := ⟨RX11, "count", "(I)I"⟩
abbrev cX11_tape : ByteArray := prog_13_method_88_code
def yX11_tape : MethodName := ⟨RX11, "tape", "(III)I"⟩
abbrev cX11_as : ByteArray := prog_13_method_89_code
def yX11_as : MethodName := ⟨RX11, "as", "(IJ)J"⟩
abbrev cX11_item : ByteArray := prog_13_method_90_code
def yX11_item : MethodName := ⟨RX11, "item", "(IIJ)I"⟩
abbrev cX11_read : ByteArray := prog_13_method_91_code
def yX11_read : MethodName := ⟨RX11, "read", "(II)J"⟩
abbrev cX11_shift : ByteArray := prog_13_method_92_code
def yX11_shift : MethodName := ⟨RX11, "shift", "(IIIII)I"⟩
def RJx145de : String := "java/io/Serializable"
def RJx9f9b0 : String := "java/lang/CharSequence"
def RJ11 : String := "java/lang/Character"
abbrev cJ11_isValidCodePoint_9a6ad : ByteArray := prog_14_method_11_code
def yJ11_isValidCodePoint_9a6ad : MethodName := ⟨RJ11, "isValidCodePoint", "(I)Z"⟩
abbrev cJ11_highSurrogate_5068e : ByteArray := prog_14_method_28_code
def yJ11_highSurrogate_5068e : MethodName := ⟨RJ11, "highSurrogate", "(I)C"⟩
abbrev cJ11_lowSurrogate_5068e : ByteArray := prog_14_method_29_code
def yJ11_lowSurrogate_5068e : MethodName := ⟨RJ11, "lowSurrogate", "(I)C"⟩
def RJxb160c : String := "java/lang/Comparable"
def RJ9 : String := "java/lang/Math"
abbrev cJ9_abs_0f7a4 : ByteArray := prog_15_method_59_code
def yJ9_abs_0f7a4 : MethodName := ⟨RJ9, "abs", "(I)I"⟩
abbrev cJ9_max_7cf53 : ByteArray := prog_15_method_65_code
def yJ9_max_7cf53 : MethodName := ⟨RJ9, "max", "(II)I"⟩
abbrev cJ9_min_7cf53 : ByteArray := prog_15_method_69_code
def yJ9_min_7cf53 : MethodName := ⟨RJ9, "min", "(II)I"⟩
def RJ0 : String := "java/lang/String"
abbrev cJ0_length_8abf5 : ByteArray := prog_16_method_54_code
def yJ0_length_8abf5 : MethodName := ⟨RJ0, "length", "()I"⟩
abbrev cJ0_charAt_5068e : ByteArray := prog_16_method_56_code
def yJ0_charAt_5068e : MethodName := ⟨RJ0, "charAt", "(I)C"⟩
abbrev cJ0_indexOf_0f7a4 : ByteArray := prog_16_method_79_code
def yJ0_indexOf_0f7a4 : MethodName := ⟨RJ0, "indexOf", "(I)I"⟩
abbrev cJ0_indexOf_7cf53 : ByteArray := prog_16_method_80_code
def yJ0_indexOf_7cf53 : MethodName := ⟨RJ0, "indexOf", "(II)I"⟩
abbrev cJ0_coder_7d493 : ByteArray := prog_16_method_152_code
def yJ0_coder_7d493 : MethodName := ⟨RJ0, "coder", "()B"⟩
abbrev cJ0_isLatin1_aae02 : ByteArray := prog_16_method_154_code
def yJ0_isLatin1_aae02 : MethodName := ⟨RJ0, "isLatin1", "()Z"⟩
abbrev cJ0_checkIndex_df160 : ByteArray := prog_16_method_155_code
def yJ0_checkIndex_df160 : MethodName := ⟨RJ0, "checkIndex", "(II)V"⟩
abbrev cJ0_checkBoundsBeginEnd_23922 : ByteArray := prog_16_method_158_code
def yJ0_checkBoundsBeginEnd_23922 : MethodName := ⟨RJ0, "checkBoundsBeginEnd", "(III)V"⟩
def RJ1 : String := "java/lang/StringLatin1"
abbrev cJ1_charAt_3b067 : ByteArray := prog_17_method_2_code
def yJ1_charAt_3b067 : MethodName := ⟨RJ1, "charAt", "([BI)C"⟩
abbrev cJ1_canEncode_9a6ad : ByteArray := prog_17_method_4_code
def yJ1_canEncode_9a6ad : MethodName := ⟨RJ1, "canEncode", "(I)Z"⟩
abbrev cJ1_indexOf_4cfef : ByteArray := prog_17_method_22_code
def yJ1_indexOf_4cfef : MethodName := ⟨RJ1, "indexOf", "([BIII)I"⟩
abbrev cJ1_indexOfChar_4cfef : ByteArray := prog_17_method_23_code
def yJ1_indexOfChar_4cfef : MethodName := ⟨RJ1, "indexOfChar", "([BIII)I"⟩
def RJ2 : String := "java/lang/StringUTF16"
abbrev cJ2_getChar_3b067 : ByteArray := prog_18_method_5_code
def yJ2_getChar_3b067 : MethodName := ⟨RJ2, "getChar", "([BI)C"⟩
abbrev cJ2_length_9d52b : ByteArray := prog_18_method_6_code
def yJ2_length_9d52b : MethodName := ⟨RJ2, "length", "([B)I"⟩
abbrev cJ2_indexOf_4cfef : ByteArray := prog_18_method_40_code
def yJ2_indexOf_4cfef : MethodName := ⟨RJ2, "indexOf", "([BIII)I"⟩
abbrev cJ2_indexOfChar_4cfef : ByteArray := prog_18_method_47_code
def yJ2_indexOfChar_4cfef : MethodName := ⟨RJ2, "indexOfChar", "([BIII)I"⟩
abbrev cJ2_indexOfCharUnsafe_4cfef : ByteArray := prog_18_method_48_code
def yJ2_indexOfCharUnsafe_4cfef : MethodName := ⟨RJ2, "indexOfCharUnsafe", "([BIII)I"⟩
abbrev cJ2_indexOfSupplementary_4cfef : ByteArray := prog_18_method_49_code
def yJ2_indexOfSupplementary_4cfef : MethodName := ⟨RJ2, "indexOfSupplementary", "([BIII)I"⟩
abbrev cJ2_charAt_3b067 : ByteArray := prog_18_method_83_code
def yJ2_charAt_3b067 : MethodName := ⟨RJ2, "charAt", "([BI)C"⟩
abbrev cJ2_checkIndex_2214a : ByteArray := prog_18_method_91_code
def yJ2_checkIndex_2214a : MethodName := ⟨RJ2, "checkIndex", "(I[B)V"⟩
abbrev cJ2_checkBoundsBeginEnd_d044e : ByteArray := prog_18_method_93_code
def yJ2_checkBoundsBeginEnd_d044e : MethodName := ⟨RJ2, "checkBoundsBeginEnd", "(II[B)V"⟩
def RJ10 : String := "java/lang/System"
def RJxfd54e : String := "java/lang/constant/Constable"
def RJx3cf43 : String := "java/lang/constant/ConstantDesc"
def RJ7 : String := "java/util/Arrays"
abbrev cJ7_rangeCheck_23922 : ByteArray := prog_20_method_30_code
def yJ7_rangeCheck_23922 : MethodName := ⟨RJ7, "rangeCheck", "(III)V"⟩
abbrev cJ7_fill_d0a16 : ByteArray := prog_20_method_101_code
def yJ7_fill_d0a16 : MethodName := ⟨RJ7, "fill", "([JJ)V"⟩
abbrev cJ7_fill_fda19 : ByteArray := prog_20_method_104_code
def yJ7_fill_fda19 : MethodName := ⟨RJ7, "fill", "([IIII)V"⟩
def RJ3 : String := "jdk/internal/util/Preconditions"
abbrev cJ3_checkIndex_8e157 : ByteArray := prog_21_method_11_code
def yJ3_checkIndex_8e157 : MethodName := ⟨RJ3, "checkIndex", "(IILjava/util/function/BiFunction;)I"⟩
abbrev cJ3_checkFromToIndex_8c36e : ByteArray := prog_21_method_12_code
def yJ3_checkFromToIndex_8c36e : MethodName := ⟨RJ3, "checkFromToIndex", "(IIILjava/util/function/BiFunction;)I"⟩
def RL : String := "DonkeyBridgeLaw"
abbrev cL_law : ByteArray := code
def yL_law : MethodName := ⟨RL, "law", "([I)Z"⟩
abbrev vwCl : List vw_C := [(RX0, TX0, 6), (RX1, TX1, 1), (RX2, TX2, 6), (RX3, TX3, 6), (RX4, TX4, 4), (RX5, TX5, 2), (RX6, TX6, 3), (RX7, TX7, 2), (RX8, TX8, 9), (RX9, TX9, 4), (RX10, TX10, 12), (RX11, TX11, 51)]
theorem dk {cc : ByteArray} {tb : List (Nat × Instr × Nat)} (h : tb.all (fun q => decide (decode cc q.1 = .ok q.2)) = true) (i : Nat) {pc len : Nat} {ins : Instr} (hi : tb[i]? = some (pc, ins, len)) : decode cc pc = .ok (ins, len) := by
  have h1 := List.all_eq_true.mp h _ (List.mem_of_getElem? hi)
  exact of_decide_eq_true h1
def tbX0_init_0 : List (Nat × Instr × Nat) := [(0, .aload_n 0, 1), (1, .invokespecial 3, 3), (4, .aload_n 0, 1), (5, .new 9, 3), (8, .dup, 1), (9, .bipush 20, 2), (11, .invokespecial 13, 3), (14, .putfield 16, 3), (17, .aload_n 0, 1), (18, .aload_n 1, 1), (19, .putfield 20, 3), (22, .return_, 1)]
theorem dcX0_init_0 : tbX0_init_0.all (fun q => decide (decode cX0_init q.1 = .ok q.2)) = true := by decide +kernel
def tbX0_ran_0 : List (Nat × Instr × Nat) := [(0, .aload_n 0, 1), (1, .getfield 24, 3), (4, .ireturn, 1)]
theorem dcX0_ran_0 : tbX0_ran_0.all (fun q => decide (decode cX0_ran q.1 = .ok q.2)) = true := by decide +kernel
def tbX0_kept_0 : List (Nat × Instr × Nat) := [(0, .aload_n 0, 1), (1, .getfield 16, 3), (4, .iload_n 1, 1), (5, .invokevirtual 28, 3), (8, .ireturn, 1)]
theorem dcX0_kept_0 : tbX0_kept_0.all (fun q => decide (decode cX0_kept q.1 = .ok q.2)) = true := by decide +kernel
def tbX0_ask_0 : List (Nat × Instr × Nat) := [(0, .aload_n 0, 1), (1, .getfield 16, 3), (4, .invokevirtual 32, 3), (7, .aload_n 0, 1), (8, .iconst 0, 1), (9, .putfield 24, 3), (12, .aload_n 0, 1), (13, .getfield 20, 3), (16, .iload_n 1, 1), (17, .invokevirtual 35, 3), (20, .ifCond .eq 12, 3), (23, .iload_n 2, 1), (24, .ifCond .lt 8, 3), (27, .iload_n 2, 1), (28, .iconst 2, 1), (29, .if_icmp .le 5, 3), (32, .iconst 0, 1), (33, .ireturn, 1), (34, .aload_n 0, 1), (35, .aload_n 0, 1), (36, .getfield 20, 3), (39, .iload_n 1, 1), (40, .invokevirtual 41, 3), (43, .putfield 44, 3), (46, .aload_n 0, 1), (47, .aload_n 0, 1), (48, .getfield 20, 3), (51, .iload_n 1, 1), (52, .invokevirtual 47, 3), (55, .putfield 50, 3), (58, .aload_n 0, 1), (59, .iload_n 1, 1), (60, .putfield 53, 3), (63, .aload_n 0, 1), (64, .aload_n 0, 1), (65, .getfield 44, 3), (68, .iload_n 2, 1), (69, .iload_n 3, 1), (70, .iconst 0, 1), (71, .invokevirtual 56, 3), (74, .ireturn, 1)]
theorem dcX0_ask_0 : tbX0_ask_0.all (fun q => decide (decode cX0_ask q.1 = .ok q.2)) = true := by decide +kernel
def tbX0_bodyOf_0 : List (Nat × Instr × Nat) := [(0, .iload_n 0, 1), (1, .istore_n 2, 1), (2, .iconst 0, 1), (3, .istore_n 3, 1), (4, .iload_n 3, 1), (5, .getstatic 60, 3), (8, .arraylength, 1), (9, .if_icmp .ge 57, 3), (12, .iload_n 2, 1), (13, .iconst 3, 1), (14, .imul, 1), (15, .iload_n 1, 1), (16, .iadd, 1), (17, .istore 4, 2), (19, .iload_n 2, 1), (20, .ifCond .lt 17, 3), (23, .iload 4, 2), (25, .ifCond .lt 12, 3), (28, .iload 4, 2), (30, .getstatic 60, 3), (33, .arraylength, 1), (34, .if_icmp .lt 5, 3), (37, .iconst 0, 1), (38, .ireturn, 1), (39, .getstatic 60, 3), (42, .iload 4, 2), (44, .iaload, 1), (45, .ifCond .eq 10, 3), (48, .getstatic 60, 3), (51, .iload 4, 2), (53, .iaload, 1), (54, .ireturn, 1), (55, .iload_n 2, 1), (56, .invokestatic 64, 3), (59, .istore_n 2, 1), (60, .iinc 3 1, 3), (63, .goto (-59), 3), (66, .iconst 0, 1), (67, .ireturn, 1)]
theorem dcX0_bodyOf_0 : tbX0_bodyOf_0.all (fun q => decide (decode cX0_bodyOf q.1 = .ok q.2)) = true := by decide +kernel
def tbX0_run_0 : List (Nat × Instr × Nat) := [(0, .iload 4, 2), (2, .bipush 40, 2), (4, .if_icmp .lt 5, 3), (7, .iconst 0, 1), (8, .ireturn, 1), (9, .iload_n 1, 1), (10, .iload_n 2, 1), (11, .invokestatic 67, 3), (14, .istore 5, 2), (16, .aload_n 0, 1), (17, .dup, 1), (18, .getfield 24, 3), (21, .iconst 1, 1), (22, .iadd, 1), (23, .putfield 24, 3), (26, .aload_n 0, 1), (27, .getfield 16, 3), (30, .iload 5, 2), (32, .invokevirtual 71, 3), (35, .pop, 1), (36, .aload_n 0, 1), (37, .iload 5, 2), (39, .iload_n 3, 1), (40, .iload 4, 2), (42, .iconst 1, 1), (43, .iadd, 1), (44, .invokevirtual 74, 3), (47, .ireturn, 1)]
theorem dcX0_run_0 : tbX0_run_0.all (fun q => decide (decode cX0_run q.1 = .ok q.2)) = true := by decide +kernel
def tbX0_answer_0 : List (Nat × Instr × Nat) := [(0, .iload_n 1, 1), (1, .lookupswitch 248 #[(10, 99), (11, 106), (12, 123), (20, 137), (30, 149), (40, 160), (50, 181), (51, 191), (60, 202), (70, 216), (71, 234)], 99), (100, .iload_n 2, 1), (101, .aload_n 0, 1), (102, .getfield 53, 3), (105, .iadd, 1), (106, .ireturn, 1), (107, .aload_n 0, 1), (108, .aload_n 0, 1), (109, .getfield 44, 3), (112, .iconst 0, 1), (113, .iload_n 2, 1), (114, .iload_n 3, 1), (115, .invokevirtual 56, 3), (118, .aload_n 0, 1), (119, .getfield 50, 3), (122, .isub, 1), (123, .ireturn, 1), (124, .aload_n 0, 1), (125, .aload_n 0, 1), (126, .getfield 44, 3), (129, .iconst 1, 1), (130, .iload_n 2, 1), (131, .iload_n 3, 1), (132, .invokevirtual 56, 3), (135, .iconst 2, 1), (136, .imul, 1), (137, .ireturn, 1), (138, .aload_n 0, 1), (139, .iconst 0, 1), (140, .iconst 1, 1), (141, .iload_n 2, 1), (142, .iload_n 3, 1), (143, .invokevirtual 56, 3), (146, .bipush 6, 2), (148, .ixor, 1), (149, .ireturn, 1), (150, .aload_n 0, 1), (151, .iconst 0, 1), (152, .iconst 0, 1), (153, .iload_n 2, 1), (154, .iconst 3, 1), (155, .imul, 1), (156, .iload_n 3, 1), (157, .invokevirtual 56, 3), (160, .ireturn, 1), (161, .aload_n 0, 1), (162, .iconst 0, 1)]
theorem dcX0_answer_0 : tbX0_answer_0.all (fun q => decide (decode cX0_answer q.1 = .ok q.2)) = true := by decide +kernel
def tbX0_answer_1 : List (Nat × Instr × Nat) := [(163, .iconst 2, 1), (164, .iload_n 2, 1), (165, .iload_n 3, 1), (166, .invokevirtual 56, 3), (169, .aload_n 0, 1), (170, .aload_n 0, 1), (171, .getfield 44, 3), (174, .iconst 1, 1), (175, .iconst 1, 1), (176, .iload_n 3, 1), (177, .invokevirtual 56, 3), (180, .iadd, 1), (181, .ireturn, 1), (182, .aload_n 0, 1), (183, .iconst 1, 1), (184, .iconst 0, 1), (185, .iload_n 2, 1), (186, .iload_n 3, 1), (187, .invokevirtual 56, 3), (190, .ineg, 1), (191, .ireturn, 1), (192, .aload_n 0, 1), (193, .iconst 1, 1), (194, .iconst 1, 1), (195, .iload_n 2, 1), (196, .iconst 1, 1), (197, .iadd, 1), (198, .iload_n 3, 1), (199, .invokevirtual 56, 3), (202, .ireturn, 1), (203, .aload_n 0, 1), (204, .iconst 2, 1), (205, .iconst 2, 1), (206, .iload_n 2, 1), (207, .aload_n 0, 1), (208, .getfield 53, 3), (211, .isub, 1), (212, .iload_n 3, 1), (213, .invokevirtual 56, 3), (216, .ireturn, 1), (217, .aload_n 0, 1), (218, .iconst 3, 1), (219, .iconst 1, 1), (220, .iload_n 2, 1), (221, .iload_n 3, 1), (222, .invokevirtual 56, 3), (225, .aload_n 0, 1), (226, .iconst 3, 1)]
theorem dcX0_answer_1 : tbX0_answer_1.all (fun q => decide (decode cX0_answer q.1 = .ok q.2)) = true := by decide +kernel
def tbX0_answer_2 : List (Nat × Instr × Nat) := [(227, .iconst 0, 1), (228, .iconst 2, 1), (229, .iload_n 3, 1), (230, .invokevirtual 56, 3), (233, .iadd, 1), (234, .ireturn, 1), (235, .aload_n 0, 1), (236, .iconst 3, 1), (237, .iconst 0, 1), (238, .iload_n 2, 1), (239, .iload_n 3, 1), (240, .invokevirtual 56, 3), (243, .aload_n 0, 1), (244, .getfield 50, 3), (247, .ixor, 1), (248, .ireturn, 1), (249, .iconst 0, 1), (250, .ireturn, 1)]
theorem dcX0_answer_2 : tbX0_answer_2.all (fun q => decide (decode cX0_answer q.1 = .ok q.2)) = true := by decide +kernel
def tbX1_init_0 : List (Nat × Instr × Nat) := [(0, .aload_n 0, 1), (1, .invokespecial 3, 3), (4, .aload_n 0, 1), (5, .getstatic 9, 3), (8, .arraylength, 1), (9, .newarray .int, 2), (11, .putfield 15, 3), (14, .aload_n 0, 1), (15, .getfield 15, 3), (18, .iconst 0, 1), (19, .bipush 6, 2), (21, .bipush 10, 2), (23, .invokestatic 18, 3), (26, .aload_n 0, 1), (27, .getfield 15, 3), (30, .bipush 7, 2), (32, .bipush 20, 2), (34, .iastore, 1), (35, .return_, 1)]
theorem dcX1_init_0 : tbX1_init_0.all (fun q => decide (decode cX1_init q.1 = .ok q.2)) = true := by decide +kernel
def tbX1_mostOf_0 : List (Nat × Instr × Nat) := [(0, .iload_n 0, 1), (1, .ifCond .lt 19, 3), (4, .iload_n 0, 1), (5, .getstatic 9, 3), (8, .arraylength, 1), (9, .if_icmp .ge 11, 3), (12, .getstatic 9, 3), (15, .iload_n 0, 1), (16, .iaload, 1), (17, .goto 4, 3), (20, .iconst 0, 1), (21, .ireturn, 1)]
theorem dcX1_mostOf_0 : tbX1_mostOf_0.all (fun q => decide (decode cX1_mostOf q.1 = .ok q.2)) = true := by decide +kernel
def tbX1_get_0 : List (Nat × Instr × Nat) := [(0, .iload_n 1, 1), (1, .ifCond .lt 21, 3), (4, .iload_n 1, 1), (5, .aload_n 0, 1), (6, .getfield 15, 3), (9, .arraylength, 1), (10, .if_icmp .ge 12, 3), (13, .aload_n 0, 1), (14, .getfield 15, 3), (17, .iload_n 1, 1), (18, .iaload, 1), (19, .goto 4, 3), (22, .iconst 0, 1), (23, .ireturn, 1)]
theorem dcX1_get_0 : tbX1_get_0.all (fun q => decide (decode cX1_get q.1 = .ok q.2)) = true := by decide +kernel
def tbX1_tell_0 : List (Nat × Instr × Nat) := [(0, .iload_n 1, 1), (1, .bipush 15, 2), (3, .if_icmp .ne 10, 3), (6, .aload_n 0, 1), (7, .invokevirtual 24, 3), (10, .goto 8, 3), (13, .aload_n 0, 1), (14, .iload_n 1, 1), (15, .invokevirtual 28, 3), (18, .ireturn, 1)]
theorem dcX1_tell_0 : tbX1_tell_0.all (fun q => decide (decode cX1_tell q.1 = .ok q.2)) = true := by decide +kernel
def tbX1_put_0 : List (Nat × Instr × Nat) := [(0, .iload_n 1, 1), (1, .ifCond .lt 19, 3), (4, .iload_n 1, 1), (5, .aload_n 0, 1), (6, .getfield 15, 3), (9, .arraylength, 1), (10, .if_icmp .ge 10, 3), (13, .aload_n 0, 1), (14, .getfield 15, 3), (17, .iload_n 1, 1), (18, .iload_n 2, 1), (19, .iastore, 1), (20, .return_, 1)]
theorem dcX1_put_0 : tbX1_put_0.all (fun q => decide (decode cX1_put q.1 = .ok q.2)) = true := by decide +kernel
def tbX1_addTo_0 : List (Nat × Instr × Nat) := [(0, .iload_n 1, 1), (1, .ifCond .lt 61, 3), (4, .iload_n 1, 1), (5, .aload_n 0, 1), (6, .getfield 15, 3), (9, .arraylength, 1), (10, .if_icmp .ge 52, 3), (13, .iload_n 1, 1), (14, .getstatic 9, 3), (17, .arraylength, 1), (18, .if_icmp .ge 44, 3), (21, .aload_n 0, 1), (22, .getfield 15, 3), (25, .iload_n 1, 1), (26, .iaload, 1), (27, .iload_n 2, 1), (28, .iadd, 1), (29, .istore_n 3, 1), (30, .aload_n 0, 1), (31, .getfield 15, 3), (34, .iload_n 1, 1), (35, .iload_n 3, 1), (36, .ifCond .ge 7, 3), (39, .iconst 0, 1), (40, .goto 21, 3), (43, .iload_n 3, 1), (44, .getstatic 9, 3), (47, .iload_n 1, 1), (48, .iaload, 1), (49, .if_icmp .le 11, 3), (52, .getstatic 9, 3), (55, .iload_n 1, 1), (56, .iaload, 1), (57, .goto 4, 3), (60, .iload_n 3, 1), (61, .iastore, 1), (62, .return_, 1)]
theorem dcX1_addTo_0 : tbX1_addTo_0.all (fun q => decide (decode cX1_addTo q.1 = .ok q.2)) = true := by decide +kernel
def tbX1_sits_0 : List (Nat × Instr × Nat) := [(0, .aload_n 0, 1), (1, .getfield 15, 3), (4, .bipush 13, 2), (6, .iaload, 1), (7, .ifCond .eq 7, 3), (10, .iconst 1, 1), (11, .goto 4, 3), (14, .iconst 0, 1), (15, .ireturn, 1)]
theorem dcX1_sits_0 : tbX1_sits_0.all (fun q => decide (decode cX1_sits q.1 = .ok q.2)) = true := by decide +kernel
def tbX1_learnt_0 : List (Nat × Instr × Nat) := [(0, .iconst 0, 1), (1, .istore_n 1, 1), (2, .iconst 0, 1), (3, .istore_n 2, 1), (4, .iload_n 2, 1), (5, .bipush 6, 2), (7, .if_icmp .gt 27, 3), (10, .iload_n 2, 1), (11, .aload_n 0, 1), (12, .getfield 15, 3), (15, .arraylength, 1), (16, .if_icmp .ge 18, 3), (19, .iload_n 1, 1), (20, .aload_n 0, 1), (21, .getfield 15, 3), (24, .iload_n 2, 1), (25, .iaload, 1), (26, .iadd, 1), (27, .istore_n 1, 1), (28, .iinc 2 1, 3), (31, .goto (-27), 3), (34, .iload_n 1, 1), (35, .ireturn, 1)]
theorem dcX1_learnt_0 : tbX1_learnt_0.all (fun q => decide (decode cX1_learnt q.1 = .ok q.2)) = true := by decide +kernel
def tbX1_become_0 : List (Nat × Instr × Nat) := [(0, .aload_n 1, 1), (1, .getfield 15, 3), (4, .iconst 0, 1), (5, .aload_n 0, 1), (6, .getfield 15, 3), (9, .iconst 0, 1), (10, .aload_n 0, 1), (11, .getfield 15, 3), (14, .arraylength, 1), (15, .invokestatic 32, 3), (18, .return_, 1)]
theorem dcX1_become_0 : tbX1_become_0.all (fun q => decide (decode cX1_become q.1 = .ok q.2)) = true := by decide +kernel
def tbX2_init_0 : List (Nat × Instr × Nat) := [(0, .aload_n 0, 1), (1, .invokespecial 3, 3), (4, .aload_n 0, 1), (5, .bipush 10, 2), (7, .newarray .int, 2), (9, .putfield 9, 3), (12, .aload_n 0, 1), (13, .bipush 10, 2), (15, .newarray .int, 2), (17, .putfield 15, 3), (20, .aload_n 0, 1), (21, .bipush 10, 2), (23, .newarray .int, 2), (25, .putfield 18, 3), (28, .aload_n 0, 1), (29, .bipush 100, 2), (31, .newarray .int, 2), (33, .putfield 21, 3), (36, .return_, 1)]
theorem dcX2_init_0 : tbX2_init_0.all (fun q => decide (decode cX2_init q.1 = .ok q.2)) = true := by decide +kernel
def tbX2_clear_0 : List (Nat × Instr × Nat) := [(0, .aload_n 0, 1), (1, .iconst 0, 1), (2, .putfield 24, 3), (5, .aload_n 0, 1), (6, .iconst 0, 1), (7, .putfield 28, 3), (10, .return_, 1)]
theorem dcX2_clear_0 : tbX2_clear_0.all (fun q => decide (decode cX2_clear q.1 = .ok q.2)) = true := by decide +kernel
def tbX2_beginClause_0 : List (Nat × Instr × Nat) := [(0, .aload_n 0, 1), (1, .getfield 24, 3), (4, .ifCond .lt 55, 3), (7, .aload_n 0, 1), (8, .getfield 24, 3), (11, .bipush 10, 2), (13, .if_icmp .ge 46, 3), (16, .aload_n 0, 1), (17, .getfield 9, 3), (20, .aload_n 0, 1), (21, .getfield 24, 3), (24, .iload_n 1, 1), (25, .iastore, 1), (26, .aload_n 0, 1), (27, .getfield 15, 3), (30, .aload_n 0, 1), (31, .getfield 24, 3), (34, .iload_n 2, 1), (35, .iastore, 1), (36, .aload_n 0, 1), (37, .getfield 18, 3), (40, .aload_n 0, 1), (41, .getfield 24, 3), (44, .aload_n 0, 1), (45, .getfield 28, 3), (48, .iastore, 1), (49, .aload_n 0, 1), (50, .dup, 1), (51, .getfield 24, 3), (54, .iconst 1, 1), (55, .iadd, 1), (56, .putfield 24, 3), (59, .return_, 1)]
theorem dcX2_beginClause_0 : tbX2_beginClause_0.all (fun q => decide (decode cX2_beginClause q.1 = .ok q.2)) = true := by decide +kernel
def tbX2_addCode_0 : List (Nat × Instr × Nat) := [(0, .aload_n 0, 1), (1, .getfield 28, 3), (4, .ifCond .lt 32, 3), (7, .aload_n 0, 1), (8, .getfield 28, 3), (11, .bipush 100, 2), (13, .if_icmp .ge 23, 3), (16, .aload_n 0, 1), (17, .getfield 21, 3), (20, .aload_n 0, 1), (21, .getfield 28, 3), (24, .iload_n 1, 1), (25, .iastore, 1), (26, .aload_n 0, 1), (27, .dup, 1), (28, .getfield 28, 3), (31, .iconst 1, 1), (32, .iadd, 1), (33, .putfield 28, 3), (36, .return_, 1)]
theorem dcX2_addCode_0 : tbX2_addCode_0.all (fun q => decide (decode cX2_addCode q.1 = .ok q.2)) = true := by decide +kernel
def tbX2_codeOf_0 : List (Nat × Instr × Nat) := [(0, .iload_n 0, 1), (1, .sipush 1000, 3), (4, .imul, 1), (5, .iload_n 1, 1), (6, .bipush 100, 2), (8, .imul, 1), (9, .iadd, 1), (10, .iload_n 2, 1), (11, .iadd, 1), (12, .ireturn, 1)]
theorem dcX2_codeOf_0 : tbX2_codeOf_0.all (fun q => decide (decode cX2_codeOf q.1 = .ok q.2)) = true := by decide +kernel
def tbX2_together_0 : List (Nat × Instr × Nat) := [(0, .iconst 0, 1), (1, .istore_n 3, 1), (2, .iconst 0, 1), (3, .istore 4, 2), (5, .iload 4, 2), (7, .aload_n 0, 1), (8, .getfield 24, 3), (11, .if_icmp .ge 47, 3), (14, .iload 4, 2), (16, .bipush 10, 2), (18, .if_icmp .ge 40, 3), (21, .aload_n 0, 1), (22, .getfield 9, 3), (25, .iload 4, 2), (27, .iaload, 1), (28, .iload_n 1, 1), (29, .if_icmp .ne 23, 3), (32, .aload_n 0, 1), (33, .iload 4, 2), (35, .aload_n 2, 1), (36, .invokevirtual 31, 3), (39, .ifCond .eq 13, 3), (42, .iload_n 3, 1), (43, .aload_n 0, 1), (44, .getfield 15, 3), (47, .iload 4, 2), (49, .iaload, 1), (50, .iadd, 1), (51, .istore_n 3, 1), (52, .iinc 4 1, 3), (55, .goto (-50), 3), (58, .iload_n 3, 1), (59, .ireturn, 1)]
theorem dcX2_together_0 : tbX2_together_0.all (fun q => decide (decode cX2_together q.1 = .ok q.2)) = true := by decide +kernel
def tbX2_last_0 : List (Nat × Instr × Nat) := [(0, .iload_n 1, 1), (1, .iconst 3, 1), (2, .if_icmp .ne 7, 3), (5, .iconst 3, 1), (6, .goto 23, 3), (9, .iload_n 1, 1), (10, .iconst 4, 1), (11, .if_icmp .ne 7, 3), (14, .iconst 5, 1), (15, .goto 14, 3), (18, .iload_n 1, 1), (19, .iconst 5, 1), (20, .if_icmp .ne 7, 3), (23, .iconst 2, 1), (24, .goto 5, 3), (27, .bipush 9, 2), (29, .istore_n 2, 1), (30, .iconst 0, 1), (31, .istore_n 3, 1), (32, .iload_n 3, 1), (33, .aload_n 0, 1), (34, .getfield 24, 3), (37, .if_icmp .ge 32, 3), (40, .iload_n 3, 1), (41, .bipush 10, 2), (43, .if_icmp .ge 26, 3), (46, .aload_n 0, 1), (47, .getfield 9, 3), (50, .iload_n 3, 1), (51, .iaload, 1), (52, .iload_n 1, 1), (53, .if_icmp .ne 10, 3), (56, .aload_n 0, 1), (57, .getfield 15, 3), (60, .iload_n 3, 1), (61, .iaload, 1), (62, .istore_n 2, 1), (63, .iinc 3 1, 3), (66, .goto (-34), 3), (69, .iload_n 2, 1), (70, .ireturn, 1)]
theorem dcX2_last_0 : tbX2_last_0.all (fun q => decide (decode cX2_last q.1 = .ok q.2)) = true := by decide +kernel
def tbX2_isTrue_0 : List (Nat × Instr × Nat) := [(0, .iload_n 1, 1), (1, .ifCond .lt 9, 3), (4, .iload_n 1, 1), (5, .bipush 10, 2), (7, .if_icmp .lt 5, 3), (10, .iconst 0, 1), (11, .ireturn, 1), (12, .iload_n 1, 1), (13, .iconst 1, 1), (14, .iadd, 1), (15, .aload_n 0, 1), (16, .getfield 24, 3), (19, .if_icmp .ge 22, 3), (22, .iload_n 1, 1), (23, .iconst 1, 1), (24, .iadd, 1), (25, .bipush 10, 2), (27, .if_icmp .ge 14, 3), (30, .aload_n 0, 1), (31, .getfield 18, 3), (34, .iload_n 1, 1), (35, .iconst 1, 1), (36, .iadd, 1), (37, .iaload, 1), (38, .goto 7, 3), (41, .aload_n 0, 1), (42, .getfield 28, 3), (45, .istore_n 3, 1), (46, .iconst 0, 1), (47, .istore 4, 2), (49, .aload_n 0, 1), (50, .getfield 18, 3), (53, .iload_n 1, 1), (54, .iaload, 1), (55, .istore 5, 2), (57, .iload 5, 2), (59, .ifCond .lt 212, 3), (62, .iload 5, 2), (64, .iload_n 3, 1), (65, .if_icmp .ge 206, 3), (68, .iload 5, 2), (70, .bipush 100, 2), (72, .if_icmp .ge 199, 3), (75, .aload_n 0, 1), (76, .getfield 21, 3), (79, .iload 5, 2), (81, .iaload, 1), (82, .istore 6, 2)]
theorem dcX2_isTrue_0 : tbX2_isTrue_0.all (fun q => decide (decode cX2_isTrue q.1 = .ok q.2)) = true := by decide +kernel
def tbX2_isTrue_1 : List (Nat × Instr × Nat) := [(84, .iload 4, 2), (86, .iconst 1, 1), (87, .iand, 1), (88, .istore 7, 2), (90, .iload 6, 2), (92, .iconst (-1), 1), (93, .if_icmp .ne 12, 3), (96, .iload 4, 2), (98, .iconst 1, 1), (99, .ixor, 1), (100, .istore 4, 2), (102, .goto 163, 3), (105, .iload 6, 2), (107, .bipush (-2), 2), (109, .if_icmp .ne 18, 3), (112, .iload 4, 2), (114, .iconst 1, 1), (115, .ishr, 1), (116, .iload 7, 2), (118, .bipush (-2), 2), (120, .ior, 1), (121, .iand, 1), (122, .istore 4, 2), (124, .goto 141, 3), (127, .iload 6, 2), (129, .bipush (-3), 2), (131, .if_icmp .ne 15, 3), (134, .iload 4, 2), (136, .iconst 1, 1), (137, .ishr, 1), (138, .iload 7, 2), (140, .ior, 1), (141, .istore 4, 2), (143, .goto 122, 3), (146, .iload 6, 2), (148, .sipush 1000, 3), (151, .idiv, 1), (152, .istore 8, 2), (154, .iload 6, 2), (156, .bipush 100, 2), (158, .idiv, 1), (159, .bipush 10, 2), (161, .irem, 1), (162, .istore 9, 2), (164, .iload 6, 2), (166, .bipush 100, 2), (168, .irem, 1), (169, .istore 10, 2)]
theorem dcX2_isTrue_1 : tbX2_isTrue_1.all (fun q => decide (decode cX2_isTrue q.1 = .ok q.2)) = true := by decide +kernel
def tbX2_isTrue_2 : List (Nat × Instr × Nat) := [(171, .iload 8, 2), (173, .ifCond .lt 17, 3), (176, .iload 8, 2), (178, .aload_n 2, 1), (179, .arraylength, 1), (180, .if_icmp .ge 10, 3), (183, .aload_n 2, 1), (184, .iload 8, 2), (186, .iaload, 1), (187, .goto 4, 3), (190, .iconst 0, 1), (191, .istore 11, 2), (193, .iload 9, 2), (195, .ifCond .ne 18, 3), (198, .iload 11, 2), (200, .iload 10, 2), (202, .if_icmp .ge 7, 3), (205, .iconst 1, 1), (206, .goto 40, 3), (209, .iconst 0, 1), (210, .goto 36, 3), (213, .iload 9, 2), (215, .iconst 1, 1), (216, .if_icmp .ne 18, 3), (219, .iload 11, 2), (221, .iload 10, 2), (223, .if_icmp .ne 7, 3), (226, .iconst 1, 1), (227, .goto 19, 3), (230, .iconst 0, 1), (231, .goto 15, 3), (234, .iload 11, 2), (236, .iload 10, 2), (238, .if_icmp .le 7, 3), (241, .iconst 1, 1), (242, .goto 4, 3), (245, .iconst 0, 1), (246, .istore 12, 2), (248, .iload 4, 2), (250, .iconst 1, 1), (251, .ishl, 1), (252, .iload 12, 2), (254, .ifCond .eq 7, 3), (257, .iconst 1, 1), (258, .goto 4, 3), (261, .iconst 0, 1), (262, .ior, 1), (263, .istore 4, 2)]
theorem dcX2_isTrue_2 : tbX2_isTrue_2.all (fun q => decide (decode cX2_isTrue q.1 = .ok q.2)) = true := by decide +kernel
def tbX2_isTrue_3 : List (Nat × Instr × Nat) := [(265, .iinc 5 1, 3), (268, .goto (-211), 3), (271, .iload 4, 2), (273, .iconst 1, 1), (274, .iand, 1), (275, .iconst 1, 1), (276, .if_icmp .ne 7, 3), (279, .iconst 1, 1), (280, .goto 4, 3), (283, .iconst 0, 1), (284, .ireturn, 1)]
theorem dcX2_isTrue_3 : tbX2_isTrue_3.all (fun q => decide (decode cX2_isTrue q.1 = .ok q.2)) = true := by decide +kernel
def tbX3_init_0 : List (Nat × Instr × Nat) := [(0, .aload_n 0, 1), (1, .invokespecial 3, 3), (4, .aload_n 0, 1), (5, .new 9, 3), (8, .dup, 1), (9, .invokespecial 11, 3), (12, .putfield 12, 3), (15, .aload_n 0, 1), (16, .new 18, 3), (19, .dup, 1), (20, .bipush 12, 2), (22, .invokespecial 20, 3), (25, .putfield 23, 3), (28, .aload_n 0, 1), (29, .new 18, 3), (32, .dup, 1), (33, .bipush 12, 2), (35, .invokespecial 20, 3), (38, .putfield 27, 3), (41, .aload_n 0, 1), (42, .new 18, 3), (45, .dup, 1), (46, .iconst 4, 1), (47, .invokespecial 20, 3), (50, .putfield 30, 3), (53, .aload_n 0, 1), (54, .iconst 0, 1), (55, .putfield 33, 3), (58, .aload_n 0, 1), (59, .iconst (-1), 1), (60, .putfield 37, 3), (63, .return_, 1)]
theorem dcX3_init_0 : tbX3_init_0.all (fun q => decide (decode cX3_init q.1 = .ok q.2)) = true := by decide +kernel
def tbX3_become_0 : List (Nat × Instr × Nat) := [(0, .aload_n 0, 1), (1, .getfield 12, 3), (4, .aload_n 1, 1), (5, .getfield 12, 3), (8, .invokevirtual 40, 3), (11, .aload_n 0, 1), (12, .getfield 23, 3), (15, .aload_n 1, 1), (16, .getfield 23, 3), (19, .invokevirtual 44, 3), (22, .aload_n 0, 1), (23, .getfield 27, 3), (26, .aload_n 1, 1), (27, .getfield 27, 3), (30, .invokevirtual 44, 3), (33, .aload_n 0, 1), (34, .getfield 30, 3), (37, .aload_n 1, 1), (38, .getfield 30, 3), (41, .invokevirtual 44, 3), (44, .aload_n 0, 1), (45, .aload_n 1, 1), (46, .getfield 33, 3), (49, .putfield 33, 3), (52, .aload_n 0, 1), (53, .aload_n 1, 1), (54, .getfield 37, 3), (57, .putfield 37, 3), (60, .return_, 1)]
theorem dcX3_become_0 : tbX3_become_0.all (fun q => decide (decode cX3_become q.1 = .ok q.2)) = true := by decide +kernel
def tbX4_init_0 : List (Nat × Instr × Nat) := [(0, .aload_n 0, 1), (1, .invokespecial 3, 3), (4, .aload_n 0, 1), (5, .bipush 10, 2), (7, .newarray .int, 2), (9, .putfield 9, 3), (12, .aload_n 0, 1), (13, .bipush 10, 2), (15, .newarray .int, 2), (17, .putfield 15, 3), (20, .aload_n 0, 1), (21, .bipush 10, 2), (23, .newarray .int, 2), (25, .putfield 18, 3), (28, .return_, 1)]
theorem dcX4_init_0 : tbX4_init_0.all (fun q => decide (decode cX4_init q.1 = .ok q.2)) = true := by decide +kernel
def tbX4_size_0 : List (Nat × Instr × Nat) := [(0, .aload_n 0, 1), (1, .getfield 21, 3), (4, .ireturn, 1)]
theorem dcX4_size_0 : tbX4_size_0.all (fun q => decide (decode cX4_size q.1 = .ok q.2)) = true := by decide +kernel
def tbX4_has_0 : List (Nat × Instr × Nat) := [(0, .iload_n 1, 1), (1, .ifCond .lt 15, 3), (4, .iload_n 1, 1), (5, .aload_n 0, 1), (6, .getfield 21, 3), (9, .if_icmp .ge 7, 3), (12, .iconst 1, 1), (13, .goto 4, 3), (16, .iconst 0, 1), (17, .ireturn, 1)]
theorem dcX4_has_0 : tbX4_has_0.all (fun q => decide (decode cX4_has q.1 = .ok q.2)) = true := by decide +kernel
def tbX4_kindOf_0 : List (Nat × Instr × Nat) := [(0, .iload_n 1, 1), (1, .ifCond .lt 29, 3), (4, .iload_n 1, 1), (5, .aload_n 0, 1), (6, .getfield 21, 3), (9, .if_icmp .ge 21, 3), (12, .iload_n 1, 1), (13, .aload_n 0, 1), (14, .getfield 9, 3), (17, .arraylength, 1), (18, .if_icmp .ge 12, 3), (21, .aload_n 0, 1), (22, .getfield 9, 3), (25, .iload_n 1, 1), (26, .iaload, 1), (27, .goto 4, 3), (30, .iconst (-1), 1), (31, .ireturn, 1)]
theorem dcX4_kindOf_0 : tbX4_kindOf_0.all (fun q => decide (decode cX4_kindOf q.1 = .ok q.2)) = true := by decide +kernel
def tbX4_numberOf_0 : List (Nat × Instr × Nat) := [(0, .iload_n 1, 1), (1, .ifCond .lt 29, 3), (4, .iload_n 1, 1), (5, .aload_n 0, 1), (6, .getfield 21, 3), (9, .if_icmp .ge 21, 3), (12, .iload_n 1, 1), (13, .aload_n 0, 1), (14, .getfield 15, 3), (17, .arraylength, 1), (18, .if_icmp .ge 12, 3), (21, .aload_n 0, 1), (22, .getfield 15, 3), (25, .iload_n 1, 1), (26, .iaload, 1), (27, .goto 4, 3), (30, .iconst 0, 1), (31, .ireturn, 1)]
theorem dcX4_numberOf_0 : tbX4_numberOf_0.all (fun q => decide (decode cX4_numberOf q.1 = .ok q.2)) = true := by decide +kernel
def tbX4_thingOf_0 : List (Nat × Instr × Nat) := [(0, .iload_n 1, 1), (1, .ifCond .lt 29, 3), (4, .iload_n 1, 1), (5, .aload_n 0, 1), (6, .getfield 21, 3), (9, .if_icmp .ge 21, 3), (12, .iload_n 1, 1), (13, .aload_n 0, 1), (14, .getfield 18, 3), (17, .arraylength, 1), (18, .if_icmp .ge 12, 3), (21, .aload_n 0, 1), (22, .getfield 18, 3), (25, .iload_n 1, 1), (26, .iaload, 1), (27, .goto 4, 3), (30, .iconst (-1), 1), (31, .ireturn, 1)]
theorem dcX4_thingOf_0 : tbX4_thingOf_0.all (fun q => decide (decode cX4_thingOf q.1 = .ok q.2)) = true := by decide +kernel
def tbX4_add_0 : List (Nat × Instr × Nat) := [(0, .aload_n 0, 1), (1, .getfield 21, 3), (4, .ifCond .lt 12, 3), (7, .aload_n 0, 1), (8, .getfield 21, 3), (11, .bipush 10, 2), (13, .if_icmp .lt 6, 3), (16, .bipush (-4), 2), (18, .ireturn, 1), (19, .aload_n 0, 1), (20, .getfield 9, 3), (23, .aload_n 0, 1), (24, .getfield 21, 3), (27, .iload_n 1, 1), (28, .iastore, 1), (29, .aload_n 0, 1), (30, .getfield 15, 3), (33, .aload_n 0, 1), (34, .getfield 21, 3), (37, .iload_n 2, 1), (38, .iastore, 1), (39, .aload_n 0, 1), (40, .getfield 18, 3), (43, .aload_n 0, 1), (44, .getfield 21, 3), (47, .iload_n 3, 1), (48, .iastore, 1), (49, .aload_n 0, 1), (50, .dup, 1), (51, .getfield 21, 3), (54, .iconst 1, 1), (55, .iadd, 1), (56, .putfield 21, 3), (59, .aload_n 0, 1), (60, .getfield 21, 3), (63, .iconst 1, 1), (64, .isub, 1), (65, .ireturn, 1)]
theorem dcX4_add_0 : tbX4_add_0.all (fun q => decide (decode cX4_add q.1 = .ok q.2)) = true := by decide +kernel
def tbX4_aboveOf_0 : List (Nat × Instr × Nat) := [(0, .iload_n 0, 1), (1, .ifCond .lt 19, 3), (4, .iload_n 0, 1), (5, .getstatic 25, 3), (8, .arraylength, 1), (9, .if_icmp .ge 11, 3), (12, .getstatic 25, 3), (15, .iload_n 0, 1), (16, .iaload, 1), (17, .goto 4, 3), (20, .iconst (-1), 1), (21, .ireturn, 1)]
theorem dcX4_aboveOf_0 : tbX4_aboveOf_0.all (fun q => decide (decode cX4_aboveOf q.1 = .ok q.2)) = true := by decide +kernel
def tbX4_isUnder_0 : List (Nat × Instr × Nat) := [(0, .iload_n 0, 1), (1, .istore_n 2, 1), (2, .iconst 0, 1), (3, .istore_n 3, 1), (4, .iload_n 3, 1), (5, .getstatic 25, 3), (8, .arraylength, 1), (9, .if_icmp .ge 25, 3), (12, .iload_n 2, 1), (13, .ifCond .lt 21, 3), (16, .iload_n 2, 1), (17, .iload_n 1, 1), (18, .if_icmp .ne 5, 3), (21, .iconst 1, 1), (22, .ireturn, 1), (23, .iload_n 2, 1), (24, .invokestatic 28, 3), (27, .istore_n 2, 1), (28, .iinc 3 1, 3), (31, .goto (-27), 3), (34, .iconst 0, 1), (35, .ireturn, 1)]
theorem dcX4_isUnder_0 : tbX4_isUnder_0.all (fun q => decide (decode cX4_isUnder q.1 = .ok q.2)) = true := by decide +kernel
def tbX5_init_0 : List (Nat × Instr × Nat) := [(0, .aload_n 0, 1), (1, .invokespecial 1, 3), (4, .aload_n 0, 1), (5, .iconst 0, 1), (6, .iload_n 1, 1), (7, .invokestatic 7, 3), (10, .newarray .int, 2), (12, .putfield 13, 3), (15, .return_, 1)]
theorem dcX5_init_0 : tbX5_init_0.all (fun q => decide (decode cX5_init q.1 = .ok q.2)) = true := by decide +kernel
def tbX5_size_0 : List (Nat × Instr × Nat) := [(0, .aload_n 0, 1), (1, .getfield 19, 3), (4, .ireturn, 1)]
theorem dcX5_size_0 : tbX5_size_0.all (fun q => decide (decode cX5_size q.1 = .ok q.2)) = true := by decide +kernel
def tbX5_get_0 : List (Nat × Instr × Nat) := [(0, .iload_n 1, 1), (1, .ifCond .lt 29, 3), (4, .iload_n 1, 1), (5, .aload_n 0, 1), (6, .getfield 19, 3), (9, .if_icmp .ge 21, 3), (12, .iload_n 1, 1), (13, .aload_n 0, 1), (14, .getfield 13, 3), (17, .arraylength, 1), (18, .if_icmp .ge 12, 3), (21, .aload_n 0, 1), (22, .getfield 13, 3), (25, .iload_n 1, 1), (26, .iaload, 1), (27, .goto 4, 3), (30, .iconst (-1), 1), (31, .ireturn, 1)]
theorem dcX5_get_0 : tbX5_get_0.all (fun q => decide (decode cX5_get q.1 = .ok q.2)) = true := by decide +kernel
def tbX5_add_0 : List (Nat × Instr × Nat) := [(0, .aload_n 0, 1), (1, .getfield 19, 3), (4, .ifCond .lt 15, 3), (7, .aload_n 0, 1), (8, .getfield 19, 3), (11, .aload_n 0, 1), (12, .getfield 13, 3), (15, .arraylength, 1), (16, .if_icmp .lt 5, 3), (19, .iconst 0, 1), (20, .ireturn, 1), (21, .aload_n 0, 1), (22, .getfield 13, 3), (25, .aload_n 0, 1), (26, .getfield 19, 3), (29, .iload_n 1, 1), (30, .iastore, 1), (31, .aload_n 0, 1), (32, .dup, 1), (33, .getfield 19, 3), (36, .iconst 1, 1), (37, .iadd, 1), (38, .putfield 19, 3), (41, .iconst 1, 1), (42, .ireturn, 1)]
theorem dcX5_add_0 : tbX5_add_0.all (fun q => decide (decode cX5_add q.1 = .ok q.2)) = true := by decide +kernel
def tbX5_clear_0 : List (Nat × Instr × Nat) := [(0, .aload_n 0, 1), (1, .iconst 0, 1), (2, .putfield 19, 3), (5, .return_, 1)]
theorem dcX5_clear_0 : tbX5_clear_0.all (fun q => decide (decode cX5_clear q.1 = .ok q.2)) = true := by decide +kernel
def tbX5_placeOfLeast_0 : List (Nat × Instr × Nat) := [(0, .iconst (-1), 1), (1, .istore_n 1, 1), (2, .iconst 0, 1), (3, .istore_n 2, 1), (4, .iload_n 2, 1), (5, .aload_n 0, 1), (6, .getfield 19, 3), (9, .if_icmp .ge 28, 3), (12, .iload_n 1, 1), (13, .ifCond .lt 16, 3), (16, .aload_n 0, 1), (17, .iload_n 2, 1), (18, .invokevirtual 23, 3), (21, .aload_n 0, 1), (22, .iload_n 1, 1), (23, .invokevirtual 23, 3), (26, .if_icmp .ge 5, 3), (29, .iload_n 2, 1), (30, .istore_n 1, 1), (31, .iinc 2 1, 3), (34, .goto (-30), 3), (37, .iload_n 1, 1), (38, .ireturn, 1)]
theorem dcX5_placeOfLeast_0 : tbX5_placeOfLeast_0.all (fun q => decide (decode cX5_placeOfLeast q.1 = .ok q.2)) = true := by decide +kernel
def tbX5_become_0 : List (Nat × Instr × Nat) := [(0, .aload_n 0, 1), (1, .invokevirtual 27, 3), (4, .iconst 0, 1), (5, .istore_n 2, 1), (6, .iload_n 2, 1), (7, .aload_n 1, 1), (8, .invokevirtual 30, 3), (11, .if_icmp .ge 19, 3), (14, .aload_n 0, 1), (15, .aload_n 1, 1), (16, .iload_n 2, 1), (17, .invokevirtual 23, 3), (20, .invokevirtual 33, 3), (23, .pop, 1), (24, .iinc 2 1, 3), (27, .goto (-21), 3), (30, .return_, 1)]
theorem dcX5_become_0 : tbX5_become_0.all (fun q => decide (decode cX5_become q.1 = .ok q.2)) = true := by decide +kernel
def tbX6_init_0 : List (Nat × Instr × Nat) := [(0, .aload_n 0, 1), (1, .invokespecial 3, 3), (4, .aload_n 0, 1), (5, .bipush 60, 2), (7, .newarray .long, 2), (9, .putfield 9, 3), (12, .aload_n 0, 1), (13, .iconst (-1), 1), (14, .putfield 15, 3), (17, .return_, 1)]
theorem dcX6_init_0 : tbX6_init_0.all (fun q => decide (decode cX6_init q.1 = .ok q.2)) = true := by decide +kernel
def tbX6_sort_0 : List (Nat × Instr × Nat) := [(0, .aload_n 0, 1), (1, .getfield 15, 3), (4, .ireturn, 1)]
theorem dcX6_sort_0 : tbX6_sort_0.all (fun q => decide (decode cX6_sort q.1 = .ok q.2)) = true := by decide +kernel
def tbX6_holdsSomething_0 : List (Nat × Instr × Nat) := [(0, .aload_n 0, 1), (1, .getfield 15, 3), (4, .iconst (-1), 1), (5, .if_icmp .eq 7, 3), (8, .iconst 1, 1), (9, .goto 4, 3), (12, .iconst 0, 1), (13, .ireturn, 1)]
theorem dcX6_holdsSomething_0 : tbX6_holdsSomething_0.all (fun q => decide (decode cX6_holdsSomething q.1 = .ok q.2)) = true := by decide +kernel
def tbX6_renew_0 : List (Nat × Instr × Nat) := [(0, .aload_n 0, 1), (1, .iload_n 1, 1), (2, .putfield 15, 3), (5, .aload_n 0, 1), (6, .iconst 0, 1), (7, .bipush 60, 2), (9, .iload_n 2, 1), (10, .invokestatic 19, 3), (13, .invokestatic 25, 3), (16, .putfield 28, 3), (19, .aload_n 0, 1), (20, .getfield 9, 3), (23, .lconst 0, 1), (24, .invokestatic 31, 3), (27, .return_, 1)]
theorem dcX6_renew_0 : tbX6_renew_0.all (fun q => decide (decode cX6_renew q.1 = .ok q.2)) = true := by decide +kernel
def tbX6_has_0 : List (Nat × Instr × Nat) := [(0, .iload_n 1, 1), (1, .ifCond .lt 21, 3), (4, .iload_n 1, 1), (5, .aload_n 0, 1), (6, .getfield 28, 3), (9, .if_icmp .ge 13, 3), (12, .iload_n 1, 1), (13, .bipush 60, 2), (15, .if_icmp .ge 7, 3), (18, .iconst 1, 1), (19, .goto 4, 3), (22, .iconst 0, 1), (23, .ireturn, 1)]
theorem dcX6_has_0 : tbX6_has_0.all (fun q => decide (decode cX6_has q.1 = .ok q.2)) = true := by decide +kernel
def tbX6_spans_0 : List (Nat × Instr × Nat) := [(0, .iload_n 2, 1), (1, .ifCond .lt 29, 3), (4, .iload_n 1, 1), (5, .ifCond .lt 25, 3), (8, .iload_n 2, 1), (9, .aload_n 0, 1), (10, .getfield 28, 3), (13, .if_icmp .gt 17, 3), (16, .iload_n 1, 1), (17, .aload_n 0, 1), (18, .getfield 28, 3), (21, .iload_n 2, 1), (22, .isub, 1), (23, .if_icmp .gt 7, 3), (26, .iconst 1, 1), (27, .goto 4, 3), (30, .iconst 0, 1), (31, .ireturn, 1)]
theorem dcX6_spans_0 : tbX6_spans_0.all (fun q => decide (decode cX6_spans q.1 = .ok q.2)) = true := by decide +kernel
def tbX6_get_0 : List (Nat × Instr × Nat) := [(0, .aload_n 0, 1), (1, .iload_n 1, 1), (2, .invokevirtual 37, 3), (5, .ifCond .eq 12, 3), (8, .aload_n 0, 1), (9, .getfield 9, 3), (12, .iload_n 1, 1), (13, .laload, 1), (14, .goto 4, 3), (17, .lconst 0, 1), (18, .lreturn, 1)]
theorem dcX6_get_0 : tbX6_get_0.all (fun q => decide (decode cX6_get q.1 = .ok q.2)) = true := by decide +kernel
def tbX6_put_0 : List (Nat × Instr × Nat) := [(0, .aload_n 0, 1), (1, .iload_n 1, 1), (2, .invokevirtual 37, 3), (5, .ifCond .eq 14, 3), (8, .aload_n 0, 1), (9, .getfield 9, 3), (12, .iload_n 1, 1), (13, .aload_n 0, 1), (14, .lload_n 2, 1), (15, .invokevirtual 41, 3), (18, .lastore, 1), (19, .return_, 1)]
theorem dcX6_put_0 : tbX6_put_0.all (fun q => decide (decode cX6_put q.1 = .ok q.2)) = true := by decide +kernel
def tbX6_cut_0 : List (Nat × Instr × Nat) := [(0, .aload_n 0, 1), (1, .getfield 15, 3), (4, .tableswitch 62 0 4 #[36, 41, 46, 62, 50], 36), (40, .lload_n 1, 1), (41, .l2i, 1), (42, .i2b, 1), (43, .i2l, 1), (44, .lreturn, 1), (45, .lload_n 1, 1), (46, .l2i, 1), (47, .i2s, 1), (48, .i2l, 1), (49, .lreturn, 1), (50, .lload_n 1, 1), (51, .l2i, 1), (52, .i2l, 1), (53, .lreturn, 1), (54, .lload_n 1, 1), (55, .lconst 0, 1), (56, .lcmp, 1), (57, .ifCond .ne 7, 3), (60, .lconst 0, 1), (61, .goto 4, 3), (64, .lconst 1, 1), (65, .lreturn, 1), (66, .lload_n 1, 1), (67, .lreturn, 1)]
theorem dcX6_cut_0 : tbX6_cut_0.all (fun q => decide (decode cX6_cut q.1 = .ok q.2)) = true := by decide +kernel
def tbX6_copyIn_0 : List (Nat × Instr × Nat) := [(0, .aload_n 0, 1), (1, .iload_n 1, 1), (2, .iload 4, 2), (4, .invokevirtual 45, 3), (7, .ifCond .eq 28, 3), (10, .aload_n 2, 1), (11, .iload_n 3, 1), (12, .iload 4, 2), (14, .invokevirtual 45, 3), (17, .ifCond .eq 18, 3), (20, .aload_n 2, 1), (21, .getfield 9, 3), (24, .iload_n 3, 1), (25, .aload_n 0, 1), (26, .getfield 9, 3), (29, .iload_n 1, 1), (30, .iload 4, 2), (32, .invokestatic 49, 3), (35, .return_, 1)]
theorem dcX6_copyIn_0 : tbX6_copyIn_0.all (fun q => decide (decode cX6_copyIn q.1 = .ok q.2)) = true := by decide +kernel
def tbX7_init_0 : List (Nat × Instr × Nat) := [(0, .aload_n 0, 1), (1, .invokespecial 3, 3), (4, .aload_n 0, 1), (5, .new 9, 3), (8, .dup, 1), (9, .bipush 100, 2), (11, .invokespecial 11, 3), (14, .putfield 14, 3), (17, .return_, 1)]
theorem dcX7_init_0 : tbX7_init_0.all (fun q => decide (decode cX7_init q.1 = .ok q.2)) = true := by decide +kernel
def tbX7_size_0 : List (Nat × Instr × Nat) := [(0, .aload_n 0, 1), (1, .getfield 14, 3), (4, .invokevirtual 20, 3), (7, .ireturn, 1)]
theorem dcX7_size_0 : tbX7_size_0.all (fun q => decide (decode cX7_size q.1 = .ok q.2)) = true := by decide +kernel
def tbX7_add_0 : List (Nat × Instr × Nat) := [(0, .aload_n 0, 1), (1, .getfield 14, 3), (4, .iload_n 1, 1), (5, .invokevirtual 24, 3), (8, .ireturn, 1)]
theorem dcX7_add_0 : tbX7_add_0.all (fun q => decide (decode cX7_add q.1 = .ok q.2)) = true := by decide +kernel
def tbX7_clear_0 : List (Nat × Instr × Nat) := [(0, .aload_n 0, 1), (1, .getfield 14, 3), (4, .invokevirtual 28, 3), (7, .return_, 1)]
theorem dcX7_clear_0 : tbX7_clear_0.all (fun q => decide (decode cX7_clear q.1 = .ok q.2)) = true := by decide +kernel
def tbX7_readLaw_0 : List (Nat × Instr × Nat) := [(0, .aload_n 0, 1), (1, .iconst 0, 1), (2, .putfield 31, 3), (5, .aload_n 1, 1), (6, .invokevirtual 35, 3), (9, .iconst 1, 1), (10, .istore_n 2, 1), (11, .iload_n 2, 1), (12, .bipush 10, 2), (14, .if_icmp .gt 100, 3), (17, .aload_n 0, 1), (18, .aload_n 1, 1), (19, .invokevirtual 38, 3), (22, .istore_n 3, 1), (23, .iload_n 3, 1), (24, .ifCond .ge 8, 3), (27, .aload_n 0, 1), (28, .getfield 31, 3), (31, .ireturn, 1), (32, .iload_n 3, 1), (33, .iconst 2, 1), (34, .if_icmp .gt 7, 3), (37, .iconst 1, 1), (38, .goto 4, 3), (41, .iconst 0, 1), (42, .istore 4, 2), (44, .iload 4, 2), (46, .ifCond .eq 26, 3), (49, .aload_n 0, 1), (50, .bipush 32, 2), (52, .invokevirtual 42, 3), (55, .ifCond .eq 12, 3), (58, .aload_n 0, 1), (59, .aload_n 1, 1), (60, .iconst 0, 1), (61, .invokevirtual 46, 3), (64, .ifCond .ne 8, 3), (67, .aload_n 0, 1), (68, .getfield 31, 3), (71, .ireturn, 1), (72, .aload_n 0, 1), (73, .getfield 31, 3), (76, .aload_n 0, 1), (77, .getfield 14, 3), (80, .invokevirtual 20, 3), (83, .if_icmp .ne 5, 3), (86, .iconst (-1), 1), (87, .ireturn, 1)]
theorem dcX7_readLaw_0 : tbX7_readLaw_0.all (fun q => decide (decode cX7_readLaw q.1 = .ok q.2)) = true := by decide +kernel
def tbX7_readLaw_1 : List (Nat × Instr × Nat) := [(88, .iload_n 2, 1), (89, .bipush 10, 2), (91, .if_icmp .eq 12, 3), (94, .aload_n 0, 1), (95, .bipush 59, 2), (97, .invokevirtual 42, 3), (100, .ifCond .ne 8, 3), (103, .aload_n 0, 1), (104, .getfield 31, 3), (107, .ireturn, 1), (108, .iinc 2 1, 3), (111, .goto (-100), 3), (114, .aload_n 0, 1), (115, .getfield 31, 3), (118, .ireturn, 1)]
theorem dcX7_readLaw_1 : tbX7_readLaw_1.all (fun q => decide (decode cX7_readLaw q.1 = .ok q.2)) = true := by decide +kernel
def tbX7_next_0 : List (Nat × Instr × Nat) := [(0, .aload_n 0, 1), (1, .getfield 14, 3), (4, .aload_n 0, 1), (5, .getfield 31, 3), (8, .invokevirtual 50, 3), (11, .iload_n 1, 1), (12, .if_icmp .eq 5, 3), (15, .iconst 0, 1), (16, .ireturn, 1), (17, .aload_n 0, 1), (18, .dup, 1), (19, .getfield 31, 3), (22, .iconst 1, 1), (23, .iadd, 1), (24, .putfield 31, 3), (27, .iconst 1, 1), (28, .ireturn, 1)]
theorem dcX7_next_0 : tbX7_next_0.all (fun q => decide (decode cX7_next q.1 = .ok q.2)) = true := by decide +kernel
def tbX7_readHead_0 : List (Nat × Instr × Nat) := [(0, .aload_n 0, 1), (1, .invokevirtual 54, 3), (4, .istore_n 2, 1), (5, .iload_n 2, 1), (6, .ifCond .lt 12, 3), (9, .aload_n 0, 1), (10, .bipush 32, 2), (12, .invokevirtual 42, 3), (15, .ifCond .ne 5, 3), (18, .iconst (-1), 1), (19, .ireturn, 1), (20, .aload_n 0, 1), (21, .invokevirtual 57, 3), (24, .istore_n 3, 1), (25, .iload_n 3, 1), (26, .ifCond .ge 5, 3), (29, .iconst (-1), 1), (30, .ireturn, 1), (31, .aload_n 1, 1), (32, .iload_n 2, 1), (33, .iload_n 3, 1), (34, .invokevirtual 60, 3), (37, .iload_n 2, 1), (38, .ireturn, 1)]
theorem dcX7_readHead_0 : tbX7_readHead_0.all (fun q => decide (decode cX7_readHead q.1 = .ok q.2)) = true := by decide +kernel
def tbX7_readWord_0 : List (Nat × Instr × Nat) := [(0, .iconst 0, 1), (1, .istore_n 1, 1), (2, .iconst 0, 1), (3, .istore_n 2, 1), (4, .iload_n 2, 1), (5, .bipush 6, 2), (7, .if_icmp .gt 84, 3), (10, .iload_n 2, 1), (11, .invokestatic 64, 3), (14, .astore_n 3, 1), (15, .iconst 0, 1), (16, .istore 4, 2), (18, .iload 4, 2), (20, .aload_n 3, 1), (21, .invokevirtual 68, 3), (24, .if_icmp .ge 32, 3), (27, .aload_n 0, 1), (28, .getfield 14, 3), (31, .aload_n 0, 1), (32, .getfield 31, 3), (35, .iload 4, 2), (37, .iadd, 1), (38, .invokevirtual 50, 3), (41, .aload_n 3, 1), (42, .iload 4, 2), (44, .invokevirtual 73, 3), (47, .if_icmp .ne 9, 3), (50, .iinc 4 1, 3), (53, .goto (-35), 3), (56, .iload 4, 2), (58, .aload_n 3, 1), (59, .invokevirtual 68, 3), (62, .if_icmp .ne 16, 3), (65, .aload_n 0, 1), (66, .dup, 1), (67, .getfield 31, 3), (70, .iload 4, 2), (72, .iadd, 1), (73, .putfield 31, 3), (76, .iload_n 2, 1), (77, .ireturn, 1), (78, .iload_n 1, 1), (79, .iload 4, 2), (81, .invokestatic 77, 3), (84, .istore_n 1, 1), (85, .iinc 2 1, 3), (88, .goto (-84), 3), (91, .aload_n 0, 1)]
theorem dcX7_readWord_0 : tbX7_readWord_0.all (fun q => decide (decode cX7_readWord q.1 = .ok q.2)) = true := by decide +kernel
def tbX7_readWord_1 : List (Nat × Instr × Nat) := [(92, .dup, 1), (93, .getfield 31, 3), (96, .iload_n 1, 1), (97, .iadd, 1), (98, .putfield 31, 3), (101, .iconst (-1), 1), (102, .ireturn, 1)]
theorem dcX7_readWord_1 : tbX7_readWord_1.all (fun q => decide (decode cX7_readWord q.1 = .ok q.2)) = true := by decide +kernel
def tbX7_wordOf_0 : List (Nat × Instr × Nat) := [(0, .iload_n 0, 1), (1, .tableswitch 57 0 5 #[39, 42, 45, 48, 51, 54], 39), (40, .ldc 83, 2), (42, .areturn, 1), (43, .ldc 85, 2), (45, .areturn, 1), (46, .ldc 87, 2), (48, .areturn, 1), (49, .ldc 89, 2), (51, .areturn, 1), (52, .ldc 91, 2), (54, .areturn, 1), (55, .ldc 93, 2), (57, .areturn, 1), (58, .ldc 95, 2), (60, .areturn, 1)]
theorem dcX7_wordOf_0 : tbX7_wordOf_0.all (fun q => decide (decode cX7_wordOf q.1 = .ok q.2)) = true := by decide +kernel
def tbX7_readNumber_0 : List (Nat × Instr × Nat) := [(0, .iconst (-1), 1), (1, .istore_n 1, 1), (2, .iconst 0, 1), (3, .istore_n 2, 1), (4, .iload_n 2, 1), (5, .iconst 2, 1), (6, .if_icmp .ge 61, 3), (9, .aload_n 0, 1), (10, .getfield 14, 3), (13, .aload_n 0, 1), (14, .getfield 31, 3), (17, .invokevirtual 50, 3), (20, .bipush 48, 2), (22, .isub, 1), (23, .istore_n 3, 1), (24, .iload_n 3, 1), (25, .ifCond .lt 9, 3), (28, .iload_n 3, 1), (29, .bipush 9, 2), (31, .if_icmp .le 5, 3), (34, .iload_n 1, 1), (35, .ireturn, 1), (36, .iload_n 2, 1), (37, .ifCond .ne 7, 3), (40, .iload_n 3, 1), (41, .goto 9, 3), (44, .iload_n 1, 1), (45, .bipush 10, 2), (47, .imul, 1), (48, .iload_n 3, 1), (49, .iadd, 1), (50, .istore_n 1, 1), (51, .aload_n 0, 1), (52, .dup, 1), (53, .getfield 31, 3), (56, .iconst 1, 1), (57, .iadd, 1), (58, .putfield 31, 3), (61, .iinc 2 1, 3), (64, .goto (-60), 3), (67, .iload_n 1, 1), (68, .ireturn, 1)]
theorem dcX7_readNumber_0 : tbX7_readNumber_0.all (fun q => decide (decode cX7_readNumber q.1 = .ok q.2)) = true := by decide +kernel
def tbX7_readEither_0 : List (Nat × Instr × Nat) := [(0, .iconst 0, 1), (1, .istore_n 3, 1), (2, .iconst 0, 1), (3, .istore 4, 2), (5, .iload 4, 2), (7, .bipush 100, 2), (9, .if_icmp .ge 50, 3), (12, .iload_n 3, 1), (13, .ifCond .ne 46, 3), (16, .aload_n 0, 1), (17, .aload_n 1, 1), (18, .iload_n 2, 1), (19, .invokevirtual 97, 3), (22, .ifCond .ne 5, 3), (25, .iconst 0, 1), (26, .ireturn, 1), (27, .iload 4, 2), (29, .ifCond .le 9, 3), (32, .aload_n 1, 1), (33, .bipush (-3), 2), (35, .invokevirtual 100, 3), (38, .aload_n 0, 1), (39, .bipush 124, 2), (41, .invokevirtual 42, 3), (44, .ifCond .ne 7, 3), (47, .iconst 1, 1), (48, .goto 4, 3), (51, .iconst 0, 1), (52, .istore_n 3, 1), (53, .iinc 4 1, 3), (56, .goto (-51), 3), (59, .iload_n 3, 1), (60, .ireturn, 1)]
theorem dcX7_readEither_0 : tbX7_readEither_0.all (fun q => decide (decode cX7_readEither q.1 = .ok q.2)) = true := by decide +kernel
def tbX7_readBoth_0 : List (Nat × Instr × Nat) := [(0, .iconst 0, 1), (1, .istore_n 3, 1), (2, .iconst 0, 1), (3, .istore 4, 2), (5, .iload 4, 2), (7, .bipush 100, 2), (9, .if_icmp .ge 50, 3), (12, .iload_n 3, 1), (13, .ifCond .ne 46, 3), (16, .aload_n 0, 1), (17, .aload_n 1, 1), (18, .iload_n 2, 1), (19, .invokevirtual 103, 3), (22, .ifCond .ne 5, 3), (25, .iconst 0, 1), (26, .ireturn, 1), (27, .iload 4, 2), (29, .ifCond .le 9, 3), (32, .aload_n 1, 1), (33, .bipush (-2), 2), (35, .invokevirtual 100, 3), (38, .aload_n 0, 1), (39, .bipush 38, 2), (41, .invokevirtual 42, 3), (44, .ifCond .ne 7, 3), (47, .iconst 1, 1), (48, .goto 4, 3), (51, .iconst 0, 1), (52, .istore_n 3, 1), (53, .iinc 4 1, 3), (56, .goto (-51), 3), (59, .iload_n 3, 1), (60, .ireturn, 1)]
theorem dcX7_readBoth_0 : tbX7_readBoth_0.all (fun q => decide (decode cX7_readBoth q.1 = .ok q.2)) = true := by decide +kernel
def tbX7_readSingle_0 : List (Nat × Instr × Nat) := [(0, .iconst 0, 1), (1, .istore_n 3, 1), (2, .iload_n 2, 1), (3, .iload_n 3, 1), (4, .iadd, 1), (5, .iconst 4, 1), (6, .if_icmp .ge 18, 3), (9, .aload_n 0, 1), (10, .bipush 33, 2), (12, .invokevirtual 42, 3), (15, .ifCond .eq 9, 3), (18, .iinc 3 1, 3), (21, .goto (-19), 3), (24, .iload_n 2, 1), (25, .iload_n 3, 1), (26, .iadd, 1), (27, .iconst 4, 1), (28, .if_icmp .ge 16, 3), (31, .aload_n 0, 1), (32, .bipush 40, 2), (34, .invokevirtual 42, 3), (37, .ifCond .eq 7, 3), (40, .iconst 1, 1), (41, .goto 4, 3), (44, .iconst 0, 1), (45, .istore 4, 2), (47, .iload 4, 2), (49, .ifCond .eq 33, 3), (52, .aload_n 0, 1), (53, .aload_n 1, 1), (54, .iload_n 2, 1), (55, .iload_n 3, 1), (56, .iadd, 1), (57, .iconst 1, 1), (58, .iadd, 1), (59, .invokevirtual 46, 3), (62, .ifCond .eq 16, 3), (65, .aload_n 0, 1), (66, .bipush 41, 2), (68, .invokevirtual 42, 3), (71, .ifCond .eq 7, 3), (74, .iconst 1, 1), (75, .goto 12, 3), (78, .iconst 0, 1), (79, .goto 8, 3), (82, .aload_n 0, 1), (83, .aload_n 1, 1), (84, .invokevirtual 106, 3)]
theorem dcX7_readSingle_0 : tbX7_readSingle_0.all (fun q => decide (decode cX7_readSingle q.1 = .ok q.2)) = true := by decide +kernel
def tbX7_readSingle_1 : List (Nat × Instr × Nat) := [(87, .istore 5, 2), (89, .iconst 0, 1), (90, .istore 6, 2), (92, .iload 6, 2), (94, .iload_n 3, 1), (95, .if_icmp .ge 19, 3), (98, .iload 5, 2), (100, .ifCond .eq 14, 3), (103, .aload_n 1, 1), (104, .iconst (-1), 1), (105, .invokevirtual 100, 3), (108, .iinc 6 1, 3), (111, .goto (-19), 3), (114, .iload 5, 2), (116, .ireturn, 1)]
theorem dcX7_readSingle_1 : tbX7_readSingle_1.all (fun q => decide (decode cX7_readSingle q.1 = .ok q.2)) = true := by decide +kernel
def tbX7_readTest_0 : List (Nat × Instr × Nat) := [(0, .aload_n 0, 1), (1, .ldc 110, 2), (3, .invokevirtual 112, 3), (6, .istore_n 2, 1), (7, .iload_n 2, 1), (8, .ifCond .ge 5, 3), (11, .iconst 0, 1), (12, .ireturn, 1), (13, .aload_n 0, 1), (14, .dup, 1), (15, .getfield 31, 3), (18, .iconst 1, 1), (19, .iadd, 1), (20, .putfield 31, 3), (23, .aload_n 0, 1), (24, .ldc 116, 2), (26, .invokevirtual 112, 3), (29, .istore_n 3, 1), (30, .iload_n 3, 1), (31, .ifCond .ge 5, 3), (34, .iconst 0, 1), (35, .ireturn, 1), (36, .aload_n 0, 1), (37, .dup, 1), (38, .getfield 31, 3), (41, .iconst 1, 1), (42, .iadd, 1), (43, .putfield 31, 3), (46, .aload_n 0, 1), (47, .invokevirtual 57, 3), (50, .istore 4, 2), (52, .iload 4, 2), (54, .ifCond .ge 5, 3), (57, .iconst 0, 1), (58, .ireturn, 1), (59, .aload_n 1, 1), (60, .iload_n 2, 1), (61, .iload_n 3, 1), (62, .iload 4, 2), (64, .invokestatic 118, 3), (67, .invokevirtual 100, 3), (70, .iconst 1, 1), (71, .ireturn, 1)]
theorem dcX7_readTest_0 : tbX7_readTest_0.all (fun q => decide (decode cX7_readTest q.1 = .ok q.2)) = true := by decide +kernel
def tbX7_placeIn_0 : List (Nat × Instr × Nat) := [(0, .aload_n 0, 1), (1, .getfield 14, 3), (4, .aload_n 0, 1), (5, .getfield 31, 3), (8, .invokevirtual 50, 3), (11, .istore_n 2, 1), (12, .iload_n 2, 1), (13, .ifCond .ge 7, 3), (16, .iconst (-1), 1), (17, .goto 9, 3), (20, .aload_n 1, 1), (21, .iload_n 2, 1), (22, .i2c, 1), (23, .invokevirtual 122, 3), (26, .ireturn, 1)]
theorem dcX7_placeIn_0 : tbX7_placeIn_0.all (fun q => decide (decode cX7_placeIn q.1 = .ok q.2)) = true := by decide +kernel
def tbX8_init_0 : List (Nat × Instr × Nat) := [(0, .aload_n 0, 1), (1, .invokespecial 3, 3), (4, .aload_n 0, 1), (5, .bipush 7, 2), (7, .anewarray 9, 3), (10, .putfield 11, 3), (13, .aload_n 0, 1), (14, .new 9, 3), (17, .dup, 1), (18, .invokespecial 17, 3), (21, .putfield 18, 3), (24, .aload_n 0, 1), (25, .iconst 4, 1), (26, .newarray .int, 2), (28, .putfield 22, 3), (31, .aload_n 0, 1), (32, .iconst 4, 1), (33, .newarray .int, 2), (35, .putfield 26, 3), (38, .aload_n 0, 1), (39, .aload_n 1, 1), (40, .putfield 29, 3), (43, .aload_n 0, 1), (44, .aload_n 2, 1), (45, .putfield 33, 3), (48, .iconst 0, 1), (49, .istore_n 3, 1), (50, .iload_n 3, 1), (51, .aload_n 0, 1), (52, .getfield 11, 3), (55, .arraylength, 1), (56, .if_icmp .ge 22, 3), (59, .aload_n 0, 1), (60, .getfield 11, 3), (63, .iload_n 3, 1), (64, .new 9, 3), (67, .dup, 1), (68, .invokespecial 17, 3), (71, .aastore, 1), (72, .iinc 3 1, 3), (75, .goto (-25), 3), (78, .return_, 1)]
theorem dcX8_init_0 : tbX8_init_0.all (fun q => decide (decode cX8_init q.1 = .ok q.2)) = true := by decide +kernel
def tbX8_stage_0 : List (Nat × Instr × Nat) := [(0, .iload_n 1, 1), (1, .ifCond .lt 21, 3), (4, .iload_n 1, 1), (5, .aload_n 0, 1), (6, .getfield 11, 3), (9, .arraylength, 1), (10, .if_icmp .ge 12, 3), (13, .aload_n 0, 1), (14, .getfield 11, 3), (17, .iload_n 1, 1), (18, .aaload, 1), (19, .goto 7, 3), (22, .aload_n 0, 1), (23, .getfield 18, 3), (26, .astore_n 2, 1), (27, .aload_n 2, 1), (28, .ifnonnull 10, 3), (31, .aload_n 0, 1), (32, .getfield 18, 3), (35, .goto 4, 3), (38, .aload_n 2, 1), (39, .areturn, 1)]
theorem dcX8_stage_0 : tbX8_stage_0.all (fun q => decide (decode cX8_stage q.1 = .ok q.2)) = true := by decide +kernel
def tbX8_stageAfter_0 : List (Nat × Instr × Nat) := [(0, .aload_n 0, 1), (1, .iload_n 1, 1), (2, .iconst 1, 1), (3, .iadd, 1), (4, .invokevirtual 37, 3), (7, .astore_n 2, 1), (8, .aload_n 2, 1), (9, .aload_n 0, 1), (10, .iload_n 1, 1), (11, .invokevirtual 37, 3), (14, .invokevirtual 41, 3), (17, .aload_n 2, 1), (18, .areturn, 1)]
theorem dcX8_stageAfter_0 : tbX8_stageAfter_0.all (fun q => decide (decode cX8_stageAfter q.1 = .ok q.2)) = true := by decide +kernel
def tbX8_begin_0 : List (Nat × Instr × Nat) := [(0, .aload_n 0, 1), (1, .iconst 0, 1), (2, .invokevirtual 37, 3), (5, .astore_n 1, 1), (6, .aload_n 1, 1), (7, .aload_n 0, 1), (8, .getfield 33, 3), (11, .getfield 45, 3), (14, .invokevirtual 41, 3), (17, .aload_n 0, 1), (18, .aload_n 1, 1), (19, .bipush 12, 2), (21, .invokevirtual 50, 3), (24, .iconst 1, 1), (25, .iadd, 1), (26, .putfield 54, 3), (29, .aload_n 1, 1), (30, .areturn, 1)]
theorem dcX8_begin_0 : tbX8_begin_0.all (fun q => decide (decode cX8_begin q.1 = .ok q.2)) = true := by decide +kernel
def tbX8_byHand_0 : List (Nat × Instr × Nat) := [(0, .aload_n 0, 1), (1, .invokevirtual 58, 3), (4, .astore_n 2, 1), (5, .aload_n 0, 1), (6, .aload_n 2, 1), (7, .iload_n 1, 1), (8, .invokevirtual 62, 3), (11, .aload_n 2, 1), (12, .areturn, 1)]
theorem dcX8_byHand_0 : tbX8_byHand_0.all (fun q => decide (decode cX8_byHand q.1 = .ok q.2)) = true := by decide +kernel
def tbX8_doRow_0 : List (Nat × Instr × Nat) := [(0, .iconst 0, 1), (1, .istore_n 3, 1), (2, .iload_n 3, 1), (3, .iload_n 2, 1), (4, .if_icmp .ge 44, 3), (7, .iload_n 3, 1), (8, .aload_n 0, 1), (9, .getfield 33, 3), (12, .getfield 66, 3), (15, .invokevirtual 70, 3), (18, .if_icmp .ge 30, 3), (21, .aload_n 0, 1), (22, .getfield 29, 3), (25, .aload_n 1, 1), (26, .aload_n 0, 1), (27, .getfield 33, 3), (30, .getfield 66, 3), (33, .iload_n 3, 1), (34, .invokevirtual 76, 3), (37, .iconst 0, 1), (38, .invokevirtual 77, 3), (41, .pop, 1), (42, .iinc 3 1, 3), (45, .goto (-43), 3), (48, .return_, 1)]
theorem dcX8_doRow_0 : tbX8_doRow_0.all (fun q => decide (decode cX8_doRow q.1 = .ok q.2)) = true := by decide +kernel
def tbX8_afterDays_0 : List (Nat × Instr × Nat) := [(0, .aload_n 0, 1), (1, .invokevirtual 58, 3), (4, .astore_n 2, 1), (5, .iconst 0, 1), (6, .istore_n 3, 1), (7, .iload_n 3, 1), (8, .iload_n 1, 1), (9, .if_icmp .ge 43, 3), (12, .iload_n 3, 1), (13, .bipush 99, 2), (15, .if_icmp .ge 37, 3), (18, .aload_n 2, 1), (19, .bipush 12, 2), (21, .iconst 0, 1), (22, .invokevirtual 83, 3), (25, .aload_n 2, 1), (26, .bipush 9, 2), (28, .iconst 0, 1), (29, .invokevirtual 83, 3), (32, .aload_n 2, 1), (33, .bipush 13, 2), (35, .iconst 0, 1), (36, .invokevirtual 83, 3), (39, .aload_n 0, 1), (40, .aload_n 2, 1), (41, .bipush 12, 2), (43, .invokevirtual 62, 3), (46, .iinc 3 1, 3), (49, .goto (-42), 3), (52, .aload_n 2, 1), (53, .areturn, 1)]
theorem dcX8_afterDays_0 : tbX8_afterDays_0.all (fun q => decide (decode cX8_afterDays q.1 = .ok q.2)) = true := by decide +kernel
def tbX8_waiting_0 : List (Nat × Instr × Nat) := [(0, .aload_n 0, 1), (1, .invokevirtual 58, 3), (4, .astore_n 1, 1), (5, .iconst 1, 1), (6, .istore_n 2, 1), (7, .iload_n 2, 1), (8, .bipush 60, 2), (10, .if_icmp .gt 35, 3), (13, .aload_n 0, 1), (14, .getfield 29, 3), (17, .aload_n 1, 1), (18, .iconst 0, 1), (19, .iconst 0, 1), (20, .invokevirtual 77, 3), (23, .pop, 1), (24, .aload_n 1, 1), (25, .bipush 12, 2), (27, .invokevirtual 50, 3), (30, .aload_n 0, 1), (31, .getfield 54, 3), (34, .if_icmp .ne 5, 3), (37, .iload_n 2, 1), (38, .ireturn, 1), (39, .iinc 2 1, 3), (42, .goto (-35), 3), (45, .bipush (-5), 2), (47, .ireturn, 1)]
theorem dcX8_waiting_0 : tbX8_waiting_0.all (fun q => decide (decode cX8_waiting q.1 = .ok q.2)) = true := by decide +kernel
def tbX8_bestShift_0 : List (Nat × Instr × Nat) := [(0, .aload_n 0, 1), (1, .iconst 0, 1), (2, .invokevirtual 87, 3), (5, .istore_n 1, 1), (6, .iconst 0, 1), (7, .istore_n 2, 1), (8, .iconst 1, 1), (9, .istore_n 3, 1), (10, .iload_n 3, 1), (11, .bipush 99, 2), (13, .if_icmp .gt 53, 3), (16, .iconst 1, 1), (17, .istore 4, 2), (19, .iload 4, 2), (21, .iconst (-1), 1), (22, .if_icmp .lt 38, 3), (25, .aload_n 0, 1), (26, .iload_n 3, 1), (27, .iload 4, 2), (29, .imul, 1), (30, .invokevirtual 87, 3), (33, .istore 5, 2), (35, .iload 5, 2), (37, .ifCond .lt 17, 3), (40, .iload 5, 2), (42, .iload_n 1, 1), (43, .if_icmp .ge 11, 3), (46, .iload 5, 2), (48, .istore_n 1, 1), (49, .iload_n 3, 1), (50, .iload 4, 2), (52, .imul, 1), (53, .istore_n 2, 1), (54, .iinc 4 (-2), 3), (57, .goto (-38), 3), (60, .iinc 3 1, 3), (63, .goto (-53), 3), (66, .iload_n 2, 1), (67, .ireturn, 1)]
theorem dcX8_bestShift_0 : tbX8_bestShift_0.all (fun q => decide (decode cX8_bestShift q.1 = .ok q.2)) = true := by decide +kernel
def tbX8_hurtWith_0 : List (Nat × Instr × Nat) := [(0, .aload_n 0, 1), (1, .invokevirtual 58, 3), (4, .astore_n 2, 1), (5, .aload_n 2, 1), (6, .bipush 10, 2), (8, .invokevirtual 50, 3), (11, .iload_n 1, 1), (12, .isub, 1), (13, .istore_n 3, 1), (14, .aload_n 2, 1), (15, .bipush 11, 2), (17, .invokevirtual 50, 3), (20, .iload_n 1, 1), (21, .iadd, 1), (22, .istore 4, 2), (24, .iload_n 3, 1), (25, .ifCond .lt 21, 3), (28, .iload_n 3, 1), (29, .bipush 99, 2), (31, .if_icmp .gt 15, 3), (34, .iload 4, 2), (36, .ifCond .lt 10, 3), (39, .iload 4, 2), (41, .bipush 99, 2), (43, .if_icmp .le 5, 3), (46, .iconst (-1), 1), (47, .ireturn, 1), (48, .aload_n 2, 1), (49, .bipush 10, 2), (51, .iload_n 3, 1), (52, .invokevirtual 83, 3), (55, .aload_n 2, 1), (56, .bipush 11, 2), (58, .iload 4, 2), (60, .invokevirtual 83, 3), (63, .aload_n 0, 1), (64, .getfield 29, 3), (67, .aload_n 2, 1), (68, .iconst 2, 1), (69, .invokevirtual 90, 3), (72, .ireturn, 1)]
theorem dcX8_hurtWith_0 : tbX8_hurtWith_0.all (fun q => decide (decode cX8_hurtWith q.1 = .ok q.2)) = true := by decide +kernel
def tbX8_firstOtherwise_0 : List (Nat × Instr × Nat) := [(0, .aload_n 0, 1), (1, .invokevirtual 58, 3), (4, .astore_n 1, 1), (5, .iconst 0, 1), (6, .istore_n 2, 1), (7, .iload_n 2, 1), (8, .aload_n 0, 1), (9, .getfield 33, 3), (12, .getfield 66, 3), (15, .invokevirtual 70, 3), (18, .if_icmp .ge 59, 3), (21, .iload_n 2, 1), (22, .aload_n 0, 1), (23, .getfield 33, 3), (26, .getfield 94, 3), (29, .invokevirtual 70, 3), (32, .if_icmp .ge 45, 3), (35, .aload_n 0, 1), (36, .getfield 29, 3), (39, .aload_n 1, 1), (40, .aload_n 0, 1), (41, .getfield 33, 3), (44, .getfield 66, 3), (47, .iload_n 2, 1), (48, .invokevirtual 76, 3), (51, .iconst 0, 1), (52, .invokevirtual 77, 3), (55, .aload_n 0, 1), (56, .getfield 33, 3), (59, .getfield 94, 3), (62, .iload_n 2, 1), (63, .invokevirtual 76, 3), (66, .if_icmp .eq 5, 3), (69, .iload_n 2, 1), (70, .ireturn, 1), (71, .iinc 2 1, 3), (74, .goto (-67), 3), (77, .bipush (-5), 2), (79, .ireturn, 1)]
theorem dcX8_firstOtherwise_0 : tbX8_firstOtherwise_0.all (fun q => decide (decode cX8_firstOtherwise q.1 = .ok q.2)) = true := by decide +kernel
def tbX8_firstMistold_0 : List (Nat × Instr × Nat) := [(0, .aload_n 0, 1), (1, .invokevirtual 58, 3), (4, .astore_n 3, 1), (5, .iconst 0, 1), (6, .istore 4, 2), (8, .iload 4, 2), (10, .aload_n 0, 1), (11, .getfield 33, 3), (14, .getfield 66, 3), (17, .invokevirtual 70, 3), (20, .if_icmp .ge 80, 3), (23, .iload_n 2, 1), (24, .ifCond .lt 20, 3), (27, .iload_n 2, 1), (28, .bipush 60, 2), (30, .if_icmp .gt 14, 3), (33, .aload_n 1, 1), (34, .iload_n 2, 1), (35, .iload 4, 2), (37, .iadd, 1), (38, .invokevirtual 97, 3), (41, .ifCond .ne 9, 3), (44, .bipush 100, 2), (46, .iload 4, 2), (48, .iadd, 1), (49, .ireturn, 1), (50, .aload_n 0, 1), (51, .getfield 29, 3), (54, .aload_n 3, 1), (55, .aload_n 0, 1), (56, .getfield 33, 3), (59, .getfield 66, 3), (62, .iload 4, 2), (64, .invokevirtual 76, 3), (67, .iconst 0, 1), (68, .invokevirtual 77, 3), (71, .pop, 1), (72, .aload_n 1, 1), (73, .iload_n 2, 1), (74, .iload 4, 2), (76, .iadd, 1), (77, .invokevirtual 103, 3), (80, .aload_n 3, 1), (81, .bipush 12, 2), (83, .invokevirtual 50, 3), (86, .i2l, 1), (87, .lcmp, 1), (88, .ifCond .eq 6, 3)]
theorem dcX8_firstMistold_0 : tbX8_firstMistold_0.all (fun q => decide (decode cX8_firstMistold q.1 = .ok q.2)) = true := by decide +kernel
def tbX8_firstMistold_1 : List (Nat × Instr × Nat) := [(91, .iload 4, 2), (93, .ireturn, 1), (94, .iinc 4 1, 3), (97, .goto (-89), 3), (100, .bipush (-5), 2), (102, .ireturn, 1)]
theorem dcX8_firstMistold_1 : tbX8_firstMistold_1.all (fun q => decide (decode cX8_firstMistold q.1 = .ok q.2)) = true := by decide +kernel
def tbX8_findSoonest_0 : List (Nat × Instr × Nat) := [(0, .aload_n 0, 1), (1, .invokevirtual 58, 3), (4, .pop, 1), (5, .aload_n 0, 1), (6, .iload_n 1, 1), (7, .iconst 1, 1), (8, .iadd, 1), (9, .putfield 106, 3), (12, .aload_n 0, 1), (13, .iconst 0, 1), (14, .invokevirtual 109, 3), (17, .aload_n 0, 1), (18, .getfield 106, 3), (21, .iload_n 1, 1), (22, .if_icmp .le 9, 3), (25, .aload_n 0, 1), (26, .bipush (-5), 2), (28, .putfield 106, 3), (31, .aload_n 0, 1), (32, .getfield 106, 3), (35, .ireturn, 1)]
theorem dcX8_findSoonest_0 : tbX8_findSoonest_0.all (fun q => decide (decode cX8_findSoonest q.1 = .ok q.2)) = true := by decide +kernel
def tbX8_findGentlest_0 : List (Nat × Instr × Nat) := [(0, .aload_n 0, 1), (1, .invokevirtual 58, 3), (4, .pop, 1), (5, .aload_n 0, 1), (6, .bipush (-5), 2), (8, .putfield 106, 3), (11, .aload_n 0, 1), (12, .iconst 0, 1), (13, .iload_n 1, 1), (14, .invokevirtual 113, 3), (17, .aload_n 0, 1), (18, .getfield 106, 3), (21, .bipush (-5), 2), (23, .if_icmp .ne 8, 3), (26, .bipush (-5), 2), (28, .goto 7, 3), (31, .aload_n 0, 1), (32, .getfield 116, 3), (35, .ireturn, 1)]
theorem dcX8_findGentlest_0 : tbX8_findGentlest_0.all (fun q => decide (decode cX8_findGentlest q.1 = .ok q.2)) = true := by decide +kernel
def tbX8_found_0 : List (Nat × Instr × Nat) := [(0, .iload_n 1, 1), (1, .ifCond .lt 29, 3), (4, .iload_n 1, 1), (5, .aload_n 0, 1), (6, .getfield 106, 3), (9, .if_icmp .ge 21, 3), (12, .iload_n 1, 1), (13, .aload_n 0, 1), (14, .getfield 26, 3), (17, .arraylength, 1), (18, .if_icmp .ge 12, 3), (21, .aload_n 0, 1), (22, .getfield 26, 3), (25, .iload_n 1, 1), (26, .iaload, 1), (27, .goto 5, 3), (30, .bipush (-5), 2), (32, .ireturn, 1)]
theorem dcX8_found_0 : tbX8_found_0.all (fun q => decide (decode cX8_found q.1 = .ok q.2)) = true := by decide +kernel
def tbX8_trySooner_0 : List (Nat × Instr × Nat) := [(0, .iconst 0, 1), (1, .istore_n 2, 1), (2, .iload_n 2, 1), (3, .bipush 7, 2), (5, .if_icmp .gt 21, 3), (8, .iload_n 2, 1), (9, .bipush 6, 2), (11, .if_icmp .eq 9, 3), (14, .aload_n 0, 1), (15, .iload_n 1, 1), (16, .iload_n 2, 1), (17, .invokevirtual 119, 3), (20, .iinc 2 1, 3), (23, .goto (-21), 3), (26, .return_, 1)]
theorem dcX8_trySooner_0 : tbX8_trySooner_0.all (fun q => decide (decode cX8_trySooner q.1 = .ok q.2)) = true := by decide +kernel
def tbX8_trySoonerWith_0 : List (Nat × Instr × Nat) := [(0, .iload_n 1, 1), (1, .ifCond .lt 22, 3), (4, .iload_n 1, 1), (5, .aload_n 0, 1), (6, .getfield 22, 3), (9, .arraylength, 1), (10, .if_icmp .ge 13, 3), (13, .iload_n 1, 1), (14, .iconst 1, 1), (15, .iadd, 1), (16, .aload_n 0, 1), (17, .getfield 106, 3), (20, .if_icmp .lt 4, 3), (23, .return_, 1), (24, .aload_n 0, 1), (25, .iload_n 1, 1), (26, .invokevirtual 122, 3), (29, .astore_n 3, 1), (30, .aload_n 0, 1), (31, .getfield 29, 3), (34, .aload_n 3, 1), (35, .iload_n 2, 1), (36, .iconst 0, 1), (37, .invokevirtual 77, 3), (40, .pop, 1), (41, .aload_n 0, 1), (42, .getfield 22, 3), (45, .iload_n 1, 1), (46, .iload_n 2, 1), (47, .iastore, 1), (48, .aload_n 3, 1), (49, .bipush 12, 2), (51, .invokevirtual 50, 3), (54, .aload_n 0, 1), (55, .getfield 54, 3), (58, .if_icmp .ne 13, 3), (61, .aload_n 0, 1), (62, .iload_n 1, 1), (63, .iconst 1, 1), (64, .iadd, 1), (65, .invokevirtual 125, 3), (68, .goto 10, 3), (71, .aload_n 0, 1), (72, .iload_n 1, 1), (73, .iconst 1, 1), (74, .iadd, 1), (75, .invokevirtual 109, 3), (78, .return_, 1)]
theorem dcX8_trySoonerWith_0 : tbX8_trySoonerWith_0.all (fun q => decide (decode cX8_trySoonerWith q.1 = .ok q.2)) = true := by decide +kernel
def tbX8_tryGentler_0 : List (Nat × Instr × Nat) := [(0, .iload_n 1, 1), (1, .iload_n 2, 1), (2, .if_icmp .lt 14, 3), (5, .aload_n 0, 1), (6, .aload_n 0, 1), (7, .iload_n 1, 1), (8, .invokevirtual 37, 3), (11, .iload_n 2, 1), (12, .invokevirtual 128, 3), (15, .return_, 1), (16, .iconst 0, 1), (17, .istore_n 3, 1), (18, .iload_n 3, 1), (19, .bipush 7, 2), (21, .if_icmp .gt 22, 3), (24, .iload_n 3, 1), (25, .bipush 6, 2), (27, .if_icmp .eq 10, 3), (30, .aload_n 0, 1), (31, .iload_n 1, 1), (32, .iload_n 2, 1), (33, .iload_n 3, 1), (34, .invokevirtual 131, 3), (37, .iinc 3 1, 3), (40, .goto (-22), 3), (43, .return_, 1)]
theorem dcX8_tryGentler_0 : tbX8_tryGentler_0.all (fun q => decide (decode cX8_tryGentler q.1 = .ok q.2)) = true := by decide +kernel
def tbX8_tryGentlerWith_0 : List (Nat × Instr × Nat) := [(0, .iload_n 1, 1), (1, .ifCond .lt 12, 3), (4, .iload_n 1, 1), (5, .aload_n 0, 1), (6, .getfield 22, 3), (9, .arraylength, 1), (10, .if_icmp .lt 4, 3), (13, .return_, 1), (14, .aload_n 0, 1), (15, .getfield 29, 3), (18, .aload_n 0, 1), (19, .iload_n 1, 1), (20, .invokevirtual 122, 3), (23, .iload_n 3, 1), (24, .iconst 0, 1), (25, .invokevirtual 77, 3), (28, .pop, 1), (29, .aload_n 0, 1), (30, .getfield 22, 3), (33, .iload_n 1, 1), (34, .iload_n 3, 1), (35, .iastore, 1), (36, .aload_n 0, 1), (37, .iload_n 1, 1), (38, .iconst 1, 1), (39, .iadd, 1), (40, .iload_n 2, 1), (41, .invokevirtual 113, 3), (44, .return_, 1)]
theorem dcX8_tryGentlerWith_0 : tbX8_tryGentlerWith_0.all (fun q => decide (decode cX8_tryGentlerWith q.1 = .ok q.2)) = true := by decide +kernel
def tbX8_keepGentler_0 : List (Nat × Instr × Nat) := [(0, .aload_n 1, 1), (1, .invokevirtual 135, 3), (4, .istore_n 3, 1), (5, .aload_n 1, 1), (6, .bipush 12, 2), (8, .invokevirtual 50, 3), (11, .aload_n 0, 1), (12, .getfield 54, 3), (15, .if_icmp .lt 30, 3), (18, .aload_n 0, 1), (19, .getfield 106, 3), (22, .bipush (-5), 2), (24, .if_icmp .eq 11, 3), (27, .iload_n 3, 1), (28, .aload_n 0, 1), (29, .getfield 116, 3), (32, .if_icmp .ge 13, 3), (35, .aload_n 0, 1), (36, .iload_n 3, 1), (37, .putfield 116, 3), (40, .aload_n 0, 1), (41, .iload_n 2, 1), (42, .invokevirtual 125, 3), (45, .return_, 1)]
theorem dcX8_keepGentler_0 : tbX8_keepGentler_0.all (fun q => decide (decode cX8_keepGentler q.1 = .ok q.2)) = true := by decide +kernel
def tbX8_keepTried_0 : List (Nat × Instr × Nat) := [(0, .aload_n 0, 1), (1, .iload_n 1, 1), (2, .putfield 106, 3), (5, .aload_n 0, 1), (6, .getfield 22, 3), (9, .iconst 0, 1), (10, .aload_n 0, 1), (11, .getfield 26, 3), (14, .iconst 0, 1), (15, .aload_n 0, 1), (16, .getfield 26, 3), (19, .arraylength, 1), (20, .invokestatic 138, 3), (23, .return_, 1)]
theorem dcX8_keepTried_0 : tbX8_keepTried_0.all (fun q => decide (decode cX8_keepTried q.1 = .ok q.2)) = true := by decide +kernel
def tbX8_chanceOf_0 : List (Nat × Instr × Nat) := [(0, .aload_n 0, 1), (1, .invokevirtual 58, 3), (4, .pop, 1), (5, .aload_n 0, 1), (6, .iconst 0, 1), (7, .iload_n 1, 1), (8, .invokevirtual 144, 3), (11, .lstore_n 3, 1), (12, .lconst 1, 1), (13, .lstore 5, 2), (15, .iconst 0, 1), (16, .istore 7, 2), (18, .iload 7, 2), (20, .iload_n 1, 1), (21, .if_icmp .ge 24, 3), (24, .iload 7, 2), (26, .bipush 6, 2), (28, .if_icmp .ge 17, 3), (31, .lload 5, 2), (33, .ldc2_w 148, 3), (36, .lmul, 1), (37, .lstore 5, 2), (39, .iinc 7 1, 3), (42, .goto (-24), 3), (45, .iconst 0, 1), (46, .istore 7, 2), (48, .iload 7, 2), (50, .bipush 6, 2), (52, .if_icmp .ge 79, 3), (55, .lload_n 3, 1), (56, .ldc2_w 150, 3), (59, .lrem, 1), (60, .lconst 0, 1), (61, .lcmp, 1), (62, .ifCond .ne 28, 3), (65, .lload 5, 2), (67, .ldc2_w 150, 3), (70, .lrem, 1), (71, .lconst 0, 1), (72, .lcmp, 1), (73, .ifCond .ne 17, 3), (76, .lload_n 3, 1), (77, .ldc2_w 150, 3), (80, .ldiv, 1), (81, .lstore_n 3, 1), (82, .lload 5, 2), (84, .ldc2_w 150, 3), (87, .ldiv, 1)]
theorem dcX8_chanceOf_0 : tbX8_chanceOf_0.all (fun q => decide (decode cX8_chanceOf q.1 = .ok q.2)) = true := by decide +kernel
def tbX8_chanceOf_1 : List (Nat × Instr × Nat) := [(88, .lstore 5, 2), (90, .lload_n 3, 1), (91, .ldc2_w 152, 3), (94, .lrem, 1), (95, .lconst 0, 1), (96, .lcmp, 1), (97, .ifCond .ne 28, 3), (100, .lload 5, 2), (102, .ldc2_w 152, 3), (105, .lrem, 1), (106, .lconst 0, 1), (107, .lcmp, 1), (108, .ifCond .ne 17, 3), (111, .lload_n 3, 1), (112, .ldc2_w 152, 3), (115, .ldiv, 1), (116, .lstore_n 3, 1), (117, .lload 5, 2), (119, .ldc2_w 152, 3), (122, .ldiv, 1), (123, .lstore 5, 2), (125, .iinc 7 1, 3), (128, .goto (-80), 3), (131, .iload_n 2, 1), (132, .ifCond .ne 7, 3), (135, .lload_n 3, 1), (136, .goto 5, 3), (139, .lload 5, 2), (141, .lreturn, 1)]
theorem dcX8_chanceOf_1 : tbX8_chanceOf_1.all (fun q => decide (decode cX8_chanceOf q.1 = .ok q.2)) = true := by decide +kernel
def tbX8_waysFrom_0 : List (Nat × Instr × Nat) := [(0, .iload_n 1, 1), (1, .iload_n 2, 1), (2, .if_icmp .ge 9, 3), (5, .iload_n 1, 1), (6, .bipush 6, 2), (8, .if_icmp .lt 26, 3), (11, .aload_n 0, 1), (12, .iload_n 1, 1), (13, .invokevirtual 37, 3), (16, .bipush 12, 2), (18, .invokevirtual 50, 3), (21, .aload_n 0, 1), (22, .getfield 54, 3), (25, .if_icmp .lt 7, 3), (28, .lconst 1, 1), (29, .goto 4, 3), (32, .lconst 0, 1), (33, .lreturn, 1), (34, .aload_n 0, 1), (35, .getfield 33, 3), (38, .getfield 66, 3), (41, .iload_n 1, 1), (42, .invokevirtual 76, 3), (45, .bipush 6, 2), (47, .if_icmp .ne 7, 3), (50, .iconst 0, 1), (51, .goto 10, 3), (54, .aload_n 0, 1), (55, .getfield 33, 3), (58, .getfield 154, 3), (61, .istore_n 3, 1), (62, .bipush 10, 2), (64, .iload_n 3, 1), (65, .isub, 1), (66, .i2l, 1), (67, .aload_n 0, 1), (68, .iload_n 1, 1), (69, .iload_n 2, 1), (70, .iconst 0, 1), (71, .invokevirtual 157, 3), (74, .lmul, 1), (75, .iload_n 3, 1), (76, .i2l, 1), (77, .aload_n 0, 1), (78, .iload_n 1, 1), (79, .iload_n 2, 1), (80, .bipush 10, 2), (82, .invokevirtual 157, 3)]
theorem dcX8_waysFrom_0 : tbX8_waysFrom_0.all (fun q => decide (decode cX8_waysFrom q.1 = .ok q.2)) = true := by decide +kernel
def tbX8_waysFrom_1 : List (Nat × Instr × Nat) := [(85, .lmul, 1), (86, .ladd, 1), (87, .lreturn, 1)]
theorem dcX8_waysFrom_1 : tbX8_waysFrom_1.all (fun q => decide (decode cX8_waysFrom q.1 = .ok q.2)) = true := by decide +kernel
def tbX8_waysWith_0 : List (Nat × Instr × Nat) := [(0, .aload_n 0, 1), (1, .getfield 29, 3), (4, .aload_n 0, 1), (5, .iload_n 1, 1), (6, .invokevirtual 122, 3), (9, .aload_n 0, 1), (10, .getfield 33, 3), (13, .getfield 66, 3), (16, .iload_n 1, 1), (17, .invokevirtual 76, 3), (20, .iload_n 3, 1), (21, .invokevirtual 77, 3), (24, .pop, 1), (25, .aload_n 0, 1), (26, .iload_n 1, 1), (27, .iconst 1, 1), (28, .iadd, 1), (29, .iload_n 2, 1), (30, .invokevirtual 144, 3), (33, .lreturn, 1)]
theorem dcX8_waysWith_0 : tbX8_waysWith_0.all (fun q => decide (decode cX8_waysWith q.1 = .ok q.2)) = true := by decide +kernel
def tbX9_init_0 : List (Nat × Instr × Nat) := [(0, .aload_n 0, 1), (1, .invokespecial 3, 3), (4, .aload_n 0, 1), (5, .bipush 9, 2), (7, .newarray .int, 2), (9, .putfield 9, 3), (12, .aload_n 0, 1), (13, .bipush 7, 2), (15, .newarray .int, 2), (17, .putfield 15, 3), (20, .aload_n 0, 1), (21, .aload_n 1, 1), (22, .putfield 18, 3), (25, .aload_n 0, 1), (26, .aload_n 2, 1), (27, .putfield 22, 3), (30, .return_, 1)]
theorem dcX9_init_0 : tbX9_init_0.all (fun q => decide (decode cX9_init q.1 = .ok q.2)) = true := by decide +kernel
def tbX9_obey_0 : List (Nat × Instr × Nat) := [(0, .aload_n 0, 1), (1, .aload_n 1, 1), (2, .putfield 22, 3), (5, .return_, 1)]
theorem dcX9_obey_0 : tbX9_obey_0.all (fun q => decide (decode cX9_obey q.1 = .ok q.2)) = true := by decide +kernel
def tbX9_isOver_0 : List (Nat × Instr × Nat) := [(0, .aload_n 0, 1), (1, .getfield 18, 3), (4, .aload_n 1, 1), (5, .bipush 12, 2), (7, .invokevirtual 26, 3), (10, .invokevirtual 32, 3), (13, .ifCond .ne 7, 3), (16, .iconst 1, 1), (17, .goto 4, 3), (20, .iconst 0, 1), (21, .ireturn, 1)]
theorem dcX9_isOver_0 : tbX9_isOver_0.all (fun q => decide (decode cX9_isOver q.1 = .ok q.2)) = true := by decide +kernel
def tbX9_fearThere_0 : List (Nat × Instr × Nat) := [(0, .aload_n 1, 1), (1, .aload_n 0, 1), (2, .getfield 18, 3), (5, .aload_n 1, 1), (6, .bipush 12, 2), (8, .invokevirtual 26, 3), (11, .invokevirtual 38, 3), (14, .invokevirtual 26, 3), (17, .ireturn, 1)]
theorem dcX9_fearThere_0 : tbX9_fearThere_0.all (fun q => decide (decode cX9_fearThere q.1 = .ok q.2)) = true := by decide +kernel
def tbX9_lastOf_0 : List (Nat × Instr × Nat) := [(0, .aload_n 0, 1), (1, .getfield 22, 3), (4, .iload_n 1, 1), (5, .invokevirtual 41, 3), (8, .ireturn, 1)]
theorem dcX9_lastOf_0 : tbX9_lastOf_0.all (fun q => decide (decode cX9_lastOf q.1 = .ok q.2)) = true := by decide +kernel
def tbX9_halfMinutesOf_0 : List (Nat × Instr × Nat) := [(0, .iload_n 1, 1), (1, .bipush 6, 2), (3, .if_icmp .ne 19, 3), (6, .iconst 1, 1), (7, .aload_n 0, 1), (8, .getfield 22, 3), (11, .bipush 6, 2), (13, .invokevirtual 41, 3), (16, .invokestatic 46, 3), (19, .goto 4, 3), (22, .iconst 1, 1), (23, .ireturn, 1)]
theorem dcX9_halfMinutesOf_0 : tbX9_halfMinutesOf_0.all (fun q => decide (decode cX9_halfMinutesOf q.1 = .ok q.2)) = true := by decide +kernel
def tbX9_togetherOf_0 : List (Nat × Instr × Nat) := [(0, .aload_n 0, 1), (1, .aload_n 1, 1), (2, .invokevirtual 52, 3), (5, .aload_n 0, 1), (6, .getfield 22, 3), (9, .iload_n 2, 1), (10, .aload_n 0, 1), (11, .getfield 9, 3), (14, .invokevirtual 56, 3), (17, .ireturn, 1)]
theorem dcX9_togetherOf_0 : tbX9_togetherOf_0.all (fun q => decide (decode cX9_togetherOf q.1 = .ok q.2)) = true := by decide +kernel
def tbX9_lookAround_0 : List (Nat × Instr × Nat) := [(0, .aload_n 1, 1), (1, .bipush 10, 2), (3, .invokevirtual 26, 3), (6, .istore_n 2, 1), (7, .aload_n 1, 1), (8, .bipush 11, 2), (10, .invokevirtual 26, 3), (13, .istore_n 3, 1), (14, .aload_n 1, 1), (15, .bipush 12, 2), (17, .invokevirtual 26, 3), (20, .istore 4, 2), (22, .aload_n 0, 1), (23, .getfield 9, 3), (26, .iconst 0, 1), (27, .aload_n 1, 1), (28, .aload_n 0, 1), (29, .getfield 18, 3), (32, .iload 4, 2), (34, .invokevirtual 38, 3), (37, .invokevirtual 26, 3), (40, .iastore, 1), (41, .aload_n 0, 1), (42, .getfield 9, 3), (45, .iconst 1, 1), (46, .aload_n 1, 1), (47, .bipush 7, 2), (49, .invokevirtual 26, 3), (52, .iastore, 1), (53, .aload_n 0, 1), (54, .getfield 9, 3), (57, .iconst 2, 1), (58, .aload_n 1, 1), (59, .bipush 6, 2), (61, .invokevirtual 26, 3), (64, .iastore, 1), (65, .aload_n 0, 1), (66, .getfield 9, 3), (69, .iconst 3, 1), (70, .aload_n 1, 1), (71, .bipush 8, 2), (73, .invokevirtual 26, 3), (76, .iastore, 1), (77, .aload_n 0, 1), (78, .getfield 9, 3), (81, .iconst 4, 1), (82, .iload_n 2, 1), (83, .iload_n 3, 1)]
theorem dcX9_lookAround_0 : tbX9_lookAround_0.all (fun q => decide (decode cX9_lookAround q.1 = .ok q.2)) = true := by decide +kernel
def tbX9_lookAround_1 : List (Nat × Instr × Nat) := [(84, .isub, 1), (85, .invokestatic 60, 3), (88, .iastore, 1), (89, .aload_n 0, 1), (90, .getfield 9, 3), (93, .iconst 5, 1), (94, .bipush 99, 2), (96, .iload_n 2, 1), (97, .iload_n 3, 1), (98, .iadd, 1), (99, .invokestatic 63, 3), (102, .iastore, 1), (103, .aload_n 0, 1), (104, .getfield 9, 3), (107, .bipush 6, 2), (109, .iload 4, 2), (111, .iastore, 1), (112, .aload_n 0, 1), (113, .getfield 9, 3), (116, .bipush 7, 2), (118, .aload_n 0, 1), (119, .getfield 18, 3), (122, .iload 4, 2), (124, .invokevirtual 66, 3), (127, .iastore, 1), (128, .aload_n 0, 1), (129, .getfield 9, 3), (132, .bipush 8, 2), (134, .aload_n 1, 1), (135, .bipush 14, 2), (137, .invokevirtual 26, 3), (140, .bipush 60, 2), (142, .irem, 1), (143, .iastore, 1), (144, .return_, 1)]
theorem dcX9_lookAround_1 : tbX9_lookAround_1.all (fun q => decide (decode cX9_lookAround q.1 = .ok q.2)) = true := by decide +kernel
def tbX9_weigh_0 : List (Nat × Instr × Nat) := [(0, .aload_n 1, 1), (1, .bipush 12, 2), (3, .invokevirtual 26, 3), (6, .istore_n 3, 1), (7, .aload_n 0, 1), (8, .getfield 18, 3), (11, .iload_n 3, 1), (12, .invokevirtual 66, 3), (15, .istore 4, 2), (17, .iload 4, 2), (19, .iconst 2, 1), (20, .if_icmp .eq 9, 3), (23, .iload 4, 2), (25, .iconst 5, 1), (26, .if_icmp .ne 7, 3), (29, .iconst 1, 1), (30, .goto 4, 3), (33, .iconst 0, 1), (34, .istore 5, 2), (36, .iload 4, 2), (38, .iconst 3, 1), (39, .if_icmp .eq 10, 3), (42, .iload 4, 2), (44, .bipush 6, 2), (46, .if_icmp .ne 7, 3), (49, .iconst 1, 1), (50, .goto 4, 3), (53, .iconst 0, 1), (54, .istore 6, 2), (56, .aload_n 0, 1), (57, .aload_n 1, 1), (58, .invokevirtual 52, 3), (61, .aload_n 0, 1), (62, .getfield 15, 3), (65, .iconst 0, 1), (66, .aload_n 0, 1), (67, .getfield 22, 3), (70, .iconst 1, 1), (71, .aload_n 0, 1), (72, .getfield 9, 3), (75, .invokevirtual 56, 3), (78, .iastore, 1), (79, .aload_n 0, 1), (80, .getfield 15, 3), (83, .iconst 1, 1), (84, .aload_n 0, 1), (85, .aload_n 1, 1), (86, .iload_n 2, 1)]
theorem dcX9_weigh_0 : tbX9_weigh_0.all (fun q => decide (decode cX9_weigh q.1 = .ok q.2)) = true := by decide +kernel
def tbX9_weigh_1 : List (Nat × Instr × Nat) := [(87, .invokevirtual 69, 3), (90, .iastore, 1), (91, .aload_n 0, 1), (92, .getfield 15, 3), (95, .iconst 2, 1), (96, .iload 5, 2), (98, .ifCond .eq 18, 3), (101, .aload_n 0, 1), (102, .getfield 22, 3), (105, .iconst 2, 1), (106, .aload_n 0, 1), (107, .getfield 9, 3), (110, .invokevirtual 56, 3), (113, .goto 4, 3), (116, .iconst 0, 1), (117, .iastore, 1), (118, .aload_n 0, 1), (119, .getfield 15, 3), (122, .iconst 3, 1), (123, .iload 6, 2), (125, .ifCond .eq 12, 3), (128, .aload_n 1, 1), (129, .bipush 6, 2), (131, .invokevirtual 26, 3), (134, .goto 4, 3), (137, .iconst 0, 1), (138, .iastore, 1), (139, .aload_n 0, 1), (140, .getfield 15, 3), (143, .iconst 4, 1), (144, .iload 4, 2), (146, .iconst 5, 1), (147, .if_icmp .ne 14, 3), (150, .aload_n 1, 1), (151, .bipush 8, 2), (153, .invokevirtual 26, 3), (156, .iconst 2, 1), (157, .idiv, 1), (158, .goto 4, 3), (161, .iconst 0, 1), (162, .iastore, 1), (163, .aload_n 0, 1), (164, .getfield 15, 3), (167, .iconst 5, 1), (168, .iload 4, 2), (170, .bipush 6, 2), (172, .if_icmp .ne 16, 3), (175, .aload_n 0, 1)]
theorem dcX9_weigh_1 : tbX9_weigh_1.all (fun q => decide (decode cX9_weigh q.1 = .ok q.2)) = true := by decide +kernel
def tbX9_weigh_2 : List (Nat × Instr × Nat) := [(176, .getfield 18, 3), (179, .iload_n 3, 1), (180, .invokevirtual 73, 3), (183, .iload_n 3, 1), (184, .imul, 1), (185, .goto 4, 3), (188, .iconst 0, 1), (189, .iastore, 1), (190, .aload_n 0, 1), (191, .getfield 15, 3), (194, .bipush 6, 2), (196, .aload_n 1, 1), (197, .invokevirtual 76, 3), (200, .ifCond .eq 8, 3), (203, .bipush 15, 2), (205, .goto 4, 3), (208, .iconst 0, 1), (209, .iastore, 1), (210, .aload_n 0, 1), (211, .getfield 22, 3), (214, .iconst 0, 1), (215, .aload_n 0, 1), (216, .getfield 9, 3), (219, .invokevirtual 56, 3), (222, .aload_n 0, 1), (223, .aload_n 1, 1), (224, .iload_n 2, 1), (225, .invokevirtual 80, 3), (228, .iadd, 1), (229, .istore 7, 2), (231, .iconst 0, 1), (232, .istore 8, 2), (234, .iload 8, 2), (236, .aload_n 0, 1), (237, .getfield 15, 3), (240, .arraylength, 1), (241, .if_icmp .ge 21, 3), (244, .iload 7, 2), (246, .aload_n 0, 1), (247, .getfield 15, 3), (250, .iload 8, 2), (252, .iaload, 1), (253, .isub, 1), (254, .istore 7, 2), (256, .iinc 8 1, 3), (259, .goto (-25), 3), (262, .iload 7, 2), (264, .ireturn, 1)]
theorem dcX9_weigh_2 : tbX9_weigh_2.all (fun q => decide (decode cX9_weigh q.1 = .ok q.2)) = true := by decide +kernel
def tbX9_moreBy_0 : List (Nat × Instr × Nat) := [(0, .iload_n 2, 1), (1, .tableswitch 73 1 7 #[43, 73, 70, 52, 73, 73, 61], 43), (44, .aload_n 0, 1), (45, .getfield 22, 3), (48, .iconst 3, 1), (49, .invokevirtual 41, 3), (52, .ireturn, 1), (53, .aload_n 1, 1), (54, .bipush 7, 2), (56, .invokevirtual 26, 3), (59, .iconst 2, 1), (60, .idiv, 1), (61, .ireturn, 1), (62, .aload_n 0, 1), (63, .getfield 22, 3), (66, .iconst 4, 1), (67, .invokevirtual 41, 3), (70, .ireturn, 1), (71, .bipush (-20), 2), (73, .ireturn, 1), (74, .iconst 0, 1), (75, .ireturn, 1)]
theorem dcX9_moreBy_0 : tbX9_moreBy_0.all (fun q => decide (decode cX9_moreBy q.1 = .ok q.2)) = true := by decide +kernel
def tbX9_fearThatCounts_0 : List (Nat × Instr × Nat) := [(0, .iload_n 2, 1), (1, .iconst 3, 1), (2, .if_icmp .ne 5, 3), (5, .iconst 0, 1), (6, .ireturn, 1), (7, .aload_n 1, 1), (8, .bipush 12, 2), (10, .invokevirtual 26, 3), (13, .istore_n 3, 1), (14, .aload_n 1, 1), (15, .aload_n 0, 1), (16, .getfield 18, 3), (19, .iload_n 3, 1), (20, .invokevirtual 38, 3), (23, .invokevirtual 26, 3), (26, .istore 4, 2), (28, .iload_n 2, 1), (29, .iconst 2, 1), (30, .if_icmp .ne 10, 3), (33, .iload 4, 2), (35, .iconst 2, 1), (36, .idiv, 1), (37, .goto 5, 3), (40, .iload 4, 2), (42, .istore 5, 2), (44, .aload_n 0, 1), (45, .getfield 18, 3), (48, .iload_n 3, 1), (49, .invokevirtual 66, 3), (52, .lookupswitch 58 #[(1, 28), (4, 33)], 28), (80, .iload 5, 2), (82, .iconst 2, 1), (83, .imul, 1), (84, .ireturn, 1), (85, .iconst 0, 1), (86, .iload 5, 2), (88, .iconst 2, 1), (89, .imul, 1), (90, .aload_n 0, 1), (91, .getfield 18, 3), (94, .iload_n 3, 1), (95, .invokevirtual 73, 3), (98, .aload_n 1, 1), (99, .bipush 9, 2), (101, .invokevirtual 26, 3), (104, .imul, 1), (105, .isub, 1), (106, .invokestatic 46, 3)]
theorem dcX9_fearThatCounts_0 : tbX9_fearThatCounts_0.all (fun q => decide (decode cX9_fearThatCounts q.1 = .ok q.2)) = true := by decide +kernel
def tbX9_fearThatCounts_1 : List (Nat × Instr × Nat) := [(109, .ireturn, 1), (110, .iload 5, 2), (112, .ireturn, 1)]
theorem dcX9_fearThatCounts_1 : tbX9_fearThatCounts_1.all (fun q => decide (decode cX9_fearThatCounts q.1 = .ok q.2)) = true := by decide +kernel
def tbX9_mostAgainst_0 : List (Nat × Instr × Nat) := [(0, .aload_n 0, 1), (1, .aload_n 1, 1), (2, .iconst 0, 1), (3, .invokevirtual 83, 3), (6, .ifCond .le 6, 3), (9, .bipush (-5), 2), (11, .ireturn, 1), (12, .iconst 0, 1), (13, .istore_n 2, 1), (14, .iconst 1, 1), (15, .istore_n 3, 1), (16, .iload_n 3, 1), (17, .aload_n 0, 1), (18, .getfield 15, 3), (21, .arraylength, 1), (22, .if_icmp .ge 26, 3), (25, .aload_n 0, 1), (26, .getfield 15, 3), (29, .iload_n 3, 1), (30, .iaload, 1), (31, .aload_n 0, 1), (32, .getfield 15, 3), (35, .iload_n 2, 1), (36, .iaload, 1), (37, .if_icmp .le 5, 3), (40, .iload_n 3, 1), (41, .istore_n 2, 1), (42, .iinc 3 1, 3), (45, .goto (-29), 3), (48, .iload_n 2, 1), (49, .ireturn, 1)]
theorem dcX9_mostAgainst_0 : tbX9_mostAgainst_0.all (fun q => decide (decode cX9_mostAgainst q.1 = .ok q.2)) = true := by decide +kernel
def tbX9_doing_0 : List (Nat × Instr × Nat) := [(0, .aload_n 0, 1), (1, .aload_n 1, 1), (2, .invokevirtual 86, 3), (5, .ifCond .eq 6, 3), (8, .bipush (-5), 2), (10, .ireturn, 1), (11, .iload_n 2, 1), (12, .bipush 6, 2), (14, .if_icmp .ne 7, 3), (17, .iconst 1, 1), (18, .goto 12, 3), (21, .aload_n 0, 1), (22, .aload_n 1, 1), (23, .iload_n 2, 1), (24, .invokevirtual 83, 3), (27, .invokestatic 90, 3), (30, .ireturn, 1)]
theorem dcX9_doing_0 : tbX9_doing_0.all (fun q => decide (decode cX9_doing q.1 = .ok q.2)) = true := by decide +kernel
def tbX9_doneBy_0 : List (Nat × Instr × Nat) := [(0, .iload_n 0, 1), (1, .ifCond .le 5, 3), (4, .iconst 1, 1), (5, .ireturn, 1), (6, .iload_n 0, 1), (7, .bipush (-14), 2), (9, .if_icmp .lt 5, 3), (12, .iconst 0, 1), (13, .ireturn, 1), (14, .iload_n 0, 1), (15, .bipush (-39), 2), (17, .if_icmp .lt 7, 3), (20, .iconst 2, 1), (21, .goto 4, 3), (24, .iconst 3, 1), (25, .ireturn, 1)]
theorem dcX9_doneBy_0 : tbX9_doneBy_0.all (fun q => decide (decode cX9_doneBy q.1 = .ok q.2)) = true := by decide +kernel
def tbX9_step_0 : List (Nat × Instr × Nat) := [(0, .aload_n 0, 1), (1, .aload_n 1, 1), (2, .invokevirtual 86, 3), (5, .ifCond .eq 6, 3), (8, .bipush (-5), 2), (10, .ireturn, 1), (11, .iconst 1, 1), (12, .istore 4, 2), (14, .iload_n 2, 1), (15, .bipush 6, 2), (17, .if_icmp .ne 19, 3), (20, .aload_n 1, 1), (21, .bipush 6, 2), (23, .bipush 10, 2), (25, .invokevirtual 93, 3), (28, .aload_n 1, 1), (29, .iconst 1, 1), (30, .invokestatic 97, 3), (33, .goto 50, 3), (36, .aload_n 0, 1), (37, .aload_n 1, 1), (38, .iload_n 2, 1), (39, .invokevirtual 83, 3), (42, .iload_n 3, 1), (43, .isub, 1), (44, .invokestatic 90, 3), (47, .istore 4, 2), (49, .aload_n 0, 1), (50, .getfield 18, 3), (53, .aload_n 1, 1), (54, .bipush 12, 2), (56, .invokevirtual 26, 3), (59, .invokevirtual 38, 3), (62, .istore 5, 2), (64, .aload_n 0, 1), (65, .aload_n 1, 1), (66, .iload_n 2, 1), (67, .iload 4, 2), (69, .iload 5, 2), (71, .invokevirtual 101, 3), (74, .aload_n 1, 1), (75, .iload_n 2, 1), (76, .iload 4, 2), (78, .iload 5, 2), (80, .invokestatic 105, 3), (83, .aload_n 1, 1), (84, .bipush 14, 2), (86, .aload_n 0, 1)]
theorem dcX9_step_0 : tbX9_step_0.all (fun q => decide (decode cX9_step q.1 = .ok q.2)) = true := by decide +kernel
def tbX9_step_1 : List (Nat × Instr × Nat) := [(87, .iload_n 2, 1), (88, .invokevirtual 108, 3), (91, .invokevirtual 93, 3), (94, .iload 4, 2), (96, .ireturn, 1)]
theorem dcX9_step_1 : tbX9_step_1.all (fun q => decide (decode cX9_step q.1 = .ok q.2)) = true := by decide +kernel
def tbX9_leave_0 : List (Nat × Instr × Nat) := [(0, .aload_n 0, 1), (1, .bipush 12, 2), (3, .iload_n 1, 1), (4, .invokevirtual 93, 3), (7, .aload_n 0, 1), (8, .bipush 9, 2), (10, .iconst 0, 1), (11, .invokevirtual 111, 3), (14, .aload_n 0, 1), (15, .bipush 13, 2), (17, .iconst 0, 1), (18, .invokevirtual 111, 3), (21, .return_, 1)]
theorem dcX9_leave_0 : tbX9_leave_0.all (fun q => decide (decode cX9_leave q.1 = .ok q.2)) = true := by decide +kernel
def tbX9_follow_0 : List (Nat × Instr × Nat) := [(0, .iload_n 3, 1), (1, .tableswitch 96 0 2 #[50, 27, 88], 27), (28, .aload_n 1, 1), (29, .iload 4, 2), (31, .bipush (-5), 2), (33, .invokevirtual 93, 3), (36, .aload_n 1, 1), (37, .bipush 8, 2), (39, .iconst 1, 1), (40, .invokevirtual 93, 3), (43, .aload_n 1, 1), (44, .iconst 1, 1), (45, .invokestatic 97, 3), (48, .goto 63, 3), (51, .iload_n 2, 1), (52, .bipush 7, 2), (54, .if_icmp .eq 25, 3), (57, .aload_n 1, 1), (58, .iload 4, 2), (60, .aload_n 0, 1), (61, .getfield 22, 3), (64, .iconst 5, 1), (65, .invokevirtual 41, 3), (68, .ineg, 1), (69, .invokevirtual 93, 3), (72, .aload_n 1, 1), (73, .bipush 9, 2), (75, .iconst 1, 1), (76, .invokevirtual 93, 3), (79, .aload_n 1, 1), (80, .bipush 13, 2), (82, .iconst 0, 1), (83, .invokevirtual 111, 3), (86, .goto 25, 3), (89, .aload_n 1, 1), (90, .iconst (-1), 1), (91, .invokestatic 97, 3), (94, .goto 17, 3), (97, .aload_n 1, 1), (98, .bipush 13, 2), (100, .iconst 1, 1), (101, .invokevirtual 111, 3), (104, .aload_n 1, 1), (105, .bipush 8, 2), (107, .iconst (-1), 1), (108, .invokevirtual 93, 3), (111, .return_, 1)]
theorem dcX9_follow_0 : tbX9_follow_0.all (fun q => decide (decode cX9_follow q.1 = .ok q.2)) = true := by decide +kernel
def tbX9_answer_0 : List (Nat × Instr × Nat) := [(0, .iload_n 2, 1), (1, .iconst 1, 1), (2, .if_icmp .ne 7, 3), (5, .iconst 1, 1), (6, .goto 4, 3), (9, .iconst 0, 1), (10, .istore 4, 2), (12, .iload_n 1, 1), (13, .tableswitch 143 1 7 #[43, 143, 143, 62, 89, 143, 108], 43), (56, .aload_n 0, 1), (57, .bipush 6, 2), (59, .iload 4, 2), (61, .ifCond .eq 7, 3), (64, .iconst 0, 1), (65, .goto 4, 3), (68, .iconst (-1), 1), (69, .invokevirtual 93, 3), (72, .goto 84, 3), (75, .aload_n 0, 1), (76, .bipush 6, 2), (78, .iload 4, 2), (80, .ifCond .eq 7, 3), (83, .iconst (-1), 1), (84, .goto 4, 3), (87, .iconst 5, 1), (88, .invokevirtual 93, 3), (91, .aload_n 0, 1), (92, .bipush 7, 2), (94, .bipush (-3), 2), (96, .invokevirtual 93, 3), (99, .goto 57, 3), (102, .aload_n 0, 1), (103, .bipush 10, 2), (105, .bipush (-5), 2), (107, .invokevirtual 93, 3), (110, .aload_n 0, 1), (111, .bipush 11, 2), (113, .bipush (-5), 2), (115, .invokevirtual 93, 3), (118, .goto 38, 3), (121, .aload_n 0, 1), (122, .iload_n 3, 1), (123, .iload 4, 2), (125, .ifCond .eq 7, 3), (128, .iconst 0, 1), (129, .goto 4, 3), (132, .iconst 3, 1), (133, .invokevirtual 93, 3)]
theorem dcX9_answer_0 : tbX9_answer_0.all (fun q => decide (decode cX9_answer q.1 = .ok q.2)) = true := by decide +kernel
def tbX9_answer_1 : List (Nat × Instr × Nat) := [(136, .aload_n 0, 1), (137, .bipush 6, 2), (139, .iload 4, 2), (141, .ifCond .eq 7, 3), (144, .iconst 0, 1), (145, .goto 5, 3), (148, .bipush (-2), 2), (150, .invokevirtual 93, 3), (153, .goto 3, 3), (156, .return_, 1)]
theorem dcX9_answer_1 : tbX9_answer_1.all (fun q => decide (decode cX9_answer q.1 = .ok q.2)) = true := by decide +kernel
def tbX10_init_0 : List (Nat × Instr × Nat) := [(0, .aload_n 0, 1), (1, .invokespecial 3, 3), (4, .aload_n 0, 1), (5, .new 9, 3), (8, .dup, 1), (9, .invokespecial 11, 3), (12, .putfield 12, 3), (15, .aload_n 0, 1), (16, .new 18, 3), (19, .dup, 1), (20, .invokespecial 20, 3), (23, .putfield 21, 3), (26, .aload_n 0, 1), (27, .bipush 6, 2), (29, .anewarray 25, 3), (32, .putfield 27, 3), (35, .iconst 0, 1), (36, .istore_n 1, 1), (37, .iload_n 1, 1), (38, .aload_n 0, 1), (39, .getfield 27, 3), (42, .arraylength, 1), (43, .if_icmp .ge 22, 3), (46, .aload_n 0, 1), (47, .getfield 27, 3), (50, .iload_n 1, 1), (51, .new 25, 3), (54, .dup, 1), (55, .invokespecial 31, 3), (58, .aastore, 1), (59, .iinc 1 1, 3), (62, .goto (-25), 3), (65, .aload_n 0, 1), (66, .new 25, 3), (69, .dup, 1), (70, .invokespecial 31, 3), (73, .putfield 32, 3), (76, .aload_n 0, 1), (77, .new 36, 3), (80, .dup, 1), (81, .aload_n 0, 1), (82, .getfield 12, 3), (85, .aload_n 0, 1), (86, .getfield 32, 3), (89, .invokespecial 38, 3), (92, .putfield 41, 3), (95, .aload_n 0, 1), (96, .new 45, 3)]
theorem dcX10_init_0 : tbX10_init_0.all (fun q => decide (decode cX10_init q.1 = .ok q.2)) = true := by decide +kernel
def tbX10_init_1 : List (Nat × Instr × Nat) := [(99, .dup, 1), (100, .invokespecial 47, 3), (103, .putfield 48, 3), (106, .aload_n 0, 1), (107, .new 45, 3), (110, .dup, 1), (111, .invokespecial 47, 3), (114, .putfield 52, 3), (117, .aload_n 0, 1), (118, .new 55, 3), (121, .dup, 1), (122, .aload_n 0, 1), (123, .getfield 41, 3), (126, .aload_n 0, 1), (127, .getfield 48, 3), (130, .invokespecial 57, 3), (133, .putfield 60, 3), (136, .aload_n 0, 1), (137, .new 64, 3), (140, .dup, 1), (141, .aload_n 0, 1), (142, .getfield 12, 3), (145, .invokespecial 66, 3), (148, .putfield 69, 3), (151, .aload_n 0, 1), (152, .bipush 6, 2), (154, .anewarray 73, 3), (157, .putfield 75, 3), (160, .iconst 0, 1), (161, .istore_n 1, 1), (162, .iload_n 1, 1), (163, .aload_n 0, 1), (164, .getfield 75, 3), (167, .arraylength, 1), (168, .if_icmp .ge 22, 3), (171, .aload_n 0, 1), (172, .getfield 75, 3), (175, .iload_n 1, 1), (176, .new 73, 3), (179, .dup, 1), (180, .invokespecial 79, 3), (183, .aastore, 1), (184, .iinc 1 1, 3), (187, .goto (-25), 3), (190, .return_, 1)]
theorem dcX10_init_1 : tbX10_init_1.all (fun q => decide (decode cX10_init q.1 = .ok q.2)) = true := by decide +kernel
def tbX10_place_0 : List (Nat × Instr × Nat) := [(0, .iload_n 1, 1), (1, .ifCond .lt 18, 3), (4, .iload_n 1, 1), (5, .bipush 6, 2), (7, .if_icmp .gt 12, 3), (10, .iload_n 3, 1), (11, .ifCond .lt 8, 3), (14, .iload_n 3, 1), (15, .iconst 5, 1), (16, .if_icmp .le 5, 3), (19, .iconst (-1), 1), (20, .ireturn, 1), (21, .iload_n 2, 1), (22, .ifCond .lt 9, 3), (25, .iload_n 2, 1), (26, .bipush 9, 2), (28, .if_icmp .le 6, 3), (31, .bipush (-2), 2), (33, .ireturn, 1), (34, .aload_n 0, 1), (35, .getfield 12, 3), (38, .invokevirtual 80, 3), (41, .bipush 10, 2), (43, .if_icmp .lt 6, 3), (46, .bipush (-4), 2), (48, .ireturn, 1), (49, .aload_n 0, 1), (50, .getfield 12, 3), (53, .iload_n 1, 1), (54, .iload_n 2, 1), (55, .iload_n 3, 1), (56, .invokevirtual 84, 3), (59, .ireturn, 1)]
theorem dcX10_place_0 : tbX10_place_0.all (fun q => decide (decode cX10_place q.1 = .ok q.2)) = true := by decide +kernel
def tbX10_of_0 : List (Nat × Instr × Nat) := [(0, .aload_n 0, 1), (1, .getfield 12, 3), (4, .iload_n 1, 1), (5, .invokevirtual 88, 3), (8, .ifCond .ne 5, 3), (11, .iconst (-1), 1), (12, .ireturn, 1), (13, .iload_n 2, 1), (14, .tableswitch 53 0 2 #[26, 35, 44], 26), (40, .aload_n 0, 1), (41, .getfield 12, 3), (44, .iload_n 1, 1), (45, .invokevirtual 92, 3), (48, .ireturn, 1), (49, .aload_n 0, 1), (50, .getfield 12, 3), (53, .iload_n 1, 1), (54, .invokevirtual 96, 3), (57, .ireturn, 1), (58, .aload_n 0, 1), (59, .getfield 12, 3), (62, .iload_n 1, 1), (63, .invokevirtual 99, 3), (66, .ireturn, 1), (67, .iconst (-1), 1), (68, .ireturn, 1)]
theorem dcX10_of_0 : tbX10_of_0.all (fun q => decide (decode cX10_of q.1 = .ok q.2)) = true := by decide +kernel
def tbX10_set_0 : List (Nat × Instr × Nat) := [(0, .iload_n 1, 1), (1, .ifCond .lt 9, 3), (4, .iload_n 1, 1), (5, .bipush 13, 2), (7, .if_icmp .le 5, 3), (10, .iconst (-1), 1), (11, .ireturn, 1), (12, .iload_n 1, 1), (13, .bipush 12, 2), (15, .if_icmp .ne 13, 3), (18, .aload_n 0, 1), (19, .getfield 12, 3), (22, .invokevirtual 80, 3), (25, .goto 7, 3), (28, .iload_n 1, 1), (29, .invokestatic 102, 3), (32, .istore_n 3, 1), (33, .iload_n 2, 1), (34, .ifCond .lt 8, 3), (37, .iload_n 2, 1), (38, .iload_n 3, 1), (39, .if_icmp .le 6, 3), (42, .bipush (-2), 2), (44, .ireturn, 1), (45, .aload_n 0, 1), (46, .getfield 48, 3), (49, .getfield 107, 3), (52, .iload_n 1, 1), (53, .invokevirtual 111, 3), (56, .istore 4, 2), (58, .aload_n 0, 1), (59, .getfield 48, 3), (62, .getfield 107, 3), (65, .iload_n 1, 1), (66, .iload_n 2, 1), (67, .invokevirtual 114, 3), (70, .iload 4, 2), (72, .ireturn, 1)]
theorem dcX10_set_0 : tbX10_set_0.all (fun q => decide (decode cX10_set q.1 = .ok q.2)) = true := by decide +kernel
def tbX10_now_0 : List (Nat × Instr × Nat) := [(0, .iload_n 1, 1), (1, .ifCond .lt 9, 3), (4, .iload_n 1, 1), (5, .bipush 15, 2), (7, .if_icmp .le 7, 3), (10, .iconst (-1), 1), (11, .goto 14, 3), (14, .aload_n 0, 1), (15, .getfield 48, 3), (18, .getfield 107, 3), (21, .iload_n 1, 1), (22, .invokevirtual 118, 3), (25, .ireturn, 1)]
theorem dcX10_now_0 : tbX10_now_0.all (fun q => decide (decode cX10_now q.1 = .ok q.2)) = true := by decide +kernel
def tbX10_feed_0 : List (Nat × Instr × Nat) := [(0, .iload_n 1, 1), (1, .ifCond .lt 9, 3), (4, .iload_n 1, 1), (5, .bipush 127, 2), (7, .if_icmp .le 6, 3), (10, .bipush (-2), 2), (12, .ireturn, 1), (13, .aload_n 0, 1), (14, .getfield 21, 3), (17, .iload_n 1, 1), (18, .invokevirtual 121, 3), (21, .ifCond .eq 13, 3), (24, .aload_n 0, 1), (25, .getfield 21, 3), (28, .invokevirtual 123, 3), (31, .goto 5, 3), (34, .bipush (-4), 2), (36, .ireturn, 1)]
theorem dcX10_feed_0 : tbX10_feed_0.all (fun q => decide (decode cX10_feed q.1 = .ok q.2)) = true := by decide +kernel
def tbX10_law_0 : List (Nat × Instr × Nat) := [(0, .aload_n 0, 1), (1, .getfield 124, 3), (4, .ifCond .lt 27, 3), (7, .aload_n 0, 1), (8, .getfield 124, 3), (11, .aload_n 0, 1), (12, .getfield 27, 3), (15, .arraylength, 1), (16, .if_icmp .ge 15, 3), (19, .aload_n 0, 1), (20, .getfield 27, 3), (23, .aload_n 0, 1), (24, .getfield 124, 3), (27, .aaload, 1), (28, .goto 4, 3), (31, .aconst_null, 1), (32, .astore_n 1, 1), (33, .aload_n 1, 1), (34, .ifnonnull 6, 3), (37, .bipush (-4), 2), (39, .ireturn, 1), (40, .aload_n 0, 1), (41, .getfield 21, 3), (44, .aload_n 1, 1), (45, .invokevirtual 128, 3), (48, .istore_n 2, 1), (49, .aload_n 0, 1), (50, .getfield 21, 3), (53, .invokevirtual 132, 3), (56, .iload_n 2, 1), (57, .ifCond .lt 8, 3), (60, .bipush (-10), 2), (62, .iload_n 2, 1), (63, .isub, 1), (64, .ireturn, 1), (65, .aload_n 0, 1), (66, .getfield 48, 3), (69, .aload_n 0, 1), (70, .getfield 124, 3), (73, .putfield 135, 3), (76, .aload_n 0, 1), (77, .dup, 1), (78, .getfield 124, 3), (81, .iconst 1, 1), (82, .iadd, 1), (83, .putfield 124, 3), (86, .aload_n 0, 1), (87, .getfield 41, 3)]
theorem dcX10_law_0 : tbX10_law_0.all (fun q => decide (decode cX10_law q.1 = .ok q.2)) = true := by decide +kernel
def tbX10_law_1 : List (Nat × Instr × Nat) := [(90, .aload_n 1, 1), (91, .invokevirtual 138, 3), (94, .aload_n 0, 1), (95, .getfield 48, 3), (98, .getfield 135, 3), (101, .ireturn, 1)]
theorem dcX10_law_1 : tbX10_law_1.all (fun q => decide (decode cX10_law q.1 = .ok q.2)) = true := by decide +kernel
def tbX10_told_0 : List (Nat × Instr × Nat) := [(0, .iload_n 1, 1), (1, .ifCond .lt 9, 3), (4, .iload_n 1, 1), (5, .bipush 6, 2), (7, .if_icmp .le 5, 3), (10, .iconst (-1), 1), (11, .ireturn, 1), (12, .iload_n 1, 1), (13, .iconst 2, 1), (14, .if_icmp .le 12, 3), (17, .aload_n 0, 1), (18, .getfield 41, 3), (21, .iload_n 1, 1), (22, .invokevirtual 142, 3), (25, .ireturn, 1), (26, .aload_n 0, 1), (27, .invokevirtual 145, 3), (30, .ifCond .eq 8, 3), (33, .bipush (-3), 2), (35, .goto 18, 3), (38, .aload_n 0, 1), (39, .getfield 41, 3), (42, .aload_n 0, 1), (43, .getfield 48, 3), (46, .getfield 107, 3), (49, .iload_n 1, 1), (50, .invokevirtual 149, 3), (53, .ireturn, 1)]
theorem dcX10_told_0 : tbX10_told_0.all (fun q => decide (decode cX10_told q.1 = .ok q.2)) = true := by decide +kernel
def tbX10_drive_0 : List (Nat × Instr × Nat) := [(0, .iload_n 1, 1), (1, .invokestatic 153, 3), (4, .ifCond .ne 6, 3), (7, .ldc 156, 2), (9, .ireturn, 1), (10, .aload_n 0, 1), (11, .invokevirtual 145, 3), (14, .ifCond .eq 8, 3), (17, .ldc 157, 2), (19, .goto 18, 3), (22, .aload_n 0, 1), (23, .getfield 41, 3), (26, .aload_n 0, 1), (27, .getfield 48, 3), (30, .getfield 107, 3), (33, .iload_n 1, 1), (34, .invokevirtual 158, 3), (37, .ireturn, 1)]
theorem dcX10_drive_0 : tbX10_drive_0.all (fun q => decide (decode cX10_drive q.1 = .ok q.2)) = true := by decide +kernel
def tbX10_would_0 : List (Nat × Instr × Nat) := [(0, .iload_n 1, 1), (1, .invokestatic 153, 3), (4, .ifCond .eq 21, 3), (7, .aload_n 0, 1), (8, .getfield 41, 3), (11, .aload_n 0, 1), (12, .getfield 48, 3), (15, .getfield 107, 3), (18, .iload_n 1, 1), (19, .invokevirtual 161, 3), (22, .goto 4, 3), (25, .iconst (-1), 1), (26, .ireturn, 1)]
theorem dcX10_would_0 : tbX10_would_0.all (fun q => decide (decode cX10_would q.1 = .ok q.2)) = true := by decide +kernel
def tbX10_go_0 : List (Nat × Instr × Nat) := [(0, .iload_n 1, 1), (1, .invokestatic 153, 3), (4, .ifCond .ne 5, 3), (7, .iconst (-1), 1), (8, .ireturn, 1), (9, .aload_n 0, 1), (10, .getfield 48, 3), (13, .getfield 107, 3), (16, .bipush 14, 2), (18, .invokevirtual 111, 3), (21, .aload_n 0, 1), (22, .getfield 41, 3), (25, .iload_n 1, 1), (26, .invokevirtual 164, 3), (29, .iadd, 1), (30, .sipush 9999, 3), (33, .if_icmp .le 6, 3), (36, .bipush (-3), 2), (38, .ireturn, 1), (39, .aload_n 0, 1), (40, .getfield 41, 3), (43, .aload_n 0, 1), (44, .getfield 48, 3), (47, .getfield 107, 3), (50, .iload_n 1, 1), (51, .iconst 0, 1), (52, .invokevirtual 167, 3), (55, .ireturn, 1)]
theorem dcX10_go_0 : tbX10_go_0.all (fun q => decide (decode cX10_go q.1 = .ok q.2)) = true := by decide +kernel
def tbX10_row_0 : List (Nat × Instr × Nat) := [(0, .iload_n 1, 1), (1, .iconst (-1), 1), (2, .if_icmp .eq 12, 3), (5, .iload_n 1, 1), (6, .invokestatic 153, 3), (9, .ifCond .ne 5, 3), (12, .iconst (-1), 1), (13, .ireturn, 1), (14, .aload_n 0, 1), (15, .getfield 48, 3), (18, .getfield 171, 3), (21, .iload_n 1, 1), (22, .invokestatic 175, 3), (25, .ireturn, 1)]
theorem dcX10_row_0 : tbX10_row_0.all (fun q => decide (decode cX10_row q.1 = .ok q.2)) = true := by decide +kernel
def tbX10_hand_0 : List (Nat × Instr × Nat) := [(0, .iload_n 2, 1), (1, .ifCond .lt 9, 3), (4, .iload_n 2, 1), (5, .bipush 15, 2), (7, .if_icmp .le 5, 3), (10, .iconst (-1), 1), (11, .ireturn, 1), (12, .iload_n 1, 1), (13, .ifCond .lt 17, 3), (16, .iload_n 1, 1), (17, .aload_n 0, 1), (18, .getfield 48, 3), (21, .getfield 171, 3), (24, .invokevirtual 179, 3), (27, .if_icmp .le 6, 3), (30, .bipush (-2), 2), (32, .ireturn, 1), (33, .aload_n 0, 1), (34, .getfield 60, 3), (37, .iload_n 1, 1), (38, .invokevirtual 182, 3), (41, .iload_n 2, 1), (42, .invokevirtual 118, 3), (45, .ireturn, 1)]
theorem dcX10_hand_0 : tbX10_hand_0.all (fun q => decide (decode cX10_hand q.1 = .ok q.2)) = true := by decide +kernel
def tbX10_soonest_0 : List (Nat × Instr × Nat) := [(0, .iload_n 2, 1), (1, .iconst (-1), 1), (2, .if_icmp .lt 8, 3), (5, .iload_n 2, 1), (6, .iconst 4, 1), (7, .if_icmp .lt 5, 3), (10, .iconst (-1), 1), (11, .ireturn, 1), (12, .iload_n 1, 1), (13, .ifCond .lt 8, 3), (16, .iload_n 1, 1), (17, .iconst 4, 1), (18, .if_icmp .le 6, 3), (21, .bipush (-2), 2), (23, .ireturn, 1), (24, .aload_n 0, 1), (25, .invokevirtual 145, 3), (28, .ifCond .eq 6, 3), (31, .bipush (-3), 2), (33, .ireturn, 1), (34, .aload_n 0, 1), (35, .getfield 60, 3), (38, .iload_n 1, 1), (39, .invokevirtual 186, 3), (42, .istore_n 3, 1), (43, .iload_n 2, 1), (44, .iconst (-1), 1), (45, .if_icmp .ne 7, 3), (48, .iload_n 3, 1), (49, .goto 11, 3), (52, .aload_n 0, 1), (53, .getfield 60, 3), (56, .iload_n 2, 1), (57, .invokevirtual 189, 3), (60, .ireturn, 1)]
theorem dcX10_soonest_0 : tbX10_soonest_0.all (fun q => decide (decode cX10_soonest q.1 = .ok q.2)) = true := by decide +kernel
def tbX10_gentlest_0 : List (Nat × Instr × Nat) := [(0, .iload_n 1, 1), (1, .iconst 1, 1), (2, .if_icmp .lt 8, 3), (5, .iload_n 1, 1), (6, .iconst 4, 1), (7, .if_icmp .le 6, 3), (10, .bipush (-2), 2), (12, .ireturn, 1), (13, .iload_n 2, 1), (14, .iconst (-1), 1), (15, .if_icmp .lt 8, 3), (18, .iload_n 2, 1), (19, .iload_n 1, 1), (20, .if_icmp .lt 5, 3), (23, .iconst (-1), 1), (24, .ireturn, 1), (25, .aload_n 0, 1), (26, .invokevirtual 145, 3), (29, .ifCond .eq 6, 3), (32, .bipush (-3), 2), (34, .ireturn, 1), (35, .aload_n 0, 1), (36, .getfield 60, 3), (39, .iload_n 1, 1), (40, .invokevirtual 192, 3), (43, .istore_n 3, 1), (44, .iload_n 2, 1), (45, .iconst (-1), 1), (46, .if_icmp .ne 7, 3), (49, .iload_n 3, 1), (50, .goto 11, 3), (53, .aload_n 0, 1), (54, .getfield 60, 3), (57, .iload_n 2, 1), (58, .invokevirtual 189, 3), (61, .ireturn, 1)]
theorem dcX10_gentlest_0 : tbX10_gentlest_0.all (fun q => decide (decode cX10_gentlest q.1 = .ok q.2)) = true := by decide +kernel
def tbX10_why_0 : List (Nat × Instr × Nat) := [(0, .aload_n 0, 1), (1, .invokevirtual 145, 3), (4, .ifCond .eq 8, 3), (7, .bipush (-5), 2), (9, .goto 17, 3), (12, .aload_n 0, 1), (13, .getfield 41, 3), (16, .aload_n 0, 1), (17, .getfield 48, 3), (20, .getfield 107, 3), (23, .invokevirtual 195, 3), (26, .ireturn, 1)]
theorem dcX10_why_0 : tbX10_why_0.all (fun q => decide (decode cX10_why q.1 = .ok q.2)) = true := by decide +kernel
def tbX10_waits_0 : List (Nat × Instr × Nat) := [(0, .aload_n 0, 1), (1, .invokevirtual 145, 3), (4, .ifCond .eq 8, 3), (7, .bipush (-3), 2), (9, .goto 10, 3), (12, .aload_n 0, 1), (13, .getfield 60, 3), (16, .invokevirtual 199, 3), (19, .ireturn, 1)]
theorem dcX10_waits_0 : tbX10_waits_0.all (fun q => decide (decode cX10_waits q.1 = .ok q.2)) = true := by decide +kernel
def tbX10_round_0 : List (Nat × Instr × Nat) := [(0, .aload_n 0, 1), (1, .invokevirtual 145, 3), (4, .ifCond .eq 6, 3), (7, .bipush (-3), 2), (9, .ireturn, 1), (10, .aload_n 0, 1), (11, .getfield 60, 3), (14, .invokevirtual 199, 3), (17, .istore_n 1, 1), (18, .iload_n 1, 1), (19, .bipush (-5), 2), (21, .if_icmp .eq 16, 3), (24, .aload_n 0, 1), (25, .getfield 41, 3), (28, .bipush 6, 2), (30, .invokevirtual 164, 3), (33, .iload_n 1, 1), (34, .if_icmp .ge 7, 3), (37, .iconst 1, 1), (38, .goto 4, 3), (41, .iconst 0, 1), (42, .ireturn, 1)]
theorem dcX10_round_0 : tbX10_round_0.all (fun q => decide (decode cX10_round q.1 = .ok q.2)) = true := by decide +kernel
def tbX10_shiftLoad_0 : List (Nat × Instr × Nat) := [(0, .aload_n 0, 1), (1, .invokevirtual 145, 3), (4, .ifCond .eq 8, 3), (7, .ldc 157, 2), (9, .goto 10, 3), (12, .aload_n 0, 1), (13, .getfield 60, 3), (16, .invokevirtual 202, 3), (19, .ireturn, 1)]
theorem dcX10_shiftLoad_0 : tbX10_shiftLoad_0.all (fun q => decide (decode cX10_shiftLoad q.1 = .ok q.2)) = true := by decide +kernel
def tbX10_wander_0 : List (Nat × Instr × Nat) := [(0, .iload_n 1, 1), (1, .ifCond .lt 9, 3), (4, .iload_n 1, 1), (5, .bipush 10, 2), (7, .if_icmp .le 6, 3), (10, .bipush (-2), 2), (12, .ireturn, 1), (13, .aload_n 0, 1), (14, .getfield 48, 3), (17, .getfield 205, 3), (20, .istore_n 2, 1), (21, .aload_n 0, 1), (22, .getfield 48, 3), (25, .iload_n 1, 1), (26, .putfield 205, 3), (29, .iload_n 2, 1), (30, .ireturn, 1)]
theorem dcX10_wander_0 : tbX10_wander_0.all (fun q => decide (decode cX10_wander q.1 = .ok q.2)) = true := by decide +kernel
def tbX10_sure_0 : List (Nat × Instr × Nat) := [(0, .iload_n 1, 1), (1, .iconst 1, 1), (2, .if_icmp .lt 32, 3), (5, .iload_n 1, 1), (6, .bipush 6, 2), (8, .if_icmp .gt 26, 3), (11, .iload_n 1, 1), (12, .aload_n 0, 1), (13, .getfield 48, 3), (16, .getfield 171, 3), (19, .invokevirtual 179, 3), (22, .if_icmp .gt 12, 3), (25, .iload_n 2, 1), (26, .ifCond .lt 8, 3), (29, .iload_n 2, 1), (30, .iconst 1, 1), (31, .if_icmp .le 7, 3), (34, .ldc2_w 208, 3), (37, .lreturn, 1), (38, .aload_n 0, 1), (39, .getfield 60, 3), (42, .iload_n 1, 1), (43, .iload_n 2, 1), (44, .invokevirtual 210, 3), (47, .lreturn, 1)]
theorem dcX10_sure_0 : tbX10_sure_0.all (fun q => decide (decode cX10_sure q.1 = .ok q.2)) = true := by decide +kernel
def tbX10_days_0 : List (Nat × Instr × Nat) := [(0, .iload_n 2, 1), (1, .ifCond .lt 8, 3), (4, .iload_n 2, 1), (5, .iconst 2, 1), (6, .if_icmp .le 5, 3), (9, .iconst (-1), 1), (10, .ireturn, 1), (11, .iload_n 1, 1), (12, .ifCond .lt 9, 3), (15, .iload_n 1, 1), (16, .bipush 99, 2), (18, .if_icmp .le 6, 3), (21, .bipush (-2), 2), (23, .ireturn, 1), (24, .aload_n 0, 1), (25, .getfield 60, 3), (28, .iload_n 1, 1), (29, .invokevirtual 214, 3), (32, .astore_n 3, 1), (33, .iload_n 2, 1), (34, .lookupswitch 38 #[(0, 26), (1, 31)], 26), (60, .aload_n 3, 1), (61, .invokevirtual 217, 3), (64, .ireturn, 1), (65, .aload_n 3, 1), (66, .bipush 6, 2), (68, .invokevirtual 111, 3), (71, .ireturn, 1), (72, .aload_n 3, 1), (73, .bipush 12, 2), (75, .invokevirtual 111, 3), (78, .ireturn, 1)]
theorem dcX10_days_0 : tbX10_days_0.all (fun q => decide (decode cX10_days q.1 = .ok q.2)) = true := by decide +kernel
def tbX10_beast_0 : List (Nat × Instr × Nat) := [(0, .iload_n 1, 1), (1, .iconst (-1), 1), (2, .if_icmp .lt 9, 3), (5, .iload_n 1, 1), (6, .bipush 99, 2), (8, .if_icmp .le 8, 3), (11, .bipush (-2), 2), (13, .goto 14, 3), (16, .aload_n 0, 1), (17, .getfield 48, 3), (20, .getfield 220, 3), (23, .iload_n 1, 1), (24, .invokestatic 175, 3), (27, .ireturn, 1)]
theorem dcX10_beast_0 : tbX10_beast_0.all (fun q => decide (decode cX10_beast q.1 = .ok q.2)) = true := by decide +kernel
def tbX10_string_0 : List (Nat × Instr × Nat) := [(0, .iload_n 1, 1), (1, .ifCond .lt 8, 3), (4, .iload_n 1, 1), (5, .iconst 2, 1), (6, .if_icmp .le 5, 3), (9, .iconst (-1), 1), (10, .ireturn, 1), (11, .aload_n 0, 1), (12, .invokevirtual 145, 3), (15, .ifCond .eq 6, 3), (18, .bipush (-3), 2), (20, .ireturn, 1), (21, .aload_n 0, 1), (22, .getfield 48, 3), (25, .getfield 220, 3), (28, .invokevirtual 223, 3), (31, .istore_n 2, 1), (32, .iload_n 2, 1), (33, .ifCond .ge 6, 3), (36, .bipush (-5), 2), (38, .ireturn, 1), (39, .iload_n 1, 1), (40, .ifCond .ne 5, 3), (43, .iload_n 2, 1), (44, .ireturn, 1), (45, .aload_n 0, 1), (46, .getfield 41, 3), (49, .aload_n 0, 1), (50, .getfield 48, 3), (53, .getfield 107, 3), (56, .invokevirtual 226, 3), (59, .aload_n 0, 1), (60, .getfield 48, 3), (63, .getfield 220, 3), (66, .iload_n 2, 1), (67, .invokevirtual 229, 3), (70, .isub, 1), (71, .istore_n 3, 1), (72, .iconst 0, 1), (73, .iload_n 3, 1), (74, .invokestatic 230, 3), (77, .bipush 10, 2), (79, .idiv, 1), (80, .istore 4, 2), (82, .iload_n 1, 1), (83, .iconst 1, 1), (84, .if_icmp .ne 6, 3), (87, .iload 4, 2)]
theorem dcX10_string_0 : tbX10_string_0.all (fun q => decide (decode cX10_string q.1 = .ok q.2)) = true := by decide +kernel
def tbX10_string_1 : List (Nat × Instr × Nat) := [(89, .ireturn, 1), (90, .aload_n 0, 1), (91, .getfield 41, 3), (94, .aload_n 0, 1), (95, .getfield 48, 3), (98, .getfield 107, 3), (101, .iconst 1, 1), (102, .invokevirtual 158, 3), (105, .iload 4, 2), (107, .iadd, 1), (108, .ifCond .le 7, 3), (111, .iconst 1, 1), (112, .goto 4, 3), (115, .iconst 0, 1), (116, .ireturn, 1)]
theorem dcX10_string_1 : tbX10_string_1.all (fun q => decide (decode cX10_string q.1 = .ok q.2)) = true := by decide +kernel
def tbX10_film_0 : List (Nat × Instr × Nat) := [(0, .iload_n 1, 1), (1, .iconst (-1), 1), (2, .if_icmp .lt 8, 3), (5, .iload_n 1, 1), (6, .iconst 3, 1), (7, .if_icmp .le 5, 3), (10, .iconst (-1), 1), (11, .ireturn, 1), (12, .aload_n 0, 1), (13, .getfield 48, 3), (16, .getfield 236, 3), (19, .iload_n 1, 1), (20, .invokestatic 175, 3), (23, .ireturn, 1)]
theorem dcX10_film_0 : tbX10_film_0.all (fun q => decide (decode cX10_film q.1 = .ok q.2)) = true := by decide +kernel
def tbX10_off_0 : List (Nat × Instr × Nat) := [(0, .aload_n 0, 1), (1, .getfield 60, 3), (4, .invokevirtual 239, 3), (7, .ireturn, 1)]
theorem dcX10_off_0 : tbX10_off_0.all (fun q => decide (decode cX10_off q.1 = .ok q.2)) = true := by decide +kernel
def tbX10_judge_0 : List (Nat × Instr × Nat) := [(0, .aload_n 0, 1), (1, .iload_n 1, 1), (2, .invokevirtual 242, 3), (5, .astore_n 3, 1), (6, .aload_n 3, 1), (7, .ifnonnull 5, 3), (10, .iconst (-1), 1), (11, .ireturn, 1), (12, .aload_n 3, 1), (13, .invokevirtual 246, 3), (16, .ifCond .eq 13, 3), (19, .aload_n 3, 1), (20, .invokevirtual 249, 3), (23, .ifCond .eq 6, 3), (26, .bipush (-12), 2), (28, .ireturn, 1), (29, .aload_n 0, 1), (30, .getfield 60, 3), (33, .aload_n 3, 1), (34, .iload_n 2, 1), (35, .invokevirtual 252, 3), (38, .ireturn, 1)]
theorem dcX10_judge_0 : tbX10_judge_0.all (fun q => decide (decode cX10_judge q.1 = .ok q.2)) = true := by decide +kernel
def tbX10_image_0 : List (Nat × Instr × Nat) := [(0, .aload_n 0, 1), (1, .getfield 52, 3), (4, .aload_n 0, 1), (5, .getfield 48, 3), (8, .invokevirtual 256, 3), (11, .aload_n 0, 1), (12, .iconst 1, 1), (13, .putfield 260, 3), (16, .aload_n 0, 1), (17, .getfield 48, 3), (20, .getfield 107, 3), (23, .bipush 12, 2), (25, .invokevirtual 111, 3), (28, .ireturn, 1)]
theorem dcX10_image_0 : tbX10_image_0.all (fun q => decide (decode cX10_image q.1 = .ok q.2)) = true := by decide +kernel
def tbX10_undo_0 : List (Nat × Instr × Nat) := [(0, .aload_n 0, 1), (1, .getfield 260, 3), (4, .ifCond .ne 6, 3), (7, .bipush (-3), 2), (9, .ireturn, 1), (10, .aload_n 0, 1), (11, .getfield 48, 3), (14, .aload_n 0, 1), (15, .getfield 52, 3), (18, .invokevirtual 256, 3), (21, .aload_n 0, 1), (22, .getfield 41, 3), (25, .aload_n 0, 1), (26, .invokevirtual 264, 3), (29, .invokevirtual 138, 3), (32, .aload_n 0, 1), (33, .getfield 48, 3), (36, .getfield 107, 3), (39, .bipush 12, 2), (41, .invokevirtual 111, 3), (44, .ireturn, 1)]
theorem dcX10_undo_0 : tbX10_undo_0.all (fun q => decide (decode cX10_undo q.1 = .ok q.2)) = true := by decide +kernel
def tbX10_part_0 : List (Nat × Instr × Nat) := [(0, .aload_n 0, 1), (1, .getfield 69, 3), (4, .iload_n 1, 1), (5, .iload_n 2, 1), (6, .iload_n 3, 1), (7, .invokevirtual 268, 3), (10, .ireturn, 1)]
theorem dcX10_part_0 : tbX10_part_0.all (fun q => decide (decode cX10_part q.1 = .ok q.2)) = true := by decide +kernel
def tbX10_trace_0 : List (Nat × Instr × Nat) := [(0, .aload_n 0, 1), (1, .getfield 69, 3), (4, .iload_n 1, 1), (5, .invokevirtual 271, 3), (8, .ireturn, 1)]
theorem dcX10_trace_0 : tbX10_trace_0.all (fun q => decide (decode cX10_trace q.1 = .ok q.2)) = true := by decide +kernel
def tbX10_taken_0 : List (Nat × Instr × Nat) := [(0, .iload_n 2, 1), (1, .ifCond .lt 9, 3), (4, .iload_n 2, 1), (5, .bipush 6, 2), (7, .if_icmp .le 6, 3), (10, .bipush (-2), 2), (12, .ireturn, 1), (13, .aload_n 0, 1), (14, .getfield 12, 3), (17, .iload_n 1, 1), (18, .invokevirtual 88, 3), (21, .ifCond .ne 6, 3), (24, .bipush (-11), 2), (26, .ireturn, 1), (27, .aload_n 0, 1), (28, .getfield 12, 3), (31, .iload_n 1, 1), (32, .invokevirtual 92, 3), (35, .istore_n 3, 1), (36, .iload_n 3, 1), (37, .iload_n 2, 1), (38, .invokestatic 273, 3), (41, .ifCond .eq 7, 3), (44, .iload_n 3, 1), (45, .goto 5, 3), (48, .bipush (-12), 2), (50, .ireturn, 1)]
theorem dcX10_taken_0 : tbX10_taken_0.all (fun q => decide (decode cX10_taken q.1 = .ok q.2)) = true := by decide +kernel
def tbX10_count_0 : List (Nat × Instr × Nat) := [(0, .iload_n 1, 1), (1, .tableswitch 105 0 6 #[43, 51, 56, 67, 78, 89, 97], 43), (44, .aload_n 0, 1), (45, .getfield 12, 3), (48, .invokevirtual 80, 3), (51, .ireturn, 1), (52, .aload_n 0, 1), (53, .getfield 124, 3), (56, .ireturn, 1), (57, .aload_n 0, 1), (58, .getfield 48, 3), (61, .getfield 171, 3), (64, .invokevirtual 179, 3), (67, .ireturn, 1), (68, .aload_n 0, 1), (69, .getfield 48, 3), (72, .getfield 236, 3), (75, .invokevirtual 179, 3), (78, .ireturn, 1), (79, .aload_n 0, 1), (80, .getfield 48, 3), (83, .getfield 220, 3), (86, .invokevirtual 179, 3), (89, .ireturn, 1), (90, .aload_n 0, 1), (91, .getfield 21, 3), (94, .invokevirtual 123, 3), (97, .ireturn, 1), (98, .aload_n 0, 1), (99, .getfield 69, 3), (102, .invokevirtual 277, 3), (105, .ireturn, 1), (106, .bipush (-2), 2), (108, .ireturn, 1)]
theorem dcX10_count_0 : tbX10_count_0.all (fun q => decide (decode cX10_count q.1 = .ok q.2)) = true := by decide +kernel
def tbX10_tape_0 : List (Nat × Instr × Nat) := [(0, .aload_n 0, 1), (1, .iload_n 1, 1), (2, .invokevirtual 242, 3), (5, .astore 4, 2), (7, .aload 4, 2), (9, .ifnonnull 5, 3), (12, .iconst (-1), 1), (13, .ireturn, 1), (14, .iload_n 2, 1), (15, .iconst (-1), 1), (16, .if_icmp .ne 12, 3), (19, .aload 4, 2), (21, .iconst (-1), 1), (22, .iconst 0, 1), (23, .invokevirtual 280, 3), (26, .iconst 1, 1), (27, .ireturn, 1), (28, .iload_n 2, 1), (29, .ifCond .lt 14, 3), (32, .iload_n 2, 1), (33, .iconst 4, 1), (34, .if_icmp .gt 9, 3), (37, .iload_n 3, 1), (38, .bipush 60, 2), (40, .if_icmp .le 6, 3), (43, .bipush (-2), 2), (45, .ireturn, 1), (46, .iload_n 3, 1), (47, .ifCond .ge 6, 3), (50, .bipush (-14), 2), (52, .ireturn, 1), (53, .aload 4, 2), (55, .iload_n 2, 1), (56, .iload_n 3, 1), (57, .invokevirtual 280, 3), (60, .iconst 1, 1), (61, .ireturn, 1)]
theorem dcX10_tape_0 : tbX10_tape_0.all (fun q => decide (decode cX10_tape q.1 = .ok q.2)) = true := by decide +kernel
def tbX10_item_0 : List (Nat × Instr × Nat) := [(0, .aload_n 0, 1), (1, .iload_n 1, 1), (2, .invokevirtual 242, 3), (5, .astore 5, 2), (7, .aload 5, 2), (9, .ifnonnull 5, 3), (12, .iconst (-1), 1), (13, .ireturn, 1), (14, .aload 5, 2), (16, .invokevirtual 246, 3), (19, .ifCond .ne 6, 3), (22, .bipush (-11), 2), (24, .ireturn, 1), (25, .aload 5, 2), (27, .iload_n 2, 1), (28, .invokevirtual 283, 3), (31, .ifCond .ne 6, 3), (34, .bipush (-13), 2), (36, .ireturn, 1), (37, .aload 5, 2), (39, .iload_n 2, 1), (40, .lload_n 3, 1), (41, .invokevirtual 284, 3), (44, .iconst 1, 1), (45, .ireturn, 1)]
theorem dcX10_item_0 : tbX10_item_0.all (fun q => decide (decode cX10_item q.1 = .ok q.2)) = true := by decide +kernel
def tbX10_read_0 : List (Nat × Instr × Nat) := [(0, .aload_n 0, 1), (1, .iload_n 1, 1), (2, .invokevirtual 242, 3), (5, .astore_n 3, 1), (6, .aload_n 3, 1), (7, .ifnull 19, 3), (10, .aload_n 3, 1), (11, .iload_n 2, 1), (12, .invokevirtual 283, 3), (15, .ifCond .eq 11, 3), (18, .aload_n 3, 1), (19, .iload_n 2, 1), (20, .invokevirtual 287, 3), (23, .goto 6, 3), (26, .ldc2_w 208, 3), (29, .lreturn, 1)]
theorem dcX10_read_0 : tbX10_read_0.all (fun q => decide (decode cX10_read q.1 = .ok q.2)) = true := by decide +kernel
def tbX10_shift_0 : List (Nat × Instr × Nat) := [(0, .aload_n 0, 1), (1, .iload_n 1, 1), (2, .invokevirtual 242, 3), (5, .astore 6, 2), (7, .aload_n 0, 1), (8, .iload_n 3, 1), (9, .invokevirtual 242, 3), (12, .astore 7, 2), (14, .aload 6, 2), (16, .ifnull 8, 3), (19, .aload 7, 2), (21, .ifnonnull 5, 3), (24, .iconst (-1), 1), (25, .ireturn, 1), (26, .aload 6, 2), (28, .invokevirtual 246, 3), (31, .ifCond .eq 11, 3), (34, .aload 7, 2), (36, .invokevirtual 246, 3), (39, .ifCond .ne 6, 3), (42, .bipush (-11), 2), (44, .ireturn, 1), (45, .aload 6, 2), (47, .invokevirtual 249, 3), (50, .aload 7, 2), (52, .invokevirtual 249, 3), (55, .if_icmp .eq 6, 3), (58, .bipush (-12), 2), (60, .ireturn, 1), (61, .aload 6, 2), (63, .iload_n 2, 1), (64, .iload 5, 2), (66, .invokevirtual 290, 3), (69, .ifCond .eq 15, 3), (72, .aload 7, 2), (74, .iload 4, 2), (76, .iload 5, 2), (78, .invokevirtual 290, 3), (81, .ifCond .ne 6, 3), (84, .bipush (-13), 2), (86, .ireturn, 1), (87, .aload 7, 2), (89, .iload 4, 2), (91, .aload 6, 2), (93, .iload_n 2, 1), (94, .iload 5, 2), (96, .invokevirtual 293, 3), (99, .iload 5, 2)]
theorem dcX10_shift_0 : tbX10_shift_0.all (fun q => decide (decode cX10_shift q.1 = .ok q.2)) = true := by decide +kernel
def tbX10_shift_1 : List (Nat × Instr × Nat) := [(101, .ireturn, 1)]
theorem dcX10_shift_1 : tbX10_shift_1.all (fun q => decide (decode cX10_shift q.1 = .ok q.2)) = true := by decide +kernel
def tbX10_isAct_0 : List (Nat × Instr × Nat) := [(0, .iload_n 0, 1), (1, .ifCond .lt 13, 3), (4, .iload_n 0, 1), (5, .bipush 7, 2), (7, .if_icmp .gt 7, 3), (10, .iconst 1, 1), (11, .goto 4, 3), (14, .iconst 0, 1), (15, .ireturn, 1)]
theorem dcX10_isAct_0 : tbX10_isAct_0.all (fun q => decide (decode cX10_isAct q.1 = .ok q.2)) = true := by decide +kernel
def tbX10_isOver_0 : List (Nat × Instr × Nat) := [(0, .aload_n 0, 1), (1, .getfield 41, 3), (4, .aload_n 0, 1), (5, .getfield 48, 3), (8, .getfield 107, 3), (11, .invokevirtual 297, 3), (14, .ireturn, 1)]
theorem dcX10_isOver_0 : tbX10_isOver_0.all (fun q => decide (decode cX10_isOver q.1 = .ok q.2)) = true := by decide +kernel
def tbX10_heldLaw_0 : List (Nat × Instr × Nat) := [(0, .aload_n 0, 1), (1, .getfield 48, 3), (4, .getfield 135, 3), (7, .istore_n 1, 1), (8, .iload_n 1, 1), (9, .ifCond .lt 21, 3), (12, .iload_n 1, 1), (13, .aload_n 0, 1), (14, .getfield 27, 3), (17, .arraylength, 1), (18, .if_icmp .ge 12, 3), (21, .aload_n 0, 1), (22, .getfield 27, 3), (25, .iload_n 1, 1), (26, .aaload, 1), (27, .goto 7, 3), (30, .aload_n 0, 1), (31, .getfield 32, 3), (34, .astore_n 2, 1), (35, .aload_n 2, 1), (36, .ifnonnull 10, 3), (39, .aload_n 0, 1), (40, .getfield 32, 3), (43, .goto 4, 3), (46, .aload_n 2, 1), (47, .areturn, 1)]
theorem dcX10_heldLaw_0 : tbX10_heldLaw_0.all (fun q => decide (decode cX10_heldLaw q.1 = .ok q.2)) = true := by decide +kernel
def tbX10_tapeOf_0 : List (Nat × Instr × Nat) := [(0, .iload_n 1, 1), (1, .ifCond .lt 21, 3), (4, .iload_n 1, 1), (5, .aload_n 0, 1), (6, .getfield 75, 3), (9, .arraylength, 1), (10, .if_icmp .ge 12, 3), (13, .aload_n 0, 1), (14, .getfield 75, 3), (17, .iload_n 1, 1), (18, .aaload, 1), (19, .goto 4, 3), (22, .aconst_null, 1), (23, .areturn, 1)]
theorem dcX10_tapeOf_0 : tbX10_tapeOf_0.all (fun q => decide (decode cX10_tapeOf q.1 = .ok q.2)) = true := by decide +kernel
def tbX10_addOrClear_0 : List (Nat × Instr × Nat) := [(0, .iload_n 1, 1), (1, .iconst (-1), 1), (2, .if_icmp .ne 9, 3), (5, .aload_n 0, 1), (6, .invokevirtual 300, 3), (9, .iconst 0, 1), (10, .ireturn, 1), (11, .aload_n 0, 1), (12, .iload_n 1, 1), (13, .invokevirtual 301, 3), (16, .ifCond .eq 10, 3), (19, .aload_n 0, 1), (20, .invokevirtual 179, 3), (23, .goto 5, 3), (26, .bipush (-4), 2), (28, .ireturn, 1)]
theorem dcX10_addOrClear_0 : tbX10_addOrClear_0.all (fun q => decide (decode cX10_addOrClear q.1 = .ok q.2)) = true := by decide +kernel
def tbX11_init_0 : List (Nat × Instr × Nat) := [(0, .aload_n 0, 1), (1, .invokespecial 3, 3), (4, .aload_n 0, 1), (5, .bipush 10, 2), (7, .newarray .int, 2), (9, .putfield 9, 3), (12, .aload_n 0, 1), (13, .bipush 10, 2), (15, .newarray .int, 2), (17, .putfield 15, 3), (20, .aload_n 0, 1), (21, .bipush 10, 2), (23, .newarray .int, 2), (25, .putfield 18, 3), (28, .aload_n 0, 1), (29, .bipush 15, 2), (31, .newarray .int, 2), (33, .dup, 1), (34, .iconst 0, 1), (35, .bipush 10, 2), (37, .iastore, 1), (38, .dup, 1), (39, .iconst 1, 1), (40, .bipush 10, 2), (42, .iastore, 1), (43, .dup, 1), (44, .iconst 2, 1), (45, .bipush 10, 2), (47, .iastore, 1), (48, .dup, 1), (49, .iconst 3, 1), (50, .bipush 10, 2), (52, .iastore, 1), (53, .dup, 1), (54, .iconst 4, 1), (55, .bipush 10, 2), (57, .iastore, 1), (58, .dup, 1), (59, .iconst 5, 1), (60, .bipush 10, 2), (62, .iastore, 1), (63, .dup, 1), (64, .bipush 6, 2), (66, .iconst 0, 1), (67, .iastore, 1), (68, .dup, 1), (69, .bipush 7, 2), (71, .bipush 20, 2)]
theorem dcX11_init_0 : tbX11_init_0.all (fun q => decide (decode cX11_init q.1 = .ok q.2)) = true := by decide +kernel
def tbX11_init_1 : List (Nat × Instr × Nat) := [(73, .iastore, 1), (74, .dup, 1), (75, .bipush 8, 2), (77, .iconst 0, 1), (78, .iastore, 1), (79, .dup, 1), (80, .bipush 9, 2), (82, .iconst 0, 1), (83, .iastore, 1), (84, .dup, 1), (85, .bipush 10, 2), (87, .iconst 0, 1), (88, .iastore, 1), (89, .dup, 1), (90, .bipush 11, 2), (92, .iconst 0, 1), (93, .iastore, 1), (94, .dup, 1), (95, .bipush 12, 2), (97, .iconst 0, 1), (98, .iastore, 1), (99, .dup, 1), (100, .bipush 13, 2), (102, .iconst 0, 1), (103, .iastore, 1), (104, .dup, 1), (105, .bipush 14, 2), (107, .iconst 0, 1), (108, .iastore, 1), (109, .putfield 21, 3), (112, .aload_n 0, 1), (113, .bipush 100, 2), (115, .newarray .byte, 2), (117, .putfield 24, 3), (120, .aload_n 0, 1), (121, .iconst (-1), 1), (122, .putfield 28, 3), (125, .aload_n 0, 1), (126, .bipush 7, 2), (128, .newarray .int, 2), (130, .putfield 32, 3), (133, .aload_n 0, 1), (134, .bipush 70, 2), (136, .newarray .int, 2), (138, .putfield 35, 3), (141, .aload_n 0, 1), (142, .bipush 70, 2), (144, .newarray .int, 2)]
theorem dcX11_init_1 : tbX11_init_1.all (fun q => decide (decode cX11_init q.1 = .ok q.2)) = true := by decide +kernel
def tbX11_init_2 : List (Nat × Instr × Nat) := [(146, .putfield 38, 3), (149, .aload_n 0, 1), (150, .bipush 70, 2), (152, .newarray .int, 2), (154, .putfield 41, 3), (157, .aload_n 0, 1), (158, .bipush 70, 2), (160, .newarray .int, 2), (162, .putfield 44, 3), (165, .aload_n 0, 1), (166, .sipush 700, 3), (169, .newarray .int, 2), (171, .putfield 47, 3), (174, .aload_n 0, 1), (175, .sipush 700, 3), (178, .newarray .int, 2), (180, .putfield 50, 3), (183, .aload_n 0, 1), (184, .sipush 700, 3), (187, .newarray .int, 2), (189, .putfield 53, 3), (192, .aload_n 0, 1), (193, .sipush 700, 3), (196, .newarray .int, 2), (198, .putfield 56, 3), (201, .aload_n 0, 1), (202, .bipush 31, 2), (204, .newarray .int, 2), (206, .dup, 1), (207, .iconst 0, 1), (208, .bipush 103, 2), (210, .iastore, 1), (211, .dup, 1), (212, .iconst 1, 1), (213, .bipush 111, 2), (215, .iastore, 1), (216, .dup, 1), (217, .iconst 2, 1), (218, .bipush 32, 2), (220, .iastore, 1), (221, .dup, 1), (222, .iconst 3, 1), (223, .bipush 110, 2), (225, .iastore, 1), (226, .dup, 1), (227, .iconst 4, 1), (228, .bipush 111, 2), (230, .iastore, 1)]
theorem dcX11_init_2 : tbX11_init_2.all (fun q => decide (decode cX11_init q.1 = .ok q.2)) = true := by decide +kernel
def tbX11_init_3 : List (Nat × Instr × Nat) := [(231, .dup, 1), (232, .iconst 5, 1), (233, .bipush 116, 2), (235, .iastore, 1), (236, .dup, 1), (237, .bipush 6, 2), (239, .bipush 32, 2), (241, .iastore, 1), (242, .dup, 1), (243, .bipush 7, 2), (245, .bipush 104, 2), (247, .iastore, 1), (248, .dup, 1), (249, .bipush 8, 2), (251, .bipush 117, 2), (253, .iastore, 1), (254, .dup, 1), (255, .bipush 9, 2), (257, .bipush 114, 2), (259, .iastore, 1), (260, .dup, 1), (261, .bipush 10, 2), (263, .bipush 116, 2), (265, .iastore, 1), (266, .dup, 1), (267, .bipush 11, 2), (269, .bipush 32, 2), (271, .iastore, 1), (272, .dup, 1), (273, .bipush 12, 2), (275, .bipush 108, 2), (277, .iastore, 1), (278, .dup, 1), (279, .bipush 13, 2), (281, .bipush 101, 2), (283, .iastore, 1), (284, .dup, 1), (285, .bipush 14, 2), (287, .bipush 97, 2), (289, .iastore, 1), (290, .dup, 1), (291, .bipush 15, 2), (293, .bipush 100, 2), (295, .iastore, 1), (296, .dup, 1), (297, .bipush 16, 2), (299, .bipush 32, 2), (301, .iastore, 1)]
theorem dcX11_init_3 : tbX11_init_3.all (fun q => decide (decode cX11_init q.1 = .ok q.2)) = true := by decide +kernel
def tbX11_init_4 : List (Nat × Instr × Nat) := [(302, .dup, 1), (303, .bipush 17, 2), (305, .bipush 104, 2), (307, .iastore, 1), (308, .dup, 1), (309, .bipush 18, 2), (311, .bipush 105, 2), (313, .iastore, 1), (314, .dup, 1), (315, .bipush 19, 2), (317, .bipush 116, 2), (319, .iastore, 1), (320, .dup, 1), (321, .bipush 20, 2), (323, .bipush 32, 2), (325, .iastore, 1), (326, .dup, 1), (327, .bipush 21, 2), (329, .bipush 108, 2), (331, .iastore, 1), (332, .dup, 1), (333, .bipush 22, 2), (335, .bipush 111, 2), (337, .iastore, 1), (338, .dup, 1), (339, .bipush 23, 2), (341, .bipush 111, 2), (343, .iastore, 1), (344, .dup, 1), (345, .bipush 24, 2), (347, .bipush 107, 2), (349, .iastore, 1), (350, .dup, 1), (351, .bipush 25, 2), (353, .bipush 32, 2), (355, .iastore, 1), (356, .dup, 1), (357, .bipush 26, 2), (359, .bipush 102, 2), (361, .iastore, 1), (362, .dup, 1), (363, .bipush 27, 2), (365, .bipush 111, 2), (367, .iastore, 1), (368, .dup, 1), (369, .bipush 28, 2), (371, .bipush 114, 2), (373, .iastore, 1)]
theorem dcX11_init_4 : tbX11_init_4.all (fun q => decide (decode cX11_init q.1 = .ok q.2)) = true := by decide +kernel
def tbX11_init_5 : List (Nat × Instr × Nat) := [(374, .dup, 1), (375, .bipush 29, 2), (377, .bipush 100, 2), (379, .iastore, 1), (380, .dup, 1), (381, .bipush 30, 2), (383, .bipush 32, 2), (385, .iastore, 1), (386, .putfield 59, 3), (389, .aload_n 0, 1), (390, .bipush 100, 2), (392, .newarray .boolean, 2), (394, .putfield 62, 3), (397, .aload_n 0, 1), (398, .bipush 12, 2), (400, .newarray .int, 2), (402, .putfield 66, 3), (405, .aload_n 0, 1), (406, .bipush 15, 2), (408, .newarray .int, 2), (410, .putfield 69, 3), (413, .aload_n 0, 1), (414, .iconst 4, 1), (415, .newarray .int, 2), (417, .putfield 72, 3), (420, .aload_n 0, 1), (421, .bipush 12, 2), (423, .newarray .int, 2), (425, .putfield 75, 3), (428, .aload_n 0, 1), (429, .bipush 6, 2), (431, .newarray .int, 2), (433, .dup, 1), (434, .iconst 0, 1), (435, .iconst (-1), 1), (436, .iastore, 1), (437, .dup, 1), (438, .iconst 1, 1), (439, .iconst (-1), 1), (440, .iastore, 1), (441, .dup, 1), (442, .iconst 2, 1), (443, .iconst (-1), 1), (444, .iastore, 1), (445, .dup, 1), (446, .iconst 3, 1), (447, .iconst (-1), 1), (448, .iastore, 1)]
theorem dcX11_init_5 : tbX11_init_5.all (fun q => decide (decode cX11_init q.1 = .ok q.2)) = true := by decide +kernel
def tbX11_init_6 : List (Nat × Instr × Nat) := [(449, .dup, 1), (450, .iconst 4, 1), (451, .iconst (-1), 1), (452, .iastore, 1), (453, .dup, 1), (454, .iconst 5, 1), (455, .iconst (-1), 1), (456, .iastore, 1), (457, .putfield 78, 3), (460, .aload_n 0, 1), (461, .bipush 6, 2), (463, .newarray .int, 2), (465, .putfield 81, 3), (468, .aload_n 0, 1), (469, .sipush 360, 3), (472, .newarray .long, 2), (474, .putfield 84, 3), (477, .aload_n 0, 1), (478, .bipush 60, 2), (480, .newarray .long, 2), (482, .putfield 88, 3), (485, .aload_n 0, 1), (486, .bipush 15, 2), (488, .newarray .int, 2), (490, .putfield 91, 3), (493, .aload_n 0, 1), (494, .bipush 12, 2), (496, .newarray .int, 2), (498, .putfield 94, 3), (501, .aload_n 0, 1), (502, .bipush 12, 2), (504, .newarray .int, 2), (506, .putfield 97, 3), (509, .aload_n 0, 1), (510, .iconst 4, 1), (511, .newarray .int, 2), (513, .putfield 100, 3), (516, .aload_n 0, 1), (517, .bipush 20, 2), (519, .newarray .int, 2), (521, .putfield 103, 3), (524, .return_, 1)]
theorem dcX11_init_6 : tbX11_init_6.all (fun q => decide (decode cX11_init q.1 = .ok q.2)) = true := by decide +kernel
def tbX11_in_0 : List (Nat × Instr × Nat) := [(0, .iload_n 0, 1), (1, .iload_n 1, 1), (2, .if_icmp .lt 12, 3), (5, .iload_n 0, 1), (6, .iload_n 2, 1), (7, .if_icmp .gt 7, 3), (10, .iconst 1, 1), (11, .goto 4, 3), (14, .iconst 0, 1), (15, .ireturn, 1)]
theorem dcX11_in_0 : tbX11_in_0.all (fun q => decide (decode cX11_in q.1 = .ok q.2)) = true := by decide +kernel
def tbX11_sizeOf_0 : List (Nat × Instr × Nat) := [(0, .iload_n 0, 1), (1, .ifCond .ge 8, 3), (4, .iload_n 0, 1), (5, .ineg, 1), (6, .goto 4, 3), (9, .iload_n 0, 1), (10, .ireturn, 1)]
theorem dcX11_sizeOf_0 : tbX11_sizeOf_0.all (fun q => decide (decode cX11_sizeOf q.1 = .ok q.2)) = true := by decide +kernel
def tbX11_held_0 : List (Nat × Instr × Nat) := [(0, .iload_n 0, 1), (1, .ifCond .ge 7, 3), (4, .iconst 0, 1), (5, .goto 13, 3), (8, .iload_n 0, 1), (9, .iload_n 1, 1), (10, .if_icmp .le 7, 3), (13, .iload_n 1, 1), (14, .goto 4, 3), (17, .iload_n 0, 1), (18, .ireturn, 1)]
theorem dcX11_held_0 : tbX11_held_0.all (fun q => decide (decode cX11_held q.1 = .ok q.2)) = true := by decide +kernel
def tbX11_isPlace_0 : List (Nat × Instr × Nat) := [(0, .iload_n 1, 1), (1, .iconst 0, 1), (2, .aload_n 0, 1), (3, .getfield 109, 3), (6, .iconst 1, 1), (7, .isub, 1), (8, .invokestatic 112, 3), (11, .ireturn, 1)]
theorem dcX11_isPlace_0 : tbX11_isPlace_0.all (fun q => decide (decode cX11_isPlace q.1 = .ok q.2)) = true := by decide +kernel
def tbX11_place_0 : List (Nat × Instr × Nat) := [(0, .iload_n 1, 1), (1, .iconst 0, 1), (2, .bipush 6, 2), (4, .invokestatic 112, 3), (7, .ifCond .eq 12, 3), (10, .iload_n 3, 1), (11, .iconst 0, 1), (12, .iconst 5, 1), (13, .invokestatic 112, 3), (16, .ifCond .ne 5, 3), (19, .iconst (-1), 1), (20, .ireturn, 1), (21, .iload_n 2, 1), (22, .iconst 0, 1), (23, .bipush 9, 2), (25, .invokestatic 112, 3), (28, .ifCond .ne 6, 3), (31, .bipush (-2), 2), (33, .ireturn, 1), (34, .aload_n 0, 1), (35, .getfield 109, 3), (38, .bipush 10, 2), (40, .if_icmp .ne 6, 3), (43, .bipush (-4), 2), (45, .ireturn, 1), (46, .aload_n 0, 1), (47, .getfield 9, 3), (50, .aload_n 0, 1), (51, .getfield 109, 3), (54, .iload_n 1, 1), (55, .iastore, 1), (56, .aload_n 0, 1), (57, .getfield 15, 3), (60, .aload_n 0, 1), (61, .getfield 109, 3), (64, .iload_n 2, 1), (65, .iastore, 1), (66, .aload_n 0, 1), (67, .getfield 18, 3), (70, .aload_n 0, 1), (71, .getfield 109, 3), (74, .iload_n 3, 1), (75, .iastore, 1), (76, .aload_n 0, 1), (77, .dup, 1), (78, .getfield 109, 3), (81, .iconst 1, 1), (82, .iadd, 1)]
theorem dcX11_place_0 : tbX11_place_0.all (fun q => decide (decode cX11_place q.1 = .ok q.2)) = true := by decide +kernel
def tbX11_place_1 : List (Nat × Instr × Nat) := [(83, .putfield 109, 3), (86, .aload_n 0, 1), (87, .getfield 109, 3), (90, .iconst 1, 1), (91, .isub, 1), (92, .ireturn, 1)]
theorem dcX11_place_1 : tbX11_place_1.all (fun q => decide (decode cX11_place q.1 = .ok q.2)) = true := by decide +kernel
def tbX11_of_0 : List (Nat × Instr × Nat) := [(0, .aload_n 0, 1), (1, .iload_n 1, 1), (2, .invokevirtual 116, 3), (5, .ifCond .ne 5, 3), (8, .iconst (-1), 1), (9, .ireturn, 1), (10, .iload_n 2, 1), (11, .tableswitch 46 0 2 #[25, 32, 39], 25), (36, .aload_n 0, 1), (37, .getfield 9, 3), (40, .iload_n 1, 1), (41, .iaload, 1), (42, .ireturn, 1), (43, .aload_n 0, 1), (44, .getfield 15, 3), (47, .iload_n 1, 1), (48, .iaload, 1), (49, .ireturn, 1), (50, .aload_n 0, 1), (51, .getfield 18, 3), (54, .iload_n 1, 1), (55, .iaload, 1), (56, .ireturn, 1), (57, .iconst (-1), 1), (58, .ireturn, 1)]
theorem dcX11_of_0 : tbX11_of_0.all (fun q => decide (decode cX11_of q.1 = .ok q.2)) = true := by decide +kernel
def tbX11_isOver_0 : List (Nat × Instr × Nat) := [(0, .aload_n 0, 1), (1, .getfield 21, 3), (4, .bipush 12, 2), (6, .iaload, 1), (7, .aload_n 0, 1), (8, .getfield 109, 3), (11, .if_icmp .lt 7, 3), (14, .iconst 1, 1), (15, .goto 4, 3), (18, .iconst 0, 1), (19, .ireturn, 1)]
theorem dcX11_isOver_0 : tbX11_isOver_0.all (fun q => decide (decode cX11_isOver q.1 = .ok q.2)) = true := by decide +kernel
def tbX11_mostOf_0 : List (Nat × Instr × Nat) := [(0, .iload_n 1, 1), (1, .bipush 9, 2), (3, .if_icmp .ne 8, 3), (6, .bipush 9, 2), (8, .goto 28, 3), (11, .iload_n 1, 1), (12, .bipush 12, 2), (14, .if_icmp .ne 10, 3), (17, .aload_n 0, 1), (18, .getfield 109, 3), (21, .goto 15, 3), (24, .iload_n 1, 1), (25, .bipush 13, 2), (27, .if_icmp .ne 7, 3), (30, .iconst 1, 1), (31, .goto 5, 3), (34, .bipush 99, 2), (36, .ireturn, 1)]
theorem dcX11_mostOf_0 : tbX11_mostOf_0.all (fun q => decide (decode cX11_mostOf q.1 = .ok q.2)) = true := by decide +kernel
def tbX11_set_0 : List (Nat × Instr × Nat) := [(0, .iload_n 1, 1), (1, .iconst 0, 1), (2, .bipush 13, 2), (4, .invokestatic 112, 3), (7, .ifCond .ne 5, 3), (10, .iconst (-1), 1), (11, .ireturn, 1), (12, .iload_n 2, 1), (13, .iconst 0, 1), (14, .aload_n 0, 1), (15, .iload_n 1, 1), (16, .invokevirtual 120, 3), (19, .invokestatic 112, 3), (22, .ifCond .ne 6, 3), (25, .bipush (-2), 2), (27, .ireturn, 1), (28, .aload_n 0, 1), (29, .getfield 21, 3), (32, .iload_n 1, 1), (33, .iaload, 1), (34, .istore_n 3, 1), (35, .aload_n 0, 1), (36, .getfield 21, 3), (39, .iload_n 1, 1), (40, .iload_n 2, 1), (41, .iastore, 1), (42, .iload_n 3, 1), (43, .ireturn, 1)]
theorem dcX11_set_0 : tbX11_set_0.all (fun q => decide (decode cX11_set q.1 = .ok q.2)) = true := by decide +kernel
def tbX11_learnt_0 : List (Nat × Instr × Nat) := [(0, .aload_n 0, 1), (1, .getfield 21, 3), (4, .bipush 6, 2), (6, .iaload, 1), (7, .istore_n 1, 1), (8, .iconst 0, 1), (9, .istore_n 2, 1), (10, .iload_n 2, 1), (11, .bipush 6, 2), (13, .if_icmp .ge 18, 3), (16, .iload_n 1, 1), (17, .aload_n 0, 1), (18, .getfield 21, 3), (21, .iload_n 2, 1), (22, .iaload, 1), (23, .iadd, 1), (24, .istore_n 1, 1), (25, .iinc 2 1, 3), (28, .goto (-18), 3), (31, .iload_n 1, 1), (32, .ireturn, 1)]
theorem dcX11_learnt_0 : tbX11_learnt_0.all (fun q => decide (decode cX11_learnt q.1 = .ok q.2)) = true := by decide +kernel
def tbX11_nowOf_0 : List (Nat × Instr × Nat) := [(0, .iload_n 1, 1), (1, .bipush 15, 2), (3, .if_icmp .ne 10, 3), (6, .aload_n 0, 1), (7, .invokevirtual 124, 3), (10, .goto 9, 3), (13, .aload_n 0, 1), (14, .getfield 21, 3), (17, .iload_n 1, 1), (18, .iaload, 1), (19, .ireturn, 1)]
theorem dcX11_nowOf_0 : tbX11_nowOf_0.all (fun q => decide (decode cX11_nowOf q.1 = .ok q.2)) = true := by decide +kernel
def tbX11_now_0 : List (Nat × Instr × Nat) := [(0, .iload_n 1, 1), (1, .iconst 0, 1), (2, .bipush 15, 2), (4, .invokestatic 112, 3), (7, .ifCond .eq 11, 3), (10, .aload_n 0, 1), (11, .iload_n 1, 1), (12, .invokevirtual 128, 3), (15, .goto 4, 3), (18, .iconst (-1), 1), (19, .ireturn, 1)]
theorem dcX11_now_0 : tbX11_now_0.all (fun q => decide (decode cX11_now q.1 = .ok q.2)) = true := by decide +kernel
def tbX11_feed_0 : List (Nat × Instr × Nat) := [(0, .iload_n 1, 1), (1, .iconst 0, 1), (2, .bipush 127, 2), (4, .invokestatic 112, 3), (7, .ifCond .ne 6, 3), (10, .bipush (-2), 2), (12, .ireturn, 1), (13, .aload_n 0, 1), (14, .getfield 131, 3), (17, .bipush 100, 2), (19, .if_icmp .ne 6, 3), (22, .bipush (-4), 2), (24, .ireturn, 1), (25, .aload_n 0, 1), (26, .getfield 24, 3), (29, .aload_n 0, 1), (30, .getfield 131, 3), (33, .iload_n 1, 1), (34, .i2b, 1), (35, .bastore, 1), (36, .aload_n 0, 1), (37, .dup, 1), (38, .getfield 131, 3), (41, .iconst 1, 1), (42, .iadd, 1), (43, .putfield 131, 3), (46, .aload_n 0, 1), (47, .getfield 131, 3), (50, .ireturn, 1)]
theorem dcX11_feed_0 : tbX11_feed_0.all (fun q => decide (decode cX11_feed q.1 = .ok q.2)) = true := by decide +kernel
def tbX11_isHere_0 : List (Nat × Instr × Nat) := [(0, .aload_n 0, 1), (1, .getfield 134, 3), (4, .ifCond .ge 31, 3), (7, .aload_n 0, 1), (8, .getfield 137, 3), (11, .aload_n 0, 1), (12, .getfield 131, 3), (15, .if_icmp .ge 20, 3), (18, .aload_n 0, 1), (19, .getfield 24, 3), (22, .aload_n 0, 1), (23, .getfield 137, 3), (26, .baload, 1), (27, .iload_n 1, 1), (28, .if_icmp .ne 7, 3), (31, .iconst 1, 1), (32, .goto 4, 3), (35, .iconst 0, 1), (36, .ireturn, 1)]
theorem dcX11_isHere_0 : tbX11_isHere_0.all (fun q => decide (decode cX11_isHere q.1 = .ok q.2)) = true := by decide +kernel
def tbX11_faulty_0 : List (Nat × Instr × Nat) := [(0, .aload_n 0, 1), (1, .getfield 134, 3), (4, .ifCond .ge 11, 3), (7, .aload_n 0, 1), (8, .aload_n 0, 1), (9, .getfield 137, 3), (12, .putfield 134, 3), (15, .return_, 1)]
theorem dcX11_faulty_0 : tbX11_faulty_0.all (fun q => decide (decode cX11_faulty q.1 = .ok q.2)) = true := by decide +kernel
def tbX11_takes_0 : List (Nat × Instr × Nat) := [(0, .aload_n 0, 1), (1, .iload_n 1, 1), (2, .invokevirtual 140, 3), (5, .ifCond .eq 16, 3), (8, .aload_n 0, 1), (9, .dup, 1), (10, .getfield 137, 3), (13, .iconst 1, 1), (14, .iadd, 1), (15, .putfield 137, 3), (18, .goto 7, 3), (21, .aload_n 0, 1), (22, .invokevirtual 143, 3), (25, .return_, 1)]
theorem dcX11_takes_0 : tbX11_takes_0.all (fun q => decide (decode cX11_takes q.1 = .ok q.2)) = true := by decide +kernel
def tbX11_isDigit_0 : List (Nat × Instr × Nat) := [(0, .aload_n 0, 1), (1, .getfield 134, 3), (4, .ifCond .ge 37, 3), (7, .aload_n 0, 1), (8, .getfield 137, 3), (11, .aload_n 0, 1), (12, .getfield 131, 3), (15, .if_icmp .ge 26, 3), (18, .aload_n 0, 1), (19, .getfield 24, 3), (22, .aload_n 0, 1), (23, .getfield 137, 3), (26, .baload, 1), (27, .bipush 48, 2), (29, .bipush 57, 2), (31, .invokestatic 112, 3), (34, .ifCond .eq 7, 3), (37, .iconst 1, 1), (38, .goto 4, 3), (41, .iconst 0, 1), (42, .ireturn, 1)]
theorem dcX11_isDigit_0 : tbX11_isDigit_0.all (fun q => decide (decode cX11_isDigit q.1 = .ok q.2)) = true := by decide +kernel
def tbX11_readNumber_0 : List (Nat × Instr × Nat) := [(0, .aload_n 0, 1), (1, .invokevirtual 146, 3), (4, .ifCond .ne 9, 3), (7, .aload_n 0, 1), (8, .invokevirtual 143, 3), (11, .iconst 0, 1), (12, .ireturn, 1), (13, .aload_n 0, 1), (14, .getfield 24, 3), (17, .aload_n 0, 1), (18, .getfield 137, 3), (21, .baload, 1), (22, .bipush 48, 2), (24, .isub, 1), (25, .istore_n 1, 1), (26, .aload_n 0, 1), (27, .dup, 1), (28, .getfield 137, 3), (31, .iconst 1, 1), (32, .iadd, 1), (33, .putfield 137, 3), (36, .aload_n 0, 1), (37, .invokevirtual 146, 3), (40, .ifCond .ne 5, 3), (43, .iload_n 1, 1), (44, .ireturn, 1), (45, .bipush 10, 2), (47, .iload_n 1, 1), (48, .imul, 1), (49, .aload_n 0, 1), (50, .getfield 24, 3), (53, .aload_n 0, 1), (54, .getfield 137, 3), (57, .baload, 1), (58, .iadd, 1), (59, .bipush 48, 2), (61, .isub, 1), (62, .istore_n 1, 1), (63, .aload_n 0, 1), (64, .dup, 1), (65, .getfield 137, 3), (68, .iconst 1, 1), (69, .iadd, 1), (70, .putfield 137, 3), (73, .iload_n 1, 1), (74, .ireturn, 1)]
theorem dcX11_readNumber_0 : tbX11_readNumber_0.all (fun q => decide (decode cX11_readNumber q.1 = .ok q.2)) = true := by decide +kernel
def tbX11_lay_0 : List (Nat × Instr × Nat) := [(0, .aload_n 0, 1), (1, .getfield 47, 3), (4, .bipush 100, 2), (6, .aload_n 0, 1), (7, .getfield 150, 3), (10, .imul, 1), (11, .aload_n 0, 1), (12, .getfield 153, 3), (15, .iadd, 1), (16, .iload_n 1, 1), (17, .iastore, 1), (18, .aload_n 0, 1), (19, .dup, 1), (20, .getfield 153, 3), (23, .iconst 1, 1), (24, .iadd, 1), (25, .putfield 153, 3), (28, .return_, 1)]
theorem dcX11_lay_0 : tbX11_lay_0.all (fun q => decide (decode cX11_lay q.1 = .ok q.2)) = true := by decide +kernel
def tbX11_either_0 : List (Nat × Instr × Nat) := [(0, .aload_n 0, 1), (1, .iload_n 1, 1), (2, .invokevirtual 156, 3), (5, .aload_n 0, 1), (6, .bipush 124, 2), (8, .invokevirtual 140, 3), (11, .ifCond .ne 4, 3), (14, .return_, 1), (15, .aload_n 0, 1), (16, .dup, 1), (17, .getfield 137, 3), (20, .iconst 1, 1), (21, .iadd, 1), (22, .putfield 137, 3), (25, .aload_n 0, 1), (26, .iload_n 1, 1), (27, .invokevirtual 160, 3), (30, .aload_n 0, 1), (31, .iconst 3, 1), (32, .invokevirtual 163, 3), (35, .return_, 1)]
theorem dcX11_either_0 : tbX11_either_0.all (fun q => decide (decode cX11_either q.1 = .ok q.2)) = true := by decide +kernel
def tbX11_both_0 : List (Nat × Instr × Nat) := [(0, .aload_n 0, 1), (1, .iload_n 1, 1), (2, .invokevirtual 166, 3), (5, .aload_n 0, 1), (6, .bipush 38, 2), (8, .invokevirtual 140, 3), (11, .ifCond .ne 4, 3), (14, .return_, 1), (15, .aload_n 0, 1), (16, .dup, 1), (17, .getfield 137, 3), (20, .iconst 1, 1), (21, .iadd, 1), (22, .putfield 137, 3), (25, .aload_n 0, 1), (26, .iload_n 1, 1), (27, .invokevirtual 156, 3), (30, .aload_n 0, 1), (31, .iconst 2, 1), (32, .invokevirtual 163, 3), (35, .return_, 1)]
theorem dcX11_both_0 : tbX11_both_0.all (fun q => decide (decode cX11_both q.1 = .ok q.2)) = true := by decide +kernel
def tbX11_isLetter_0 : List (Nat × Instr × Nat) := [(0, .aload_n 0, 1), (1, .getfield 134, 3), (4, .ifCond .ge 14, 3), (7, .aload_n 0, 1), (8, .getfield 137, 3), (11, .aload_n 0, 1), (12, .getfield 131, 3), (15, .if_icmp .lt 5, 3), (18, .iconst 0, 1), (19, .ireturn, 1), (20, .aload_n 0, 1), (21, .getfield 24, 3), (24, .aload_n 0, 1), (25, .getfield 137, 3), (28, .baload, 1), (29, .istore_n 1, 1), (30, .iload_n 1, 1), (31, .bipush 102, 2), (33, .if_icmp .eq 51, 3), (36, .iload_n 1, 1), (37, .bipush 104, 2), (39, .if_icmp .eq 45, 3), (42, .iload_n 1, 1), (43, .bipush 112, 2), (45, .if_icmp .eq 39, 3), (48, .iload_n 1, 1), (49, .bipush 119, 2), (51, .if_icmp .eq 33, 3), (54, .iload_n 1, 1), (55, .bipush 108, 2), (57, .if_icmp .eq 27, 3), (60, .iload_n 1, 1), (61, .bipush 115, 2), (63, .if_icmp .eq 21, 3), (66, .iload_n 1, 1), (67, .bipush 97, 2), (69, .if_icmp .eq 15, 3), (72, .iload_n 1, 1), (73, .bipush 107, 2), (75, .if_icmp .eq 9, 3), (78, .iload_n 1, 1), (79, .bipush 116, 2), (81, .if_icmp .ne 7, 3), (84, .iconst 1, 1), (85, .goto 4, 3), (88, .iconst 0, 1), (89, .ireturn, 1)]
theorem dcX11_isLetter_0 : tbX11_isLetter_0.all (fun q => decide (decode cX11_isLetter q.1 = .ok q.2)) = true := by decide +kernel
def tbX11_one_0 : List (Nat × Instr × Nat) := [(0, .aload_n 0, 1), (1, .getfield 134, 3), (4, .ifCond .lt 4, 3), (7, .return_, 1), (8, .iload_n 1, 1), (9, .iconst 4, 1), (10, .if_icmp .ge 37, 3), (13, .aload_n 0, 1), (14, .bipush 33, 2), (16, .invokevirtual 140, 3), (19, .ifCond .eq 28, 3), (22, .aload_n 0, 1), (23, .dup, 1), (24, .getfield 137, 3), (27, .iconst 1, 1), (28, .iadd, 1), (29, .putfield 137, 3), (32, .aload_n 0, 1), (33, .iload_n 1, 1), (34, .iconst 1, 1), (35, .iadd, 1), (36, .invokevirtual 166, 3), (39, .aload_n 0, 1), (40, .iconst 1, 1), (41, .invokevirtual 163, 3), (44, .goto 184, 3), (47, .iload_n 1, 1), (48, .iconst 4, 1), (49, .if_icmp .ge 38, 3), (52, .aload_n 0, 1), (53, .bipush 40, 2), (55, .invokevirtual 140, 3), (58, .ifCond .eq 29, 3), (61, .aload_n 0, 1), (62, .dup, 1), (63, .getfield 137, 3), (66, .iconst 1, 1), (67, .iadd, 1), (68, .putfield 137, 3), (71, .aload_n 0, 1), (72, .iload_n 1, 1), (73, .iconst 1, 1), (74, .iadd, 1), (75, .invokevirtual 160, 3), (78, .aload_n 0, 1), (79, .bipush 41, 2), (81, .invokevirtual 169, 3), (84, .goto 144, 3)]
theorem dcX11_one_0 : tbX11_one_0.all (fun q => decide (decode cX11_one q.1 = .ok q.2)) = true := by decide +kernel
def tbX11_one_1 : List (Nat × Instr × Nat) := [(87, .aload_n 0, 1), (88, .invokevirtual 172, 3), (91, .ifCond .eq 133, 3), (94, .bipush 100, 2), (96, .aload_n 0, 1), (97, .getfield 150, 3), (100, .imul, 1), (101, .aload_n 0, 1), (102, .getfield 153, 3), (105, .iadd, 1), (106, .istore_n 2, 1), (107, .aload_n 0, 1), (108, .getfield 50, 3), (111, .iload_n 2, 1), (112, .aload_n 0, 1), (113, .getfield 24, 3), (116, .aload_n 0, 1), (117, .getfield 137, 3), (120, .baload, 1), (121, .iastore, 1), (122, .aload_n 0, 1), (123, .dup, 1), (124, .getfield 137, 3), (127, .iconst 1, 1), (128, .iadd, 1), (129, .putfield 137, 3), (132, .aload_n 0, 1), (133, .getfield 53, 3), (136, .iload_n 2, 1), (137, .aload_n 0, 1), (138, .getfield 137, 3), (141, .aload_n 0, 1), (142, .getfield 131, 3), (145, .if_icmp .ge 15, 3), (148, .aload_n 0, 1), (149, .getfield 24, 3), (152, .aload_n 0, 1), (153, .getfield 137, 3), (156, .baload, 1), (157, .goto 4, 3), (160, .iconst 0, 1), (161, .iastore, 1), (162, .aload_n 0, 1), (163, .bipush 60, 2), (165, .invokevirtual 140, 3), (168, .ifCond .ne 21, 3), (171, .aload_n 0, 1), (172, .bipush 61, 2)]
theorem dcX11_one_1 : tbX11_one_1.all (fun q => decide (decode cX11_one q.1 = .ok q.2)) = true := by decide +kernel
def tbX11_one_2 : List (Nat × Instr × Nat) := [(174, .invokevirtual 140, 3), (177, .ifCond .ne 12, 3), (180, .aload_n 0, 1), (181, .bipush 62, 2), (183, .invokevirtual 140, 3), (186, .ifCond .eq 16, 3), (189, .aload_n 0, 1), (190, .dup, 1), (191, .getfield 137, 3), (194, .iconst 1, 1), (195, .iadd, 1), (196, .putfield 137, 3), (199, .goto 7, 3), (202, .aload_n 0, 1), (203, .invokevirtual 143, 3), (206, .aload_n 0, 1), (207, .getfield 56, 3), (210, .iload_n 2, 1), (211, .aload_n 0, 1), (212, .invokevirtual 175, 3), (215, .iastore, 1), (216, .aload_n 0, 1), (217, .iconst 0, 1), (218, .invokevirtual 163, 3), (221, .goto 7, 3), (224, .aload_n 0, 1), (225, .invokevirtual 143, 3), (228, .return_, 1)]
theorem dcX11_one_2 : tbX11_one_2.all (fun q => decide (decode cX11_one q.1 = .ok q.2)) = true := by decide +kernel
def tbX11_readWord_0 : List (Nat × Instr × Nat) := [(0, .iconst 0, 1), (1, .istore_n 1, 1), (2, .aload_n 0, 1), (3, .getfield 137, 3), (6, .istore_n 2, 1), (7, .iconst 0, 1), (8, .istore_n 3, 1), (9, .iload_n 3, 1), (10, .bipush 6, 2), (12, .if_icmp .gt 111, 3), (15, .aload_n 0, 1), (16, .getfield 137, 3), (19, .istore 4, 2), (21, .iconst 1, 1), (22, .istore 5, 2), (24, .iconst 1, 1), (25, .istore 6, 2), (27, .iload 6, 2), (29, .ifCond .eq 66, 3), (32, .iload 5, 2), (34, .ifCond .eq 34, 3), (37, .iload 4, 2), (39, .aload_n 0, 1), (40, .getfield 131, 3), (43, .if_icmp .ge 25, 3), (46, .aload_n 0, 1), (47, .getfield 24, 3), (50, .iload 4, 2), (52, .baload, 1), (53, .aload_n 0, 1), (54, .getfield 59, 3), (57, .iload_n 1, 1), (58, .iaload, 1), (59, .if_icmp .ne 9, 3), (62, .iinc 4 1, 3), (65, .goto 6, 3), (68, .iconst 0, 1), (69, .istore 5, 2), (71, .aload_n 0, 1), (72, .getfield 59, 3), (75, .iload_n 1, 1), (76, .iaload, 1), (77, .bipush 32, 2), (79, .if_icmp .eq 7, 3), (82, .iconst 1, 1), (83, .goto 4, 3), (86, .iconst 0, 1), (87, .istore 6, 2)]
theorem dcX11_readWord_0 : tbX11_readWord_0.all (fun q => decide (decode cX11_readWord q.1 = .ok q.2)) = true := by decide +kernel
def tbX11_readWord_1 : List (Nat × Instr × Nat) := [(89, .iinc 1 1, 3), (92, .goto (-65), 3), (95, .iload 5, 2), (97, .ifCond .eq 11, 3), (100, .aload_n 0, 1), (101, .iload 4, 2), (103, .putfield 137, 3), (106, .iload_n 3, 1), (107, .ireturn, 1), (108, .iload 4, 2), (110, .iload_n 2, 1), (111, .if_icmp .le 6, 3), (114, .iload 4, 2), (116, .istore_n 2, 1), (117, .iinc 3 1, 3), (120, .goto (-111), 3), (123, .aload_n 0, 1), (124, .iload_n 2, 1), (125, .putfield 137, 3), (128, .aload_n 0, 1), (129, .invokevirtual 143, 3), (132, .iconst (-1), 1), (133, .ireturn, 1)]
theorem dcX11_readWord_1 : tbX11_readWord_1.all (fun q => decide (decode cX11_readWord q.1 = .ok q.2)) = true := by decide +kernel
def tbX11_clause_0 : List (Nat × Instr × Nat) := [(0, .bipush 10, 2), (2, .aload_n 0, 1), (3, .getfield 150, 3), (6, .imul, 1), (7, .aload_n 0, 1), (8, .getfield 32, 3), (11, .aload_n 0, 1), (12, .getfield 150, 3), (15, .iaload, 1), (16, .iadd, 1), (17, .istore_n 1, 1), (18, .aload_n 0, 1), (19, .getfield 35, 3), (22, .iload_n 1, 1), (23, .aload_n 0, 1), (24, .invokevirtual 178, 3), (27, .iastore, 1), (28, .aload_n 0, 1), (29, .getfield 38, 3), (32, .iload_n 1, 1), (33, .aload_n 0, 1), (34, .getfield 134, 3), (37, .ifCond .ge 10, 3), (40, .aload_n 0, 1), (41, .invokevirtual 175, 3), (44, .goto 4, 3), (47, .iconst 0, 1), (48, .iastore, 1), (49, .aload_n 0, 1), (50, .getfield 41, 3), (53, .iload_n 1, 1), (54, .aload_n 0, 1), (55, .getfield 153, 3), (58, .iastore, 1), (59, .aload_n 0, 1), (60, .getfield 134, 3), (63, .ifCond .ge 24, 3), (66, .aload_n 0, 1), (67, .getfield 35, 3), (70, .iload_n 1, 1), (71, .iaload, 1), (72, .iconst 2, 1), (73, .if_icmp .gt 14, 3), (76, .aload_n 0, 1), (77, .bipush 32, 2), (79, .invokevirtual 169, 3), (82, .aload_n 0, 1), (83, .iconst 0, 1)]
theorem dcX11_clause_0 : tbX11_clause_0.all (fun q => decide (decode cX11_clause q.1 = .ok q.2)) = true := by decide +kernel
def tbX11_clause_1 : List (Nat × Instr × Nat) := [(84, .invokevirtual 160, 3), (87, .aload_n 0, 1), (88, .getfield 44, 3), (91, .iload_n 1, 1), (92, .aload_n 0, 1), (93, .getfield 153, 3), (96, .iastore, 1), (97, .aload_n 0, 1), (98, .getfield 32, 3), (101, .aload_n 0, 1), (102, .getfield 150, 3), (105, .dup2, 1), (106, .iaload, 1), (107, .iconst 1, 1), (108, .iadd, 1), (109, .iastore, 1), (110, .return_, 1)]
theorem dcX11_clause_1 : tbX11_clause_1.all (fun q => decide (decode cX11_clause q.1 = .ok q.2)) = true := by decide +kernel
def tbX11_law_0 : List (Nat × Instr × Nat) := [(0, .aload_n 0, 1), (1, .getfield 150, 3), (4, .bipush 6, 2), (6, .if_icmp .ne 6, 3), (9, .bipush (-4), 2), (11, .ireturn, 1), (12, .aload_n 0, 1), (13, .iconst 0, 1), (14, .putfield 137, 3), (17, .aload_n 0, 1), (18, .iconst (-1), 1), (19, .putfield 134, 3), (22, .aload_n 0, 1), (23, .iconst 0, 1), (24, .putfield 153, 3), (27, .aload_n 0, 1), (28, .getfield 32, 3), (31, .aload_n 0, 1), (32, .getfield 150, 3), (35, .iconst 0, 1), (36, .iastore, 1), (37, .aload_n 0, 1), (38, .invokevirtual 181, 3), (41, .aload_n 0, 1), (42, .bipush 59, 2), (44, .invokevirtual 140, 3), (47, .ifCond .eq 34, 3), (50, .aload_n 0, 1), (51, .getfield 32, 3), (54, .aload_n 0, 1), (55, .getfield 150, 3), (58, .iaload, 1), (59, .bipush 10, 2), (61, .if_icmp .ge 20, 3), (64, .aload_n 0, 1), (65, .dup, 1), (66, .getfield 137, 3), (69, .iconst 1, 1), (70, .iadd, 1), (71, .putfield 137, 3), (74, .aload_n 0, 1), (75, .invokevirtual 181, 3), (78, .goto (-37), 3), (81, .aload_n 0, 1), (82, .getfield 137, 3), (85, .aload_n 0, 1), (86, .getfield 131, 3), (89, .if_icmp .ge 7, 3)]
theorem dcX11_law_0 : tbX11_law_0.all (fun q => decide (decode cX11_law q.1 = .ok q.2)) = true := by decide +kernel
def tbX11_law_1 : List (Nat × Instr × Nat) := [(92, .aload_n 0, 1), (93, .invokevirtual 143, 3), (96, .aload_n 0, 1), (97, .iconst 0, 1), (98, .putfield 131, 3), (101, .aload_n 0, 1), (102, .getfield 134, 3), (105, .ifCond .lt 11, 3), (108, .bipush (-10), 2), (110, .aload_n 0, 1), (111, .getfield 134, 3), (114, .isub, 1), (115, .ireturn, 1), (116, .aload_n 0, 1), (117, .aload_n 0, 1), (118, .getfield 150, 3), (121, .putfield 28, 3), (124, .aload_n 0, 1), (125, .dup, 1), (126, .getfield 150, 3), (129, .iconst 1, 1), (130, .iadd, 1), (131, .putfield 150, 3), (134, .aload_n 0, 1), (135, .getfield 150, 3), (138, .iconst 1, 1), (139, .isub, 1), (140, .ireturn, 1)]
theorem dcX11_law_1 : tbX11_law_1.all (fun q => decide (decode cX11_law q.1 = .ok q.2)) = true := by decide +kernel
def tbX11_factOf_0 : List (Nat × Instr × Nat) := [(0, .iload_n 1, 1), (1, .tableswitch 210 97 119 #[189, 210, 210, 210, 210, 107, 210, 125, 210, 210, 197, 149, 210, 210, 210, 133, 210, 210, 168, 210, 210, 210, 141], 107), (108, .aload_n 0, 1), (109, .getfield 21, 3), (112, .aload_n 0, 1), (113, .getfield 18, 3), (116, .aload_n 0, 1), (117, .getfield 21, 3), (120, .bipush 12, 2), (122, .iaload, 1), (123, .iaload, 1), (124, .iaload, 1), (125, .ireturn, 1), (126, .aload_n 0, 1), (127, .getfield 21, 3), (130, .bipush 7, 2), (132, .iaload, 1), (133, .ireturn, 1), (134, .aload_n 0, 1), (135, .getfield 21, 3), (138, .bipush 6, 2), (140, .iaload, 1), (141, .ireturn, 1), (142, .aload_n 0, 1), (143, .getfield 21, 3), (146, .bipush 8, 2), (148, .iaload, 1), (149, .ireturn, 1), (150, .aload_n 0, 1), (151, .getfield 21, 3), (154, .bipush 10, 2), (156, .iaload, 1), (157, .aload_n 0, 1), (158, .getfield 21, 3), (161, .bipush 11, 2), (163, .iaload, 1), (164, .isub, 1), (165, .invokestatic 184, 3), (168, .ireturn, 1), (169, .aload_n 0, 1), (170, .getfield 21, 3), (173, .bipush 10, 2), (175, .iaload, 1), (176, .aload_n 0, 1), (177, .getfield 21, 3), (180, .bipush 11, 2), (182, .iaload, 1), (183, .iadd, 1)]
theorem dcX11_factOf_0 : tbX11_factOf_0.all (fun q => decide (decode cX11_factOf q.1 = .ok q.2)) = true := by decide +kernel
def tbX11_factOf_1 : List (Nat × Instr × Nat) := [(184, .bipush 99, 2), (186, .invokestatic 187, 3), (189, .ireturn, 1), (190, .aload_n 0, 1), (191, .getfield 21, 3), (194, .bipush 12, 2), (196, .iaload, 1), (197, .ireturn, 1), (198, .aload_n 0, 1), (199, .getfield 9, 3), (202, .aload_n 0, 1), (203, .getfield 21, 3), (206, .bipush 12, 2), (208, .iaload, 1), (209, .iaload, 1), (210, .ireturn, 1), (211, .aload_n 0, 1), (212, .getfield 21, 3), (215, .bipush 14, 2), (217, .iaload, 1), (218, .bipush 60, 2), (220, .irem, 1), (221, .ireturn, 1)]
theorem dcX11_factOf_1 : tbX11_factOf_1.all (fun q => decide (decode cX11_factOf q.1 = .ok q.2)) = true := by decide +kernel
def tbX11_test_0 : List (Nat × Instr × Nat) := [(0, .iload_n 1, 1), (1, .bipush 60, 2), (3, .if_icmp .ne 16, 3), (6, .iload_n 0, 1), (7, .iload_n 2, 1), (8, .if_icmp .ge 7, 3), (11, .iconst 1, 1), (12, .goto 36, 3), (15, .iconst 0, 1), (16, .goto 32, 3), (19, .iload_n 1, 1), (20, .bipush 61, 2), (22, .if_icmp .ne 16, 3), (25, .iload_n 0, 1), (26, .iload_n 2, 1), (27, .if_icmp .ne 7, 3), (30, .iconst 1, 1), (31, .goto 17, 3), (34, .iconst 0, 1), (35, .goto 13, 3), (38, .iload_n 0, 1), (39, .iload_n 2, 1), (40, .if_icmp .le 7, 3), (43, .iconst 1, 1), (44, .goto 4, 3), (47, .iconst 0, 1), (48, .ireturn, 1)]
theorem dcX11_test_0 : tbX11_test_0.all (fun q => decide (decode cX11_test q.1 = .ok q.2)) = true := by decide +kernel
def tbX11_isSo_0 : List (Nat × Instr × Nat) := [(0, .iconst 0, 1), (1, .istore_n 2, 1), (2, .bipush 100, 2), (4, .aload_n 0, 1), (5, .getfield 28, 3), (8, .imul, 1), (9, .aload_n 0, 1), (10, .getfield 41, 3), (13, .iload_n 1, 1), (14, .iaload, 1), (15, .iadd, 1), (16, .istore_n 3, 1), (17, .iload_n 3, 1), (18, .bipush 100, 2), (20, .aload_n 0, 1), (21, .getfield 28, 3), (24, .imul, 1), (25, .aload_n 0, 1), (26, .getfield 44, 3), (29, .iload_n 1, 1), (30, .iaload, 1), (31, .iadd, 1), (32, .if_icmp .ge 181, 3), (35, .aload_n 0, 1), (36, .getfield 47, 3), (39, .iload_n 3, 1), (40, .iaload, 1), (41, .tableswitch 130 0 2 #[27, 64, 91], 27), (68, .aload_n 0, 1), (69, .getfield 62, 3), (72, .iload_n 2, 1), (73, .aload_n 0, 1), (74, .aload_n 0, 1), (75, .getfield 50, 3), (78, .iload_n 3, 1), (79, .iaload, 1), (80, .invokevirtual 191, 3), (83, .aload_n 0, 1), (84, .getfield 53, 3), (87, .iload_n 3, 1), (88, .iaload, 1), (89, .aload_n 0, 1), (90, .getfield 56, 3), (93, .iload_n 3, 1), (94, .iaload, 1), (95, .invokestatic 194, 3), (98, .bastore, 1), (99, .iinc 2 1, 3)]
theorem dcX11_isSo_0 : tbX11_isSo_0.all (fun q => decide (decode cX11_isSo q.1 = .ok q.2)) = true := by decide +kernel
def tbX11_isSo_1 : List (Nat × Instr × Nat) := [(102, .goto 105, 3), (105, .aload_n 0, 1), (106, .getfield 62, 3), (109, .iload_n 2, 1), (110, .iconst 1, 1), (111, .isub, 1), (112, .aload_n 0, 1), (113, .getfield 62, 3), (116, .iload_n 2, 1), (117, .iconst 1, 1), (118, .isub, 1), (119, .baload, 1), (120, .ifCond .ne 7, 3), (123, .iconst 1, 1), (124, .goto 4, 3), (127, .iconst 0, 1), (128, .bastore, 1), (129, .goto 78, 3), (132, .iinc 2 (-1), 3), (135, .aload_n 0, 1), (136, .getfield 62, 3), (139, .iload_n 2, 1), (140, .iconst 1, 1), (141, .isub, 1), (142, .aload_n 0, 1), (143, .getfield 62, 3), (146, .iload_n 2, 1), (147, .iconst 1, 1), (148, .isub, 1), (149, .baload, 1), (150, .ifCond .eq 16, 3), (153, .aload_n 0, 1), (154, .getfield 62, 3), (157, .iload_n 2, 1), (158, .baload, 1), (159, .ifCond .eq 7, 3), (162, .iconst 1, 1), (163, .goto 4, 3), (166, .iconst 0, 1), (167, .bastore, 1), (168, .goto 39, 3), (171, .iinc 2 (-1), 3), (174, .aload_n 0, 1), (175, .getfield 62, 3), (178, .iload_n 2, 1), (179, .iconst 1, 1), (180, .isub, 1), (181, .aload_n 0, 1)]
theorem dcX11_isSo_1 : tbX11_isSo_1.all (fun q => decide (decode cX11_isSo q.1 = .ok q.2)) = true := by decide +kernel
def tbX11_isSo_2 : List (Nat × Instr × Nat) := [(182, .getfield 62, 3), (185, .iload_n 2, 1), (186, .iconst 1, 1), (187, .isub, 1), (188, .baload, 1), (189, .ifCond .ne 12, 3), (192, .aload_n 0, 1), (193, .getfield 62, 3), (196, .iload_n 2, 1), (197, .baload, 1), (198, .ifCond .eq 7, 3), (201, .iconst 1, 1), (202, .goto 4, 3), (205, .iconst 0, 1), (206, .bastore, 1), (207, .iinc 3 1, 3), (210, .goto (-193), 3), (213, .aload_n 0, 1), (214, .getfield 62, 3), (217, .iconst 0, 1), (218, .baload, 1), (219, .ireturn, 1)]
theorem dcX11_isSo_2 : tbX11_isSo_2.all (fun q => decide (decode cX11_isSo q.1 = .ok q.2)) = true := by decide +kernel
def tbX11_sumOf_0 : List (Nat × Instr × Nat) := [(0, .iconst 0, 1), (1, .istore_n 2, 1), (2, .aload_n 0, 1), (3, .getfield 28, 3), (6, .ifCond .ge 5, 3), (9, .iconst 0, 1), (10, .ireturn, 1), (11, .bipush 10, 2), (13, .aload_n 0, 1), (14, .getfield 28, 3), (17, .imul, 1), (18, .istore_n 3, 1), (19, .iload_n 3, 1), (20, .bipush 10, 2), (22, .aload_n 0, 1), (23, .getfield 28, 3), (26, .imul, 1), (27, .aload_n 0, 1), (28, .getfield 32, 3), (31, .aload_n 0, 1), (32, .getfield 28, 3), (35, .iaload, 1), (36, .iadd, 1), (37, .if_icmp .ge 36, 3), (40, .aload_n 0, 1), (41, .getfield 35, 3), (44, .iload_n 3, 1), (45, .iaload, 1), (46, .iload_n 1, 1), (47, .if_icmp .ne 20, 3), (50, .aload_n 0, 1), (51, .iload_n 3, 1), (52, .invokevirtual 197, 3), (55, .ifCond .eq 12, 3), (58, .iload_n 2, 1), (59, .aload_n 0, 1), (60, .getfield 38, 3), (63, .iload_n 3, 1), (64, .iaload, 1), (65, .iadd, 1), (66, .istore_n 2, 1), (67, .iinc 3 1, 3), (70, .goto (-51), 3), (73, .iload_n 2, 1), (74, .ireturn, 1)]
theorem dcX11_sumOf_0 : tbX11_sumOf_0.all (fun q => decide (decode cX11_sumOf q.1 = .ok q.2)) = true := by decide +kernel
def tbX11_lastOf_0 : List (Nat × Instr × Nat) := [(0, .iload_n 1, 1), (1, .iconst 3, 1), (2, .if_icmp .ne 7, 3), (5, .iconst 3, 1), (6, .goto 23, 3), (9, .iload_n 1, 1), (10, .iconst 4, 1), (11, .if_icmp .ne 7, 3), (14, .iconst 5, 1), (15, .goto 14, 3), (18, .iload_n 1, 1), (19, .iconst 5, 1), (20, .if_icmp .ne 7, 3), (23, .iconst 2, 1), (24, .goto 5, 3), (27, .bipush 9, 2), (29, .istore_n 2, 1), (30, .aload_n 0, 1), (31, .getfield 28, 3), (34, .ifCond .ge 5, 3), (37, .iload_n 2, 1), (38, .ireturn, 1), (39, .bipush 10, 2), (41, .aload_n 0, 1), (42, .getfield 28, 3), (45, .imul, 1), (46, .istore_n 3, 1), (47, .iload_n 3, 1), (48, .bipush 10, 2), (50, .aload_n 0, 1), (51, .getfield 28, 3), (54, .imul, 1), (55, .aload_n 0, 1), (56, .getfield 32, 3), (59, .aload_n 0, 1), (60, .getfield 28, 3), (63, .iaload, 1), (64, .iadd, 1), (65, .if_icmp .ge 26, 3), (68, .aload_n 0, 1), (69, .getfield 35, 3), (72, .iload_n 3, 1), (73, .iaload, 1), (74, .iload_n 1, 1), (75, .if_icmp .ne 10, 3), (78, .aload_n 0, 1), (79, .getfield 38, 3), (82, .iload_n 3, 1)]
theorem dcX11_lastOf_0 : tbX11_lastOf_0.all (fun q => decide (decode cX11_lastOf q.1 = .ok q.2)) = true := by decide +kernel
def tbX11_lastOf_1 : List (Nat × Instr × Nat) := [(83, .iaload, 1), (84, .istore_n 2, 1), (85, .iinc 3 1, 3), (88, .goto (-41), 3), (91, .iload_n 2, 1), (92, .ireturn, 1)]
theorem dcX11_lastOf_1 : tbX11_lastOf_1.all (fun q => decide (decode cX11_lastOf q.1 = .ok q.2)) = true := by decide +kernel
def tbX11_fordHalves_0 : List (Nat × Instr × Nat) := [(0, .aload_n 0, 1), (1, .bipush 6, 2), (3, .invokevirtual 200, 3), (6, .ifCond .ne 7, 3), (9, .iconst 1, 1), (10, .goto 9, 3), (13, .aload_n 0, 1), (14, .bipush 6, 2), (16, .invokevirtual 200, 3), (19, .ireturn, 1)]
theorem dcX11_fordHalves_0 : tbX11_fordHalves_0.all (fun q => decide (decode cX11_fordHalves q.1 = .ok q.2)) = true := by decide +kernel
def tbX11_told_0 : List (Nat × Instr × Nat) := [(0, .iload_n 1, 1), (1, .iconst 0, 1), (2, .bipush 6, 2), (4, .invokestatic 112, 3), (7, .ifCond .ne 5, 3), (10, .iconst (-1), 1), (11, .ireturn, 1), (12, .iload_n 1, 1), (13, .iconst 2, 1), (14, .if_icmp .le 9, 3), (17, .aload_n 0, 1), (18, .iload_n 1, 1), (19, .invokevirtual 200, 3), (22, .ireturn, 1), (23, .aload_n 0, 1), (24, .invokevirtual 203, 3), (27, .ifCond .eq 8, 3), (30, .bipush (-3), 2), (32, .goto 8, 3), (35, .aload_n 0, 1), (36, .iload_n 1, 1), (37, .invokevirtual 206, 3), (40, .ireturn, 1)]
theorem dcX11_told_0 : tbX11_told_0.all (fun q => decide (decode cX11_told q.1 = .ok q.2)) = true := by decide +kernel
def tbX11_fearAs_0 : List (Nat × Instr × Nat) := [(0, .aload_n 0, 1), (1, .getfield 21, 3), (4, .aload_n 0, 1), (5, .getfield 18, 3), (8, .aload_n 0, 1), (9, .getfield 21, 3), (12, .bipush 12, 2), (14, .iaload, 1), (15, .iaload, 1), (16, .iaload, 1), (17, .istore_n 2, 1), (18, .iload_n 1, 1), (19, .iconst 2, 1), (20, .if_icmp .ne 7, 3), (23, .iload_n 2, 1), (24, .iconst 2, 1), (25, .idiv, 1), (26, .istore_n 2, 1), (27, .iload_n 1, 1), (28, .iconst 3, 1), (29, .if_icmp .ne 5, 3), (32, .iconst 0, 1), (33, .istore_n 2, 1), (34, .aload_n 0, 1), (35, .getfield 9, 3), (38, .aload_n 0, 1), (39, .getfield 21, 3), (42, .bipush 12, 2), (44, .iaload, 1), (45, .iaload, 1), (46, .istore_n 3, 1), (47, .iload_n 3, 1), (48, .iconst 1, 1), (49, .if_icmp .ne 7, 3), (52, .iconst 2, 1), (53, .iload_n 2, 1), (54, .imul, 1), (55, .ireturn, 1), (56, .iload_n 3, 1), (57, .iconst 4, 1), (58, .if_icmp .eq 5, 3), (61, .iload_n 2, 1), (62, .ireturn, 1), (63, .iconst 2, 1), (64, .iload_n 2, 1), (65, .imul, 1), (66, .aload_n 0, 1), (67, .getfield 15, 3)]
theorem dcX11_fearAs_0 : tbX11_fearAs_0.all (fun q => decide (decode cX11_fearAs q.1 = .ok q.2)) = true := by decide +kernel
def tbX11_fearAs_1 : List (Nat × Instr × Nat) := [(70, .aload_n 0, 1), (71, .getfield 21, 3), (74, .bipush 12, 2), (76, .iaload, 1), (77, .iaload, 1), (78, .aload_n 0, 1), (79, .getfield 21, 3), (82, .bipush 9, 2), (84, .iaload, 1), (85, .imul, 1), (86, .isub, 1), (87, .istore 4, 2), (89, .iload 4, 2), (91, .ifCond .ge 7, 3), (94, .iconst 0, 1), (95, .goto 5, 3), (98, .iload 4, 2), (100, .ireturn, 1)]
theorem dcX11_fearAs_1 : tbX11_fearAs_1.all (fun q => decide (decode cX11_fearAs q.1 = .ok q.2)) = true := by decide +kernel
def tbX11_lessBy_0 : List (Nat × Instr × Nat) := [(0, .aload_n 0, 1), (1, .getfield 9, 3), (4, .aload_n 0, 1), (5, .getfield 21, 3), (8, .bipush 12, 2), (10, .iaload, 1), (11, .iaload, 1), (12, .istore_n 3, 1), (13, .iload_n 1, 1), (14, .tableswitch 143 0 5 #[38, 44, 50, 70, 93, 112], 38), (52, .aload_n 0, 1), (53, .iconst 1, 1), (54, .invokevirtual 206, 3), (57, .ireturn, 1), (58, .aload_n 0, 1), (59, .iload_n 2, 1), (60, .invokevirtual 209, 3), (63, .ireturn, 1), (64, .iload_n 3, 1), (65, .iconst 2, 1), (66, .if_icmp .eq 8, 3), (69, .iload_n 3, 1), (70, .iconst 5, 1), (71, .if_icmp .ne 11, 3), (74, .aload_n 0, 1), (75, .iconst 2, 1), (76, .invokevirtual 206, 3), (79, .goto 4, 3), (82, .iconst 0, 1), (83, .ireturn, 1), (84, .iload_n 3, 1), (85, .iconst 3, 1), (86, .if_icmp .eq 9, 3), (89, .iload_n 3, 1), (90, .bipush 6, 2), (92, .if_icmp .ne 13, 3), (95, .aload_n 0, 1), (96, .getfield 21, 3), (99, .bipush 6, 2), (101, .iaload, 1), (102, .goto 4, 3), (105, .iconst 0, 1), (106, .ireturn, 1), (107, .iload_n 3, 1), (108, .iconst 5, 1), (109, .if_icmp .ne 15, 3), (112, .aload_n 0, 1), (113, .getfield 21, 3)]
theorem dcX11_lessBy_0 : tbX11_lessBy_0.all (fun q => decide (decode cX11_lessBy q.1 = .ok q.2)) = true := by decide +kernel
def tbX11_lessBy_1 : List (Nat × Instr × Nat) := [(116, .bipush 8, 2), (118, .iaload, 1), (119, .iconst 2, 1), (120, .idiv, 1), (121, .goto 4, 3), (124, .iconst 0, 1), (125, .ireturn, 1), (126, .iload_n 3, 1), (127, .bipush 6, 2), (129, .if_icmp .ne 26, 3), (132, .aload_n 0, 1), (133, .getfield 15, 3), (136, .aload_n 0, 1), (137, .getfield 21, 3), (140, .bipush 12, 2), (142, .iaload, 1), (143, .iaload, 1), (144, .aload_n 0, 1), (145, .getfield 21, 3), (148, .bipush 12, 2), (150, .iaload, 1), (151, .imul, 1), (152, .goto 4, 3), (155, .iconst 0, 1), (156, .ireturn, 1), (157, .aload_n 0, 1), (158, .getfield 21, 3), (161, .bipush 13, 2), (163, .iaload, 1), (164, .iconst 1, 1), (165, .if_icmp .ne 8, 3), (168, .bipush 15, 2), (170, .goto 4, 3), (173, .iconst 0, 1), (174, .ireturn, 1)]
theorem dcX11_lessBy_1 : tbX11_lessBy_1.all (fun q => decide (decode cX11_lessBy q.1 = .ok q.2)) = true := by decide +kernel
def tbX11_driveBy_0 : List (Nat × Instr × Nat) := [(0, .aload_n 0, 1), (1, .iconst 0, 1), (2, .invokevirtual 206, 3), (5, .istore_n 2, 1), (6, .iload_n 1, 1), (7, .iconst 1, 1), (8, .if_icmp .ne 16, 3), (11, .iload_n 2, 1), (12, .aload_n 0, 1), (13, .iconst 3, 1), (14, .invokevirtual 200, 3), (17, .aload_n 0, 1), (18, .getfield 212, 3), (21, .iadd, 1), (22, .iadd, 1), (23, .istore_n 2, 1), (24, .iload_n 1, 1), (25, .iconst 4, 1), (26, .if_icmp .ne 15, 3), (29, .iload_n 2, 1), (30, .aload_n 0, 1), (31, .getfield 21, 3), (34, .bipush 7, 2), (36, .iaload, 1), (37, .iconst 2, 1), (38, .idiv, 1), (39, .iadd, 1), (40, .istore_n 2, 1), (41, .iload_n 1, 1), (42, .bipush 7, 2), (44, .if_icmp .ne 11, 3), (47, .iload_n 2, 1), (48, .aload_n 0, 1), (49, .iconst 4, 1), (50, .invokevirtual 200, 3), (53, .iadd, 1), (54, .istore_n 2, 1), (55, .iload_n 1, 1), (56, .iconst 3, 1), (57, .if_icmp .ne 6, 3), (60, .iinc 2 (-20), 3), (63, .iconst 0, 1), (64, .istore_n 3, 1), (65, .iload_n 3, 1), (66, .bipush 6, 2), (68, .if_icmp .gt 18, 3), (71, .iload_n 2, 1), (72, .aload_n 0, 1)]
theorem dcX11_driveBy_0 : tbX11_driveBy_0.all (fun q => decide (decode cX11_driveBy q.1 = .ok q.2)) = true := by decide +kernel
def tbX11_driveBy_1 : List (Nat × Instr × Nat) := [(73, .iload_n 3, 1), (74, .iload_n 1, 1), (75, .invokevirtual 215, 3), (78, .isub, 1), (79, .istore_n 2, 1), (80, .iinc 3 1, 3), (83, .goto (-18), 3), (86, .iload_n 2, 1), (87, .aload_n 0, 1), (88, .getfield 218, 3), (91, .isub, 1), (92, .ireturn, 1)]
theorem dcX11_driveBy_1 : tbX11_driveBy_1.all (fun q => decide (decode cX11_driveBy q.1 = .ok q.2)) = true := by decide +kernel
def tbX11_isAct_0 : List (Nat × Instr × Nat) := [(0, .iload_n 0, 1), (1, .iconst 0, 1), (2, .bipush 7, 2), (4, .invokestatic 112, 3), (7, .ireturn, 1)]
theorem dcX11_isAct_0 : tbX11_isAct_0.all (fun q => decide (decode cX11_isAct q.1 = .ok q.2)) = true := by decide +kernel
def tbX11_drive_0 : List (Nat × Instr × Nat) := [(0, .iload_n 1, 1), (1, .invokestatic 221, 3), (4, .ifCond .ne 8, 3), (7, .ldc 224, 2), (9, .goto 20, 3), (12, .aload_n 0, 1), (13, .invokevirtual 203, 3), (16, .ifCond .eq 8, 3), (19, .ldc 225, 2), (21, .goto 8, 3), (24, .aload_n 0, 1), (25, .iload_n 1, 1), (26, .invokevirtual 226, 3), (29, .ireturn, 1)]
theorem dcX11_drive_0 : tbX11_drive_0.all (fun q => decide (decode cX11_drive q.1 = .ok q.2)) = true := by decide +kernel
def tbX11_wouldBy_0 : List (Nat × Instr × Nat) := [(0, .iload_n 1, 1), (1, .bipush 6, 2), (3, .if_icmp .ne 5, 3), (6, .iconst 1, 1), (7, .ireturn, 1), (8, .aload_n 0, 1), (9, .iload_n 1, 1), (10, .invokevirtual 226, 3), (13, .istore_n 2, 1), (14, .iload_n 2, 1), (15, .ifCond .le 7, 3), (18, .iconst 1, 1), (19, .goto 24, 3), (22, .iload_n 2, 1), (23, .bipush (-15), 2), (25, .if_icmp .le 7, 3), (28, .iconst 0, 1), (29, .goto 14, 3), (32, .iload_n 2, 1), (33, .bipush (-40), 2), (35, .if_icmp .le 7, 3), (38, .iconst 2, 1), (39, .goto 4, 3), (42, .iconst 3, 1), (43, .ireturn, 1)]
theorem dcX11_wouldBy_0 : tbX11_wouldBy_0.all (fun q => decide (decode cX11_wouldBy q.1 = .ok q.2)) = true := by decide +kernel
def tbX11_would_0 : List (Nat × Instr × Nat) := [(0, .iload_n 1, 1), (1, .invokestatic 221, 3), (4, .ifCond .ne 7, 3), (7, .iconst (-1), 1), (8, .goto 20, 3), (11, .aload_n 0, 1), (12, .invokevirtual 203, 3), (15, .ifCond .eq 8, 3), (18, .bipush (-5), 2), (20, .goto 8, 3), (23, .aload_n 0, 1), (24, .iload_n 1, 1), (25, .invokevirtual 229, 3), (28, .ireturn, 1)]
theorem dcX11_would_0 : tbX11_would_0.all (fun q => decide (decode cX11_would q.1 = .ok q.2)) = true := by decide +kernel
def tbX11_more_0 : List (Nat × Instr × Nat) := [(0, .aload_n 0, 1), (1, .getfield 21, 3), (4, .iload_n 1, 1), (5, .aload_n 0, 1), (6, .getfield 21, 3), (9, .iload_n 1, 1), (10, .iaload, 1), (11, .iload_n 2, 1), (12, .iadd, 1), (13, .aload_n 0, 1), (14, .iload_n 1, 1), (15, .invokevirtual 120, 3), (18, .invokestatic 187, 3), (21, .iastore, 1), (22, .return_, 1)]
theorem dcX11_more_0 : tbX11_more_0.all (fun q => decide (decode cX11_more q.1 = .ok q.2)) = true := by decide +kernel
def tbX11_does_0 : List (Nat × Instr × Nat) := [(0, .aload_n 0, 1), (1, .invokevirtual 203, 3), (4, .ifCond .eq 6, 3), (7, .bipush (-5), 2), (9, .ireturn, 1), (10, .aload_n 0, 1), (11, .getfield 18, 3), (14, .aload_n 0, 1), (15, .getfield 21, 3), (18, .bipush 12, 2), (20, .iaload, 1), (21, .iaload, 1), (22, .istore_n 2, 1), (23, .aload_n 0, 1), (24, .iload_n 1, 1), (25, .invokevirtual 229, 3), (28, .istore_n 3, 1), (29, .iload_n 1, 1), (30, .bipush 6, 2), (32, .if_icmp .ne 54, 3), (35, .aload_n 0, 1), (36, .getfield 21, 3), (39, .bipush 14, 2), (41, .dup2, 1), (42, .iaload, 1), (43, .aload_n 0, 1), (44, .invokevirtual 232, 3), (47, .iadd, 1), (48, .iastore, 1), (49, .aload_n 0, 1), (50, .getfield 21, 3), (53, .bipush 12, 2), (55, .dup2, 1), (56, .iaload, 1), (57, .iconst 1, 1), (58, .iadd, 1), (59, .iastore, 1), (60, .aload_n 0, 1), (61, .getfield 21, 3), (64, .bipush 9, 2), (66, .iconst 0, 1), (67, .iastore, 1), (68, .aload_n 0, 1), (69, .getfield 21, 3), (72, .bipush 13, 2), (74, .iconst 0, 1), (75, .iastore, 1), (76, .aload_n 0, 1)]
theorem dcX11_does_0 : tbX11_does_0.all (fun q => decide (decode cX11_does q.1 = .ok q.2)) = true := by decide +kernel
def tbX11_does_1 : List (Nat × Instr × Nat) := [(77, .bipush 6, 2), (79, .bipush 10, 2), (81, .invokevirtual 235, 3), (84, .iconst 1, 1), (85, .ireturn, 1), (86, .aload_n 0, 1), (87, .iconst 5, 1), (88, .invokevirtual 200, 3), (91, .istore 4, 2), (93, .iload_n 3, 1), (94, .tableswitch 142 0 2 #[70, 26, 102], 26), (120, .aload_n 0, 1), (121, .iload_n 2, 1), (122, .bipush (-5), 2), (124, .invokevirtual 235, 3), (127, .aload_n 0, 1), (128, .bipush 8, 2), (130, .iconst 1, 1), (131, .invokevirtual 235, 3), (134, .aload_n 0, 1), (135, .getfield 21, 3), (138, .bipush 9, 2), (140, .iconst 0, 1), (141, .iastore, 1), (142, .aload_n 0, 1), (143, .getfield 21, 3), (146, .bipush 13, 2), (148, .iconst 0, 1), (149, .iastore, 1), (150, .aload_n 0, 1), (151, .getfield 21, 3), (154, .bipush 12, 2), (156, .dup2, 1), (157, .iaload, 1), (158, .iconst 1, 1), (159, .iadd, 1), (160, .iastore, 1), (161, .goto 90, 3), (164, .iload_n 1, 1), (165, .bipush 7, 2), (167, .if_icmp .eq 18, 3), (170, .aload_n 0, 1), (171, .iload_n 2, 1), (172, .iload 4, 2), (174, .ineg, 1), (175, .invokevirtual 235, 3), (178, .aload_n 0, 1), (179, .bipush 9, 2)]
theorem dcX11_does_1 : tbX11_does_1.all (fun q => decide (decode cX11_does q.1 = .ok q.2)) = true := by decide +kernel
def tbX11_does_2 : List (Nat × Instr × Nat) := [(181, .iconst 1, 1), (182, .invokevirtual 235, 3), (185, .aload_n 0, 1), (186, .getfield 21, 3), (189, .bipush 13, 2), (191, .iconst 0, 1), (192, .iastore, 1), (193, .goto 58, 3), (196, .aload_n 0, 1), (197, .getfield 21, 3), (200, .bipush 12, 2), (202, .iaload, 1), (203, .ifCond .le 14, 3), (206, .aload_n 0, 1), (207, .getfield 21, 3), (210, .bipush 12, 2), (212, .dup2, 1), (213, .iaload, 1), (214, .iconst 1, 1), (215, .isub, 1), (216, .iastore, 1), (217, .aload_n 0, 1), (218, .getfield 21, 3), (221, .bipush 9, 2), (223, .iconst 0, 1), (224, .iastore, 1), (225, .aload_n 0, 1), (226, .getfield 21, 3), (229, .bipush 13, 2), (231, .iconst 0, 1), (232, .iastore, 1), (233, .goto 18, 3), (236, .aload_n 0, 1), (237, .getfield 21, 3), (240, .bipush 13, 2), (242, .iconst 1, 1), (243, .iastore, 1), (244, .aload_n 0, 1), (245, .bipush 8, 2), (247, .iconst (-1), 1), (248, .invokevirtual 235, 3), (251, .aload_n 0, 1), (252, .iload_n 1, 1), (253, .iload_n 3, 1), (254, .iconst 1, 1), (255, .if_icmp .ne 7, 3), (258, .iconst 1, 1), (259, .goto 4, 3)]
theorem dcX11_does_2 : tbX11_does_2.all (fun q => decide (decode cX11_does q.1 = .ok q.2)) = true := by decide +kernel
def tbX11_does_3 : List (Nat × Instr × Nat) := [(262, .iconst 0, 1), (263, .iload_n 2, 1), (264, .invokevirtual 239, 3), (267, .aload_n 0, 1), (268, .getfield 21, 3), (271, .bipush 14, 2), (273, .dup2, 1), (274, .iaload, 1), (275, .iconst 1, 1), (276, .iadd, 1), (277, .iastore, 1), (278, .iload_n 3, 1), (279, .ireturn, 1)]
theorem dcX11_does_3 : tbX11_does_3.all (fun q => decide (decode cX11_does q.1 = .ok q.2)) = true := by decide +kernel
def tbX11_driven_0 : List (Nat × Instr × Nat) := [(0, .iload_n 1, 1), (1, .iconst 4, 1), (2, .if_icmp .ne 26, 3), (5, .aload_n 0, 1), (6, .bipush 6, 2), (8, .iload_n 2, 1), (9, .ifCond .eq 7, 3), (12, .iconst (-1), 1), (13, .goto 4, 3), (16, .iconst 5, 1), (17, .invokevirtual 235, 3), (20, .aload_n 0, 1), (21, .bipush 7, 2), (23, .bipush (-3), 2), (25, .invokevirtual 235, 3), (28, .iload_n 1, 1), (29, .iconst 5, 1), (30, .if_icmp .ne 19, 3), (33, .aload_n 0, 1), (34, .bipush 10, 2), (36, .bipush (-5), 2), (38, .invokevirtual 235, 3), (41, .aload_n 0, 1), (42, .bipush 11, 2), (44, .bipush (-5), 2), (46, .invokevirtual 235, 3), (49, .iload_n 1, 1), (50, .bipush 7, 2), (52, .if_icmp .ne 21, 3), (55, .iload_n 2, 1), (56, .ifCond .ne 17, 3), (59, .aload_n 0, 1), (60, .iload_n 3, 1), (61, .iconst 3, 1), (62, .invokevirtual 235, 3), (65, .aload_n 0, 1), (66, .bipush 6, 2), (68, .bipush (-2), 2), (70, .invokevirtual 235, 3), (73, .iload_n 1, 1), (74, .iconst 1, 1), (75, .if_icmp .ne 14, 3), (78, .iload_n 2, 1), (79, .ifCond .ne 10, 3), (82, .aload_n 0, 1), (83, .bipush 6, 2), (85, .iconst (-1), 1), (86, .invokevirtual 235, 3)]
theorem dcX11_driven_0 : tbX11_driven_0.all (fun q => decide (decode cX11_driven q.1 = .ok q.2)) = true := by decide +kernel
def tbX11_driven_1 : List (Nat × Instr × Nat) := [(89, .return_, 1)]
theorem dcX11_driven_1 : tbX11_driven_1.all (fun q => decide (decode cX11_driven q.1 = .ok q.2)) = true := by decide +kernel
def tbX11_go_0 : List (Nat × Instr × Nat) := [(0, .iload_n 1, 1), (1, .invokestatic 221, 3), (4, .ifCond .ne 5, 3), (7, .iconst (-1), 1), (8, .ireturn, 1), (9, .aload_n 0, 1), (10, .getfield 21, 3), (13, .bipush 14, 2), (15, .iaload, 1), (16, .iload_n 1, 1), (17, .bipush 6, 2), (19, .if_icmp .ne 10, 3), (22, .aload_n 0, 1), (23, .invokevirtual 232, 3), (26, .goto 4, 3), (29, .iconst 1, 1), (30, .iadd, 1), (31, .sipush 9999, 3), (34, .if_icmp .le 6, 3), (37, .bipush (-3), 2), (39, .ireturn, 1), (40, .aload_n 0, 1), (41, .iload_n 1, 1), (42, .invokevirtual 243, 3), (45, .ireturn, 1)]
theorem dcX11_go_0 : tbX11_go_0.all (fun q => decide (decode cX11_go q.1 = .ok q.2)) = true := by decide +kernel
def tbX11_row_0 : List (Nat × Instr × Nat) := [(0, .iload_n 1, 1), (1, .iconst (-1), 1), (2, .if_icmp .ne 10, 3), (5, .aload_n 0, 1), (6, .iconst 0, 1), (7, .putfield 246, 3), (10, .iconst 0, 1), (11, .ireturn, 1), (12, .iload_n 1, 1), (13, .invokestatic 221, 3), (16, .ifCond .ne 5, 3), (19, .iconst (-1), 1), (20, .ireturn, 1), (21, .aload_n 0, 1), (22, .getfield 246, 3), (25, .bipush 12, 2), (27, .if_icmp .ne 6, 3), (30, .bipush (-4), 2), (32, .ireturn, 1), (33, .aload_n 0, 1), (34, .getfield 66, 3), (37, .aload_n 0, 1), (38, .getfield 246, 3), (41, .iload_n 1, 1), (42, .iastore, 1), (43, .aload_n 0, 1), (44, .dup, 1), (45, .getfield 246, 3), (48, .iconst 1, 1), (49, .iadd, 1), (50, .putfield 246, 3), (53, .aload_n 0, 1), (54, .getfield 246, 3), (57, .ireturn, 1)]
theorem dcX11_row_0 : tbX11_row_0.all (fun q => decide (decode cX11_row q.1 = .ok q.2)) = true := by decide +kernel
def tbX11_keepNow_0 : List (Nat × Instr × Nat) := [(0, .iconst 0, 1), (1, .istore_n 1, 1), (2, .iload_n 1, 1), (3, .bipush 15, 2), (5, .if_icmp .ge 21, 3), (8, .aload_n 0, 1), (9, .getfield 69, 3), (12, .iload_n 1, 1), (13, .aload_n 0, 1), (14, .getfield 21, 3), (17, .iload_n 1, 1), (18, .iaload, 1), (19, .iastore, 1), (20, .iinc 1 1, 3), (23, .goto (-21), 3), (26, .return_, 1)]
theorem dcX11_keepNow_0 : tbX11_keepNow_0.all (fun q => decide (decode cX11_keepNow q.1 = .ok q.2)) = true := by decide +kernel
def tbX11_layBack_0 : List (Nat × Instr × Nat) := [(0, .iconst 0, 1), (1, .istore_n 1, 1), (2, .iload_n 1, 1), (3, .bipush 15, 2), (5, .if_icmp .ge 21, 3), (8, .aload_n 0, 1), (9, .getfield 21, 3), (12, .iload_n 1, 1), (13, .aload_n 0, 1), (14, .getfield 69, 3), (17, .iload_n 1, 1), (18, .iaload, 1), (19, .iastore, 1), (20, .iinc 1 1, 3), (23, .goto (-21), 3), (26, .return_, 1)]
theorem dcX11_layBack_0 : tbX11_layBack_0.all (fun q => decide (decode cX11_layBack q.1 = .ok q.2)) = true := by decide +kernel
def tbX11_hand_0 : List (Nat × Instr × Nat) := [(0, .iload_n 2, 1), (1, .iconst 0, 1), (2, .bipush 15, 2), (4, .invokestatic 112, 3), (7, .ifCond .ne 5, 3), (10, .iconst (-1), 1), (11, .ireturn, 1), (12, .iload_n 1, 1), (13, .iconst 0, 1), (14, .aload_n 0, 1), (15, .getfield 246, 3), (18, .invokestatic 112, 3), (21, .ifCond .ne 6, 3), (24, .bipush (-2), 2), (26, .ireturn, 1), (27, .aload_n 0, 1), (28, .invokevirtual 249, 3), (31, .iconst 0, 1), (32, .istore_n 3, 1), (33, .iload_n 3, 1), (34, .iload_n 1, 1), (35, .if_icmp .ge 20, 3), (38, .aload_n 0, 1), (39, .aload_n 0, 1), (40, .getfield 66, 3), (43, .iload_n 3, 1), (44, .iaload, 1), (45, .invokevirtual 243, 3), (48, .pop, 1), (49, .iinc 3 1, 3), (52, .goto (-19), 3), (55, .aload_n 0, 1), (56, .iload_n 2, 1), (57, .invokevirtual 128, 3), (60, .istore_n 3, 1), (61, .aload_n 0, 1), (62, .invokevirtual 252, 3), (65, .iload_n 3, 1), (66, .ireturn, 1)]
theorem dcX11_hand_0 : tbX11_hand_0.all (fun q => decide (decode cX11_hand q.1 = .ok q.2)) = true := by decide +kernel
def tbX11_actOf_0 : List (Nat × Instr × Nat) := [(0, .iload_n 0, 1), (1, .istore_n 3, 1), (2, .iload_n 2, 1), (3, .iconst 1, 1), (4, .isub, 1), (5, .istore 4, 2), (7, .iload 4, 2), (9, .iload_n 1, 1), (10, .if_icmp .le 14, 3), (13, .iload_n 3, 1), (14, .bipush 7, 2), (16, .idiv, 1), (17, .istore_n 3, 1), (18, .iinc 4 (-1), 3), (21, .goto (-14), 3), (24, .iload_n 3, 1), (25, .bipush 7, 2), (27, .irem, 1), (28, .bipush 6, 2), (30, .if_icmp .ne 8, 3), (33, .bipush 7, 2), (35, .goto 7, 3), (38, .iload_n 3, 1), (39, .bipush 7, 2), (41, .irem, 1), (42, .ireturn, 1)]
theorem dcX11_actOf_0 : tbX11_actOf_0.all (fun q => decide (decode cX11_actOf q.1 = .ok q.2)) = true := by decide +kernel
def tbX11_rowsOf_0 : List (Nat × Instr × Nat) := [(0, .iconst 1, 1), (1, .istore_n 1, 1), (2, .iconst 0, 1), (3, .istore_n 2, 1), (4, .iload_n 2, 1), (5, .iload_n 0, 1), (6, .if_icmp .ge 14, 3), (9, .iload_n 1, 1), (10, .bipush 7, 2), (12, .imul, 1), (13, .istore_n 1, 1), (14, .iinc 2 1, 3), (17, .goto (-13), 3), (20, .iload_n 1, 1), (21, .ireturn, 1)]
theorem dcX11_rowsOf_0 : tbX11_rowsOf_0.all (fun q => decide (decode cX11_rowsOf q.1 = .ok q.2)) = true := by decide +kernel
def tbX11_atBehind_0 : List (Nat × Instr × Nat) := [(0, .aload_n 0, 1), (1, .invokevirtual 249, 3), (4, .iconst 0, 1), (5, .istore_n 3, 1), (6, .iload_n 3, 1), (7, .iload_n 2, 1), (8, .if_icmp .ge 20, 3), (11, .aload_n 0, 1), (12, .iload_n 1, 1), (13, .iload_n 3, 1), (14, .iload_n 2, 1), (15, .invokestatic 255, 3), (18, .invokevirtual 243, 3), (21, .pop, 1), (22, .iinc 3 1, 3), (25, .goto (-19), 3), (28, .aload_n 0, 1), (29, .getfield 21, 3), (32, .bipush 12, 2), (34, .iaload, 1), (35, .istore_n 3, 1), (36, .aload_n 0, 1), (37, .aload_n 0, 1), (38, .invokevirtual 124, 3), (41, .putfield 259, 3), (44, .aload_n 0, 1), (45, .invokevirtual 252, 3), (48, .iload_n 3, 1), (49, .ireturn, 1)]
theorem dcX11_atBehind_0 : tbX11_atBehind_0.all (fun q => decide (decode cX11_atBehind q.1 = .ok q.2)) = true := by decide +kernel
def tbX11_soonest_0 : List (Nat × Instr × Nat) := [(0, .iload_n 2, 1), (1, .iconst (-1), 1), (2, .iconst 3, 1), (3, .invokestatic 112, 3), (6, .ifCond .ne 5, 3), (9, .iconst (-1), 1), (10, .ireturn, 1), (11, .iload_n 1, 1), (12, .iconst 0, 1), (13, .iconst 4, 1), (14, .invokestatic 112, 3), (17, .ifCond .ne 6, 3), (20, .bipush (-2), 2), (22, .ireturn, 1), (23, .aload_n 0, 1), (24, .invokevirtual 203, 3), (27, .ifCond .eq 6, 3), (30, .bipush (-3), 2), (32, .ireturn, 1), (33, .iconst 1, 1), (34, .istore_n 3, 1), (35, .iload_n 3, 1), (36, .iload_n 1, 1), (37, .if_icmp .gt 75, 3), (40, .iconst 0, 1), (41, .istore 4, 2), (43, .iload 4, 2), (45, .iload_n 3, 1), (46, .invokestatic 262, 3), (49, .if_icmp .ge 57, 3), (52, .aload_n 0, 1), (53, .iload 4, 2), (55, .iload_n 3, 1), (56, .invokevirtual 265, 3), (59, .aload_n 0, 1), (60, .getfield 21, 3), (63, .bipush 12, 2), (65, .iaload, 1), (66, .iconst 1, 1), (67, .iadd, 1), (68, .if_icmp .eq 6, 3), (71, .goto 29, 3), (74, .iload_n 2, 1), (75, .ifCond .ge 7, 3), (78, .iload_n 3, 1), (79, .goto 20, 3), (82, .iload_n 2, 1), (83, .iload_n 3, 1)]
theorem dcX11_soonest_0 : tbX11_soonest_0.all (fun q => decide (decode cX11_soonest q.1 = .ok q.2)) = true := by decide +kernel
def tbX11_soonest_1 : List (Nat × Instr × Nat) := [(84, .if_icmp .ge 13, 3), (87, .iload 4, 2), (89, .iload_n 2, 1), (90, .iload_n 3, 1), (91, .invokestatic 255, 3), (94, .goto 5, 3), (97, .bipush (-5), 2), (99, .ireturn, 1), (100, .iinc 4 1, 3), (103, .goto (-60), 3), (106, .iinc 3 1, 3), (109, .goto (-74), 3), (112, .bipush (-5), 2), (114, .ireturn, 1)]
theorem dcX11_soonest_1 : tbX11_soonest_1.all (fun q => decide (decode cX11_soonest q.1 = .ok q.2)) = true := by decide +kernel
def tbX11_gentlest_0 : List (Nat × Instr × Nat) := [(0, .iload_n 1, 1), (1, .iconst 1, 1), (2, .iconst 4, 1), (3, .invokestatic 112, 3), (6, .ifCond .ne 6, 3), (9, .bipush (-2), 2), (11, .ireturn, 1), (12, .iload_n 2, 1), (13, .iconst (-1), 1), (14, .iload_n 1, 1), (15, .iconst 1, 1), (16, .isub, 1), (17, .invokestatic 112, 3), (20, .ifCond .ne 5, 3), (23, .iconst (-1), 1), (24, .ireturn, 1), (25, .aload_n 0, 1), (26, .invokevirtual 203, 3), (29, .ifCond .eq 6, 3), (32, .bipush (-3), 2), (34, .ireturn, 1), (35, .iconst (-1), 1), (36, .istore_n 3, 1), (37, .iconst 0, 1), (38, .istore 4, 2), (40, .iconst 0, 1), (41, .istore 5, 2), (43, .iload 5, 2), (45, .iload_n 1, 1), (46, .invokestatic 262, 3), (49, .if_icmp .ge 51, 3), (52, .aload_n 0, 1), (53, .iload 5, 2), (55, .iload_n 1, 1), (56, .invokevirtual 265, 3), (59, .aload_n 0, 1), (60, .getfield 21, 3), (63, .bipush 12, 2), (65, .iaload, 1), (66, .if_icmp .le 28, 3), (69, .iload_n 3, 1), (70, .ifCond .lt 15, 3), (73, .aload_n 0, 1), (74, .getfield 259, 3), (77, .iload 4, 2), (79, .if_icmp .lt 6, 3), (82, .goto 12, 3), (85, .iload 5, 2)]
theorem dcX11_gentlest_0 : tbX11_gentlest_0.all (fun q => decide (decode cX11_gentlest q.1 = .ok q.2)) = true := by decide +kernel
def tbX11_gentlest_1 : List (Nat × Instr × Nat) := [(87, .istore_n 3, 1), (88, .aload_n 0, 1), (89, .getfield 259, 3), (92, .istore 4, 2), (94, .iinc 5 1, 3), (97, .goto (-54), 3), (100, .iload_n 3, 1), (101, .ifCond .ge 8, 3), (104, .bipush (-5), 2), (106, .goto 18, 3), (109, .iload_n 2, 1), (110, .ifCond .ge 8, 3), (113, .iload 4, 2), (115, .goto 9, 3), (118, .iload_n 3, 1), (119, .iload_n 2, 1), (120, .iload_n 1, 1), (121, .invokestatic 255, 3), (124, .ireturn, 1)]
theorem dcX11_gentlest_1 : tbX11_gentlest_1.all (fun q => decide (decode cX11_gentlest q.1 = .ok q.2)) = true := by decide +kernel
def tbX11_why_0 : List (Nat × Instr × Nat) := [(0, .aload_n 0, 1), (1, .invokevirtual 203, 3), (4, .ifCond .ne 12, 3), (7, .aload_n 0, 1), (8, .iconst 0, 1), (9, .invokevirtual 229, 3), (12, .iconst 1, 1), (13, .if_icmp .ne 6, 3), (16, .bipush (-5), 2), (18, .ireturn, 1), (19, .iconst 0, 1), (20, .istore_n 1, 1), (21, .iconst 1, 1), (22, .istore_n 2, 1), (23, .iload_n 2, 1), (24, .bipush 6, 2), (26, .if_icmp .gt 26, 3), (29, .aload_n 0, 1), (30, .iload_n 2, 1), (31, .iconst 0, 1), (32, .invokevirtual 215, 3), (35, .aload_n 0, 1), (36, .iload_n 1, 1), (37, .iconst 0, 1), (38, .invokevirtual 215, 3), (41, .if_icmp .le 5, 3), (44, .iload_n 2, 1), (45, .istore_n 1, 1), (46, .iinc 2 1, 3), (49, .goto (-26), 3), (52, .iload_n 1, 1), (53, .ireturn, 1)]
theorem dcX11_why_0 : tbX11_why_0.all (fun q => decide (decode cX11_why q.1 = .ok q.2)) = true := by decide +kernel
def tbX11_waitsFor_0 : List (Nat × Instr × Nat) := [(0, .aload_n 0, 1), (1, .invokevirtual 249, 3), (4, .bipush (-5), 2), (6, .istore_n 1, 1), (7, .iconst 1, 1), (8, .istore_n 2, 1), (9, .iload_n 2, 1), (10, .bipush 60, 2), (12, .if_icmp .gt 40, 3), (15, .iload_n 1, 1), (16, .ifCond .ge 36, 3), (19, .aload_n 0, 1), (20, .iconst 0, 1), (21, .invokevirtual 243, 3), (24, .pop, 1), (25, .aload_n 0, 1), (26, .getfield 21, 3), (29, .bipush 12, 2), (31, .iaload, 1), (32, .aload_n 0, 1), (33, .getfield 69, 3), (36, .bipush 12, 2), (38, .iaload, 1), (39, .iconst 1, 1), (40, .iadd, 1), (41, .if_icmp .ne 5, 3), (44, .iload_n 2, 1), (45, .istore_n 1, 1), (46, .iinc 2 1, 3), (49, .goto (-40), 3), (52, .aload_n 0, 1), (53, .invokevirtual 252, 3), (56, .iload_n 1, 1), (57, .ireturn, 1)]
theorem dcX11_waitsFor_0 : tbX11_waitsFor_0.all (fun q => decide (decode cX11_waitsFor q.1 = .ok q.2)) = true := by decide +kernel
def tbX11_waits_0 : List (Nat × Instr × Nat) := [(0, .aload_n 0, 1), (1, .invokevirtual 203, 3), (4, .ifCond .eq 8, 3), (7, .bipush (-3), 2), (9, .goto 7, 3), (12, .aload_n 0, 1), (13, .invokevirtual 268, 3), (16, .ireturn, 1)]
theorem dcX11_waits_0 : tbX11_waits_0.all (fun q => decide (decode cX11_waits q.1 = .ok q.2)) = true := by decide +kernel
def tbX11_round_0 : List (Nat × Instr × Nat) := [(0, .aload_n 0, 1), (1, .invokevirtual 203, 3), (4, .ifCond .eq 6, 3), (7, .bipush (-3), 2), (9, .ireturn, 1), (10, .aload_n 0, 1), (11, .invokevirtual 268, 3), (14, .istore_n 1, 1), (15, .iload_n 1, 1), (16, .ifCond .lt 11, 3), (19, .aload_n 0, 1), (20, .invokevirtual 232, 3), (23, .iload_n 1, 1), (24, .if_icmp .ge 7, 3), (27, .iconst 1, 1), (28, .goto 4, 3), (31, .iconst 0, 1), (32, .ireturn, 1)]
theorem dcX11_round_0 : tbX11_round_0.all (fun q => decide (decode cX11_round q.1 = .ok q.2)) = true := by decide +kernel
def tbX11_shiftLoad_0 : List (Nat × Instr × Nat) := [(0, .aload_n 0, 1), (1, .invokevirtual 203, 3), (4, .ifCond .eq 6, 3), (7, .ldc 225, 2), (9, .ireturn, 1), (10, .iconst 0, 1), (11, .istore_n 1, 1), (12, .aload_n 0, 1), (13, .iconst 2, 1), (14, .invokevirtual 206, 3), (17, .istore_n 2, 1), (18, .aload_n 0, 1), (19, .getfield 21, 3), (22, .bipush 10, 2), (24, .iaload, 1), (25, .istore_n 3, 1), (26, .aload_n 0, 1), (27, .getfield 21, 3), (30, .bipush 11, 2), (32, .iaload, 1), (33, .istore 4, 2), (35, .iconst 1, 1), (36, .istore 5, 2), (38, .iload 5, 2), (40, .bipush 99, 2), (42, .if_icmp .gt 114, 3), (45, .iconst 1, 1), (46, .istore 6, 2), (48, .iload 6, 2), (50, .iconst (-1), 1), (51, .if_icmp .lt 99, 3), (54, .iload_n 3, 1), (55, .iload 6, 2), (57, .iload 5, 2), (59, .imul, 1), (60, .isub, 1), (61, .iconst 0, 1), (62, .bipush 99, 2), (64, .invokestatic 112, 3), (67, .ifCond .eq 77, 3), (70, .iload 4, 2), (72, .iload 6, 2), (74, .iload 5, 2), (76, .imul, 1), (77, .iadd, 1), (78, .iconst 0, 1), (79, .bipush 99, 2), (81, .invokestatic 112, 3)]
theorem dcX11_shiftLoad_0 : tbX11_shiftLoad_0.all (fun q => decide (decode cX11_shiftLoad q.1 = .ok q.2)) = true := by decide +kernel
def tbX11_shiftLoad_1 : List (Nat × Instr × Nat) := [(84, .ifCond .ne 6, 3), (87, .goto 57, 3), (90, .aload_n 0, 1), (91, .getfield 21, 3), (94, .bipush 10, 2), (96, .iload_n 3, 1), (97, .iload 6, 2), (99, .iload 5, 2), (101, .imul, 1), (102, .isub, 1), (103, .iastore, 1), (104, .aload_n 0, 1), (105, .getfield 21, 3), (108, .bipush 11, 2), (110, .iload 4, 2), (112, .iload 6, 2), (114, .iload 5, 2), (116, .imul, 1), (117, .iadd, 1), (118, .iastore, 1), (119, .aload_n 0, 1), (120, .iconst 2, 1), (121, .invokevirtual 206, 3), (124, .istore 7, 2), (126, .iload 7, 2), (128, .iload_n 2, 1), (129, .if_icmp .lt 6, 3), (132, .goto 12, 3), (135, .iload 6, 2), (137, .iload 5, 2), (139, .imul, 1), (140, .istore_n 1, 1), (141, .iload 7, 2), (143, .istore_n 2, 1), (144, .iinc 6 (-2), 3), (147, .goto (-99), 3), (150, .iinc 5 1, 3), (153, .goto (-115), 3), (156, .aload_n 0, 1), (157, .getfield 21, 3), (160, .bipush 10, 2), (162, .iload_n 3, 1), (163, .iastore, 1), (164, .aload_n 0, 1), (165, .getfield 21, 3), (168, .bipush 11, 2), (170, .iload 4, 2), (172, .iastore, 1)]
theorem dcX11_shiftLoad_1 : tbX11_shiftLoad_1.all (fun q => decide (decode cX11_shiftLoad q.1 = .ok q.2)) = true := by decide +kernel
def tbX11_shiftLoad_2 : List (Nat × Instr × Nat) := [(173, .iload_n 1, 1), (174, .ireturn, 1)]
theorem dcX11_shiftLoad_2 : tbX11_shiftLoad_2.all (fun q => decide (decode cX11_shiftLoad q.1 = .ok q.2)) = true := by decide +kernel
def tbX11_wander_0 : List (Nat × Instr × Nat) := [(0, .iload_n 1, 1), (1, .iconst 0, 1), (2, .bipush 10, 2), (4, .invokestatic 112, 3), (7, .ifCond .ne 6, 3), (10, .bipush (-2), 2), (12, .ireturn, 1), (13, .aload_n 0, 1), (14, .getfield 271, 3), (17, .istore_n 2, 1), (18, .aload_n 0, 1), (19, .iload_n 1, 1), (20, .putfield 271, 3), (23, .iload_n 2, 1), (24, .ireturn, 1)]
theorem dcX11_wander_0 : tbX11_wander_0.all (fun q => decide (decode cX11_wander q.1 = .ok q.2)) = true := by decide +kernel
def tbX11_lowest_0 : List (Nat × Instr × Nat) := [(0, .lload_n 0, 1), (1, .lconst 0, 1), (2, .lcmp, 1), (3, .ifCond .ne 14, 3), (6, .iload 4, 2), (8, .ifCond .eq 7, 3), (11, .lconst 0, 1), (12, .goto 4, 3), (15, .lconst 1, 1), (16, .lreturn, 1), (17, .lload_n 0, 1), (18, .lstore 5, 2), (20, .lload_n 2, 1), (21, .lstore 7, 2), (23, .lload 7, 2), (25, .lconst 0, 1), (26, .lcmp, 1), (27, .ifCond .eq 21, 3), (30, .lload 5, 2), (32, .lload 7, 2), (34, .lrem, 1), (35, .lstore 9, 2), (37, .lload 7, 2), (39, .lstore 5, 2), (41, .lload 9, 2), (43, .lstore 7, 2), (45, .goto (-22), 3), (48, .iload 4, 2), (50, .ifCond .eq 10, 3), (53, .lload_n 0, 1), (54, .lload 5, 2), (56, .ldiv, 1), (57, .goto 7, 3), (60, .lload_n 2, 1), (61, .lload 5, 2), (63, .ldiv, 1), (64, .lreturn, 1)]
theorem dcX11_lowest_0 : tbX11_lowest_0.all (fun q => decide (decode cX11_lowest q.1 = .ok q.2)) = true := by decide +kernel
def tbX11_sure_0 : List (Nat × Instr × Nat) := [(0, .iload_n 1, 1), (1, .iconst 1, 1), (2, .bipush 6, 2), (4, .invokestatic 112, 3), (7, .ifCond .eq 20, 3), (10, .iload_n 1, 1), (11, .aload_n 0, 1), (12, .getfield 246, 3), (15, .if_icmp .gt 12, 3), (18, .iload_n 2, 1), (19, .iconst 0, 1), (20, .iconst 1, 1), (21, .invokestatic 112, 3), (24, .ifCond .ne 7, 3), (27, .ldc2_w 274, 3), (30, .lreturn, 1), (31, .lconst 0, 1), (32, .lstore_n 3, 1), (33, .lconst 1, 1), (34, .lstore 5, 2), (36, .iconst 0, 1), (37, .istore 7, 2), (39, .iload 7, 2), (41, .iload_n 1, 1), (42, .if_icmp .ge 17, 3), (45, .lload 5, 2), (47, .ldc2_w 276, 3), (50, .lmul, 1), (51, .lstore 5, 2), (53, .iinc 7 1, 3), (56, .goto (-17), 3), (59, .iconst 0, 1), (60, .istore 7, 2), (62, .iload 7, 2), (64, .iconst 1, 1), (65, .iload_n 1, 1), (66, .ishl, 1), (67, .if_icmp .ge 145, 3), (70, .aload_n 0, 1), (71, .invokevirtual 249, 3), (74, .lconst 1, 1), (75, .lstore 8, 2), (77, .iconst 0, 1), (78, .istore 10, 2), (80, .iload 10, 2), (82, .iload_n 1, 1), (83, .if_icmp .ge 92, 3), (86, .iload 7, 2)]
theorem dcX11_sure_0 : tbX11_sure_0.all (fun q => decide (decode cX11_sure q.1 = .ok q.2)) = true := by decide +kernel
def tbX11_sure_1 : List (Nat × Instr × Nat) := [(88, .iload 10, 2), (90, .ishr, 1), (91, .iconst 1, 1), (92, .iand, 1), (93, .iconst 1, 1), (94, .if_icmp .ne 7, 3), (97, .iconst 1, 1), (98, .goto 4, 3), (101, .iconst 0, 1), (102, .istore 11, 2), (104, .aload_n 0, 1), (105, .iload 11, 2), (107, .ifCond .eq 20, 3), (110, .aload_n 0, 1), (111, .getfield 66, 3), (114, .iload 10, 2), (116, .iaload, 1), (117, .bipush 6, 2), (119, .if_icmp .eq 8, 3), (122, .bipush 10, 2), (124, .goto 4, 3), (127, .iconst 0, 1), (128, .putfield 218, 3), (131, .lload 8, 2), (133, .iload 11, 2), (135, .ifCond .eq 11, 3), (138, .aload_n 0, 1), (139, .getfield 271, 3), (142, .i2l, 1), (143, .goto 11, 3), (146, .bipush 10, 2), (148, .aload_n 0, 1), (149, .getfield 271, 3), (152, .isub, 1), (153, .i2l, 1), (154, .lmul, 1), (155, .lstore 8, 2), (157, .aload_n 0, 1), (158, .aload_n 0, 1), (159, .getfield 66, 3), (162, .iload 10, 2), (164, .iaload, 1), (165, .invokevirtual 243, 3), (168, .pop, 1), (169, .iinc 10 1, 3), (172, .goto (-92), 3), (175, .aload_n 0, 1), (176, .iconst 0, 1)]
theorem dcX11_sure_1 : tbX11_sure_1.all (fun q => decide (decode cX11_sure q.1 = .ok q.2)) = true := by decide +kernel
def tbX11_sure_2 : List (Nat × Instr × Nat) := [(177, .putfield 218, 3), (180, .aload_n 0, 1), (181, .getfield 21, 3), (184, .bipush 12, 2), (186, .iaload, 1), (187, .aload_n 0, 1), (188, .getfield 69, 3), (191, .bipush 12, 2), (193, .iaload, 1), (194, .if_icmp .le 8, 3), (197, .lload_n 3, 1), (198, .lload 8, 2), (200, .ladd, 1), (201, .lstore_n 3, 1), (202, .aload_n 0, 1), (203, .invokevirtual 252, 3), (206, .iinc 7 1, 3), (209, .goto (-147), 3), (212, .lload_n 3, 1), (213, .lload 5, 2), (215, .iload_n 2, 1), (216, .ifCond .ne 7, 3), (219, .iconst 1, 1), (220, .goto 4, 3), (223, .iconst 0, 1), (224, .invokestatic 278, 3), (227, .lreturn, 1)]
theorem dcX11_sure_2 : tbX11_sure_2.all (fun q => decide (decode cX11_sure q.1 = .ok q.2)) = true := by decide +kernel
def tbX11_days_0 : List (Nat × Instr × Nat) := [(0, .iload_n 2, 1), (1, .iconst 0, 1), (2, .iconst 2, 1), (3, .invokestatic 112, 3), (6, .ifCond .ne 5, 3), (9, .iconst (-1), 1), (10, .ireturn, 1), (11, .iload_n 1, 1), (12, .iconst 0, 1), (13, .bipush 99, 2), (15, .invokestatic 112, 3), (18, .ifCond .ne 6, 3), (21, .bipush (-2), 2), (23, .ireturn, 1), (24, .aload_n 0, 1), (25, .invokevirtual 249, 3), (28, .iconst 0, 1), (29, .istore_n 3, 1), (30, .iload_n 3, 1), (31, .iload_n 1, 1), (32, .if_icmp .ge 63, 3), (35, .aload_n 0, 1), (36, .getfield 21, 3), (39, .bipush 12, 2), (41, .iconst 0, 1), (42, .iastore, 1), (43, .aload_n 0, 1), (44, .getfield 21, 3), (47, .bipush 9, 2), (49, .iconst 0, 1), (50, .iastore, 1), (51, .aload_n 0, 1), (52, .getfield 21, 3), (55, .bipush 13, 2), (57, .iconst 0, 1), (58, .iastore, 1), (59, .iconst 0, 1), (60, .istore 4, 2), (62, .iload 4, 2), (64, .aload_n 0, 1), (65, .getfield 246, 3), (68, .if_icmp .ge 21, 3), (71, .aload_n 0, 1), (72, .aload_n 0, 1), (73, .getfield 66, 3), (76, .iload 4, 2), (78, .iaload, 1), (79, .invokevirtual 243, 3)]
theorem dcX11_days_0 : tbX11_days_0.all (fun q => decide (decode cX11_days q.1 = .ok q.2)) = true := by decide +kernel
def tbX11_days_1 : List (Nat × Instr × Nat) := [(82, .pop, 1), (83, .iinc 4 1, 3), (86, .goto (-24), 3), (89, .iinc 3 1, 3), (92, .goto (-62), 3), (95, .iload_n 2, 1), (96, .ifCond .ne 10, 3), (99, .aload_n 0, 1), (100, .invokevirtual 124, 3), (103, .goto 25, 3), (106, .iload_n 2, 1), (107, .iconst 1, 1), (108, .if_icmp .ne 13, 3), (111, .aload_n 0, 1), (112, .getfield 21, 3), (115, .bipush 6, 2), (117, .iaload, 1), (118, .goto 10, 3), (121, .aload_n 0, 1), (122, .getfield 21, 3), (125, .bipush 12, 2), (127, .iaload, 1), (128, .istore_n 3, 1), (129, .aload_n 0, 1), (130, .invokevirtual 252, 3), (133, .iload_n 3, 1), (134, .ireturn, 1)]
theorem dcX11_days_1 : tbX11_days_1.all (fun q => decide (decode cX11_days q.1 = .ok q.2)) = true := by decide +kernel
def tbX11_beast_0 : List (Nat × Instr × Nat) := [(0, .iload_n 1, 1), (1, .iconst (-1), 1), (2, .if_icmp .ne 10, 3), (5, .aload_n 0, 1), (6, .iconst 0, 1), (7, .putfield 282, 3), (10, .iconst 0, 1), (11, .ireturn, 1), (12, .iload_n 1, 1), (13, .iconst 0, 1), (14, .bipush 99, 2), (16, .invokestatic 112, 3), (19, .ifCond .ne 6, 3), (22, .bipush (-2), 2), (24, .ireturn, 1), (25, .aload_n 0, 1), (26, .getfield 282, 3), (29, .iconst 4, 1), (30, .if_icmp .ne 6, 3), (33, .bipush (-4), 2), (35, .ireturn, 1), (36, .aload_n 0, 1), (37, .getfield 72, 3), (40, .aload_n 0, 1), (41, .getfield 282, 3), (44, .iload_n 1, 1), (45, .iastore, 1), (46, .aload_n 0, 1), (47, .dup, 1), (48, .getfield 282, 3), (51, .iconst 1, 1), (52, .iadd, 1), (53, .putfield 282, 3), (56, .aload_n 0, 1), (57, .getfield 282, 3), (60, .ireturn, 1)]
theorem dcX11_beast_0 : tbX11_beast_0.all (fun q => decide (decode cX11_beast q.1 = .ok q.2)) = true := by decide +kernel
def tbX11_string_0 : List (Nat × Instr × Nat) := [(0, .iload_n 1, 1), (1, .iconst 0, 1), (2, .iconst 2, 1), (3, .invokestatic 112, 3), (6, .ifCond .ne 5, 3), (9, .iconst (-1), 1), (10, .ireturn, 1), (11, .aload_n 0, 1), (12, .invokevirtual 203, 3), (15, .ifCond .eq 6, 3), (18, .bipush (-3), 2), (20, .ireturn, 1), (21, .aload_n 0, 1), (22, .getfield 282, 3), (25, .ifCond .ne 6, 3), (28, .bipush (-5), 2), (30, .ireturn, 1), (31, .iconst 0, 1), (32, .istore_n 2, 1), (33, .iconst 1, 1), (34, .istore_n 3, 1), (35, .iload_n 3, 1), (36, .aload_n 0, 1), (37, .getfield 282, 3), (40, .if_icmp .ge 26, 3), (43, .aload_n 0, 1), (44, .getfield 72, 3), (47, .iload_n 3, 1), (48, .iaload, 1), (49, .aload_n 0, 1), (50, .getfield 72, 3), (53, .iload_n 2, 1), (54, .iaload, 1), (55, .if_icmp .ge 5, 3), (58, .iload_n 3, 1), (59, .istore_n 2, 1), (60, .iinc 3 1, 3), (63, .goto (-28), 3), (66, .iload_n 1, 1), (67, .ifCond .ne 5, 3), (70, .iload_n 2, 1), (71, .ireturn, 1), (72, .aload_n 0, 1), (73, .getfield 21, 3), (76, .aload_n 0, 1), (77, .getfield 18, 3), (80, .aload_n 0, 1), (81, .getfield 21, 3)]
theorem dcX11_string_0 : tbX11_string_0.all (fun q => decide (decode cX11_string q.1 = .ok q.2)) = true := by decide +kernel
def tbX11_string_1 : List (Nat × Instr × Nat) := [(84, .bipush 12, 2), (86, .iaload, 1), (87, .iaload, 1), (88, .iaload, 1), (89, .aload_n 0, 1), (90, .getfield 72, 3), (93, .iload_n 2, 1), (94, .iaload, 1), (95, .isub, 1), (96, .istore_n 3, 1), (97, .iload_n 3, 1), (98, .ifCond .ge 7, 3), (101, .iconst 0, 1), (102, .goto 7, 3), (105, .iload_n 3, 1), (106, .bipush 10, 2), (108, .idiv, 1), (109, .istore 4, 2), (111, .iload_n 1, 1), (112, .iconst 1, 1), (113, .if_icmp .ne 6, 3), (116, .iload 4, 2), (118, .ireturn, 1), (119, .aload_n 0, 1), (120, .iload 4, 2), (122, .putfield 212, 3), (125, .aload_n 0, 1), (126, .iconst 1, 1), (127, .invokevirtual 229, 3), (130, .iconst 1, 1), (131, .if_icmp .ne 7, 3), (134, .iconst 1, 1), (135, .goto 4, 3), (138, .iconst 0, 1), (139, .istore 5, 2), (141, .aload_n 0, 1), (142, .iconst 0, 1), (143, .putfield 212, 3), (146, .iload 5, 2), (148, .ireturn, 1)]
theorem dcX11_string_1 : tbX11_string_1.all (fun q => decide (decode cX11_string q.1 = .ok q.2)) = true := by decide +kernel
def tbX11_film_0 : List (Nat × Instr × Nat) := [(0, .iload_n 1, 1), (1, .iconst (-1), 1), (2, .if_icmp .ne 10, 3), (5, .aload_n 0, 1), (6, .iconst 0, 1), (7, .putfield 285, 3), (10, .iconst 0, 1), (11, .ireturn, 1), (12, .iload_n 1, 1), (13, .iconst 0, 1), (14, .iconst 3, 1), (15, .invokestatic 112, 3), (18, .ifCond .ne 5, 3), (21, .iconst (-1), 1), (22, .ireturn, 1), (23, .aload_n 0, 1), (24, .getfield 285, 3), (27, .bipush 12, 2), (29, .if_icmp .ne 6, 3), (32, .bipush (-4), 2), (34, .ireturn, 1), (35, .aload_n 0, 1), (36, .getfield 75, 3), (39, .aload_n 0, 1), (40, .getfield 285, 3), (43, .iload_n 1, 1), (44, .iastore, 1), (45, .aload_n 0, 1), (46, .dup, 1), (47, .getfield 285, 3), (50, .iconst 1, 1), (51, .iadd, 1), (52, .putfield 285, 3), (55, .aload_n 0, 1), (56, .getfield 285, 3), (59, .ireturn, 1)]
theorem dcX11_film_0 : tbX11_film_0.all (fun q => decide (decode cX11_film q.1 = .ok q.2)) = true := by decide +kernel
def tbX11_off_0 : List (Nat × Instr × Nat) := [(0, .aload_n 0, 1), (1, .invokevirtual 249, 3), (4, .bipush (-5), 2), (6, .istore_n 1, 1), (7, .iconst 0, 1), (8, .istore_n 2, 1), (9, .iload_n 2, 1), (10, .aload_n 0, 1), (11, .getfield 246, 3), (14, .if_icmp .ge 42, 3), (17, .iload_n 2, 1), (18, .aload_n 0, 1), (19, .getfield 285, 3), (22, .if_icmp .ge 34, 3), (25, .iload_n 1, 1), (26, .ifCond .ge 30, 3), (29, .aload_n 0, 1), (30, .aload_n 0, 1), (31, .getfield 66, 3), (34, .iload_n 2, 1), (35, .iaload, 1), (36, .invokevirtual 243, 3), (39, .aload_n 0, 1), (40, .getfield 75, 3), (43, .iload_n 2, 1), (44, .iaload, 1), (45, .if_icmp .eq 5, 3), (48, .iload_n 2, 1), (49, .istore_n 1, 1), (50, .iinc 2 1, 3), (53, .goto (-44), 3), (56, .aload_n 0, 1), (57, .invokevirtual 252, 3), (60, .iload_n 1, 1), (61, .ireturn, 1)]
theorem dcX11_off_0 : tbX11_off_0.all (fun q => decide (decode cX11_off q.1 = .ok q.2)) = true := by decide +kernel
def tbX11_isTape_0 : List (Nat × Instr × Nat) := [(0, .iload_n 0, 1), (1, .iconst 0, 1), (2, .iconst 5, 1), (3, .invokestatic 112, 3), (6, .ireturn, 1)]
theorem dcX11_isTape_0 : tbX11_isTape_0.all (fun q => decide (decode cX11_isTape q.1 = .ok q.2)) = true := by decide +kernel
def tbX11_judge_0 : List (Nat × Instr × Nat) := [(0, .iload_n 1, 1), (1, .invokestatic 288, 3), (4, .ifCond .ne 5, 3), (7, .iconst (-1), 1), (8, .ireturn, 1), (9, .aload_n 0, 1), (10, .getfield 78, 3), (13, .iload_n 1, 1), (14, .iaload, 1), (15, .ifCond .le 6, 3), (18, .bipush (-12), 2), (20, .ireturn, 1), (21, .aload_n 0, 1), (22, .getfield 246, 3), (25, .ifCond .ne 6, 3), (28, .bipush (-5), 2), (30, .ireturn, 1), (31, .aload_n 0, 1), (32, .getfield 78, 3), (35, .iload_n 1, 1), (36, .iaload, 1), (37, .ifCond .lt 7, 3), (40, .iload_n 2, 1), (41, .ifCond .ge 6, 3), (44, .bipush 100, 2), (46, .ireturn, 1), (47, .aload_n 0, 1), (48, .invokevirtual 249, 3), (51, .bipush (-5), 2), (53, .istore_n 3, 1), (54, .iconst 0, 1), (55, .istore 4, 2), (57, .iload 4, 2), (59, .aload_n 0, 1), (60, .getfield 246, 3), (63, .if_icmp .ge 80, 3), (66, .iload_n 3, 1), (67, .ifCond .ge 76, 3), (70, .iload_n 2, 1), (71, .i2l, 1), (72, .iload 4, 2), (74, .i2l, 1), (75, .ladd, 1), (76, .aload_n 0, 1), (77, .getfield 81, 3), (80, .iload_n 1, 1), (81, .iaload, 1), (82, .i2l, 1)]
theorem dcX11_judge_0 : tbX11_judge_0.all (fun q => decide (decode cX11_judge q.1 = .ok q.2)) = true := by decide +kernel
def tbX11_judge_1 : List (Nat × Instr × Nat) := [(83, .lcmp, 1), (84, .ifCond .lt 12, 3), (87, .bipush 100, 2), (89, .iload 4, 2), (91, .iadd, 1), (92, .istore_n 3, 1), (93, .goto 44, 3), (96, .aload_n 0, 1), (97, .aload_n 0, 1), (98, .getfield 66, 3), (101, .iload 4, 2), (103, .iaload, 1), (104, .invokevirtual 243, 3), (107, .pop, 1), (108, .aload_n 0, 1), (109, .getfield 84, 3), (112, .bipush 60, 2), (114, .iload_n 1, 1), (115, .imul, 1), (116, .iload_n 2, 1), (117, .iadd, 1), (118, .iload 4, 2), (120, .iadd, 1), (121, .laload, 1), (122, .aload_n 0, 1), (123, .getfield 21, 3), (126, .bipush 12, 2), (128, .iaload, 1), (129, .i2l, 1), (130, .lcmp, 1), (131, .ifCond .eq 6, 3), (134, .iload 4, 2), (136, .istore_n 3, 1), (137, .iinc 4 1, 3), (140, .goto (-83), 3), (143, .aload_n 0, 1), (144, .invokevirtual 252, 3), (147, .iload_n 3, 1), (148, .ireturn, 1)]
theorem dcX11_judge_1 : tbX11_judge_1.all (fun q => decide (decode cX11_judge q.1 = .ok q.2)) = true := by decide +kernel
def tbX11_image_0 : List (Nat × Instr × Nat) := [(0, .aload_n 0, 1), (1, .iconst 1, 1), (2, .putfield 291, 3), (5, .aload_n 0, 1), (6, .aload_n 0, 1), (7, .getfield 28, 3), (10, .putfield 295, 3), (13, .aload_n 0, 1), (14, .aload_n 0, 1), (15, .getfield 271, 3), (18, .putfield 298, 3), (21, .aload_n 0, 1), (22, .aload_n 0, 1), (23, .getfield 246, 3), (26, .putfield 301, 3), (29, .aload_n 0, 1), (30, .aload_n 0, 1), (31, .getfield 285, 3), (34, .putfield 304, 3), (37, .aload_n 0, 1), (38, .aload_n 0, 1), (39, .getfield 282, 3), (42, .putfield 307, 3), (45, .iconst 0, 1), (46, .istore_n 1, 1), (47, .iload_n 1, 1), (48, .bipush 15, 2), (50, .if_icmp .ge 21, 3), (53, .aload_n 0, 1), (54, .getfield 91, 3), (57, .iload_n 1, 1), (58, .aload_n 0, 1), (59, .getfield 21, 3), (62, .iload_n 1, 1), (63, .iaload, 1), (64, .iastore, 1), (65, .iinc 1 1, 3), (68, .goto (-21), 3), (71, .iconst 0, 1), (72, .istore_n 1, 1), (73, .iload_n 1, 1), (74, .bipush 12, 2), (76, .if_icmp .ge 33, 3), (79, .aload_n 0, 1), (80, .getfield 94, 3), (83, .iload_n 1, 1), (84, .aload_n 0, 1), (85, .getfield 66, 3)]
theorem dcX11_image_0 : tbX11_image_0.all (fun q => decide (decode cX11_image q.1 = .ok q.2)) = true := by decide +kernel
def tbX11_image_1 : List (Nat × Instr × Nat) := [(88, .iload_n 1, 1), (89, .iaload, 1), (90, .iastore, 1), (91, .aload_n 0, 1), (92, .getfield 97, 3), (95, .iload_n 1, 1), (96, .aload_n 0, 1), (97, .getfield 75, 3), (100, .iload_n 1, 1), (101, .iaload, 1), (102, .iastore, 1), (103, .iinc 1 1, 3), (106, .goto (-33), 3), (109, .iconst 0, 1), (110, .istore_n 1, 1), (111, .iload_n 1, 1), (112, .iconst 4, 1), (113, .if_icmp .ge 21, 3), (116, .aload_n 0, 1), (117, .getfield 100, 3), (120, .iload_n 1, 1), (121, .aload_n 0, 1), (122, .getfield 72, 3), (125, .iload_n 1, 1), (126, .iaload, 1), (127, .iastore, 1), (128, .iinc 1 1, 3), (131, .goto (-20), 3), (134, .aload_n 0, 1), (135, .getfield 21, 3), (138, .bipush 12, 2), (140, .iaload, 1), (141, .ireturn, 1)]
theorem dcX11_image_1 : tbX11_image_1.all (fun q => decide (decode cX11_image q.1 = .ok q.2)) = true := by decide +kernel
def tbX11_undo_0 : List (Nat × Instr × Nat) := [(0, .aload_n 0, 1), (1, .getfield 291, 3), (4, .ifCond .ne 6, 3), (7, .bipush (-3), 2), (9, .ireturn, 1), (10, .aload_n 0, 1), (11, .aload_n 0, 1), (12, .getfield 295, 3), (15, .putfield 28, 3), (18, .aload_n 0, 1), (19, .aload_n 0, 1), (20, .getfield 298, 3), (23, .putfield 271, 3), (26, .aload_n 0, 1), (27, .aload_n 0, 1), (28, .getfield 301, 3), (31, .putfield 246, 3), (34, .aload_n 0, 1), (35, .aload_n 0, 1), (36, .getfield 304, 3), (39, .putfield 285, 3), (42, .aload_n 0, 1), (43, .aload_n 0, 1), (44, .getfield 307, 3), (47, .putfield 282, 3), (50, .iconst 0, 1), (51, .istore_n 1, 1), (52, .iload_n 1, 1), (53, .bipush 15, 2), (55, .if_icmp .ge 21, 3), (58, .aload_n 0, 1), (59, .getfield 21, 3), (62, .iload_n 1, 1), (63, .aload_n 0, 1), (64, .getfield 91, 3), (67, .iload_n 1, 1), (68, .iaload, 1), (69, .iastore, 1), (70, .iinc 1 1, 3), (73, .goto (-21), 3), (76, .iconst 0, 1), (77, .istore_n 1, 1), (78, .iload_n 1, 1), (79, .bipush 12, 2), (81, .if_icmp .ge 33, 3), (84, .aload_n 0, 1), (85, .getfield 66, 3), (88, .iload_n 1, 1)]
theorem dcX11_undo_0 : tbX11_undo_0.all (fun q => decide (decode cX11_undo q.1 = .ok q.2)) = true := by decide +kernel
def tbX11_undo_1 : List (Nat × Instr × Nat) := [(89, .aload_n 0, 1), (90, .getfield 94, 3), (93, .iload_n 1, 1), (94, .iaload, 1), (95, .iastore, 1), (96, .aload_n 0, 1), (97, .getfield 75, 3), (100, .iload_n 1, 1), (101, .aload_n 0, 1), (102, .getfield 97, 3), (105, .iload_n 1, 1), (106, .iaload, 1), (107, .iastore, 1), (108, .iinc 1 1, 3), (111, .goto (-33), 3), (114, .iconst 0, 1), (115, .istore_n 1, 1), (116, .iload_n 1, 1), (117, .iconst 4, 1), (118, .if_icmp .ge 21, 3), (121, .aload_n 0, 1), (122, .getfield 72, 3), (125, .iload_n 1, 1), (126, .aload_n 0, 1), (127, .getfield 100, 3), (130, .iload_n 1, 1), (131, .iaload, 1), (132, .iastore, 1), (133, .iinc 1 1, 3), (136, .goto (-20), 3), (139, .aload_n 0, 1), (140, .getfield 21, 3), (143, .bipush 12, 2), (145, .iaload, 1), (146, .ireturn, 1)]
theorem dcX11_undo_1 : tbX11_undo_1.all (fun q => decide (decode cX11_undo q.1 = .ok q.2)) = true := by decide +kernel
def tbX11_ran_0 : List (Nat × Instr × Nat) := [(0, .aload_n 0, 1), (1, .getfield 310, 3), (4, .bipush 20, 2), (6, .if_icmp .ge 13, 3), (9, .aload_n 0, 1), (10, .getfield 103, 3), (13, .aload_n 0, 1), (14, .getfield 310, 3), (17, .iload_n 1, 1), (18, .iastore, 1), (19, .aload_n 0, 1), (20, .dup, 1), (21, .getfield 310, 3), (24, .iconst 1, 1), (25, .iadd, 1), (26, .putfield 310, 3), (29, .return_, 1)]
theorem dcX11_ran_0 : tbX11_ran_0.all (fun q => decide (decode cX11_ran q.1 = .ok q.2)) = true := by decide +kernel
def tbX11_plainHolds_0 : List (Nat × Instr × Nat) := [(0, .aload_n 0, 1), (1, .bipush 10, 2), (3, .invokevirtual 313, 3), (6, .iload_n 2, 1), (7, .iload_n 1, 1), (8, .iadd, 1), (9, .ireturn, 1)]
theorem dcX11_plainHolds_0 : tbX11_plainHolds_0.all (fun q => decide (decode cX11_plainHolds q.1 = .ok q.2)) = true := by decide +kernel
def tbX11_holding_0 : List (Nat × Instr × Nat) := [(0, .aload_n 0, 1), (1, .getfield 9, 3), (4, .iload_n 1, 1), (5, .iaload, 1), (6, .tableswitch 98 2 6 #[34, 98, 64, 49, 78], 34), (40, .aload_n 0, 1), (41, .bipush 30, 2), (43, .invokevirtual 313, 3), (46, .aload_n 0, 1), (47, .iload_n 1, 1), (48, .iload_n 2, 1), (49, .iconst 3, 1), (50, .imul, 1), (51, .invokevirtual 316, 3), (54, .ireturn, 1), (55, .aload_n 0, 1), (56, .bipush 30, 2), (58, .invokevirtual 313, 3), (61, .aload_n 0, 1), (62, .iload_n 1, 1), (63, .iload_n 2, 1), (64, .iconst 3, 1), (65, .imul, 1), (66, .invokevirtual 316, 3), (69, .ireturn, 1), (70, .aload_n 0, 1), (71, .bipush 50, 2), (73, .invokevirtual 313, 3), (76, .aload_n 0, 1), (77, .iload_n 1, 1), (78, .iload_n 2, 1), (79, .invokevirtual 316, 3), (82, .ineg, 1), (83, .ireturn, 1), (84, .aload_n 0, 1), (85, .bipush 71, 2), (87, .invokevirtual 313, 3), (90, .aload_n 0, 1), (91, .iload_n 1, 1), (92, .iload_n 2, 1), (93, .invokevirtual 316, 3), (96, .aload_n 0, 1), (97, .getfield 15, 3), (100, .iload_n 1, 1), (101, .iaload, 1), (102, .ixor, 1), (103, .ireturn, 1), (104, .aload_n 0, 1)]
theorem dcX11_holding_0 : tbX11_holding_0.all (fun q => decide (decode cX11_holding q.1 = .ok q.2)) = true := by decide +kernel
def tbX11_holding_1 : List (Nat × Instr × Nat) := [(105, .iload_n 1, 1), (106, .iload_n 2, 1), (107, .invokevirtual 316, 3), (110, .ireturn, 1)]
theorem dcX11_holding_1 : tbX11_holding_1.all (fun q => decide (decode cX11_holding q.1 = .ok q.2)) = true := by decide +kernel
def tbX11_plainChooses_0 : List (Nat × Instr × Nat) := [(0, .aload_n 0, 1), (1, .bipush 11, 2), (3, .invokevirtual 313, 3), (6, .aload_n 0, 1), (7, .iload_n 1, 1), (8, .iload_n 2, 1), (9, .invokevirtual 319, 3), (12, .aload_n 0, 1), (13, .getfield 15, 3), (16, .iload_n 1, 1), (17, .iaload, 1), (18, .isub, 1), (19, .ireturn, 1)]
theorem dcX11_plainChooses_0 : tbX11_plainChooses_0.all (fun q => decide (decode cX11_plainChooses q.1 = .ok q.2)) = true := by decide +kernel
def tbX11_fearedChooses_0 : List (Nat × Instr × Nat) := [(0, .aload_n 0, 1), (1, .bipush 20, 2), (3, .invokevirtual 313, 3), (6, .aload_n 0, 1), (7, .iload_n 1, 1), (8, .iload_n 2, 1), (9, .invokevirtual 322, 3), (12, .bipush 6, 2), (14, .ixor, 1), (15, .ireturn, 1)]
theorem dcX11_fearedChooses_0 : tbX11_fearedChooses_0.all (fun q => decide (decode cX11_fearedChooses q.1 = .ok q.2)) = true := by decide +kernel
def tbX11_chooses_0 : List (Nat × Instr × Nat) := [(0, .aload_n 0, 1), (1, .getfield 9, 3), (4, .iload_n 1, 1), (5, .iaload, 1), (6, .lookupswitch 63 #[(1, 34), (4, 41), (6, 56)], 34), (40, .aload_n 0, 1), (41, .iload_n 1, 1), (42, .iload_n 2, 1), (43, .invokevirtual 325, 3), (46, .ireturn, 1), (47, .aload_n 0, 1), (48, .bipush 51, 2), (50, .invokevirtual 313, 3), (53, .aload_n 0, 1), (54, .iload_n 1, 1), (55, .iload_n 2, 1), (56, .iconst 1, 1), (57, .iadd, 1), (58, .invokevirtual 325, 3), (61, .ireturn, 1), (62, .aload_n 0, 1), (63, .iload_n 1, 1), (64, .iload_n 2, 1), (65, .invokevirtual 328, 3), (68, .ireturn, 1), (69, .aload_n 0, 1), (70, .iload_n 1, 1), (71, .iload_n 2, 1), (72, .invokevirtual 322, 3), (75, .ireturn, 1)]
theorem dcX11_chooses_0 : tbX11_chooses_0.all (fun q => decide (decode cX11_chooses q.1 = .ok q.2)) = true := by decide +kernel
def tbX11_calledChooses_0 : List (Nat × Instr × Nat) := [(0, .aload_n 0, 1), (1, .bipush 70, 2), (3, .invokevirtual 313, 3), (6, .aload_n 0, 1), (7, .iload_n 1, 1), (8, .iload_n 2, 1), (9, .invokevirtual 322, 3), (12, .istore_n 3, 1), (13, .iload_n 3, 1), (14, .aload_n 0, 1), (15, .iload_n 1, 1), (16, .iconst 2, 1), (17, .invokevirtual 316, 3), (20, .iadd, 1), (21, .ireturn, 1)]
theorem dcX11_calledChooses_0 : tbX11_calledChooses_0.all (fun q => decide (decode cX11_calledChooses q.1 = .ok q.2)) = true := by decide +kernel
def tbX11_plainTells_0 : List (Nat × Instr × Nat) := [(0, .aload_n 0, 1), (1, .bipush 12, 2), (3, .invokevirtual 313, 3), (6, .aload_n 0, 1), (7, .iload_n 1, 1), (8, .iload_n 2, 1), (9, .invokevirtual 331, 3), (12, .iconst 2, 1), (13, .imul, 1), (14, .ireturn, 1)]
theorem dcX11_plainTells_0 : tbX11_plainTells_0.all (fun q => decide (decode cX11_plainTells q.1 = .ok q.2)) = true := by decide +kernel
def tbX11_telling_0 : List (Nat × Instr × Nat) := [(0, .aload_n 0, 1), (1, .getfield 9, 3), (4, .iload_n 1, 1), (5, .iaload, 1), (6, .tableswitch 59 3 6 #[45, 59, 30, 52], 30), (36, .aload_n 0, 1), (37, .bipush 60, 2), (39, .invokevirtual 313, 3), (42, .aload_n 0, 1), (43, .iload_n 1, 1), (44, .iload_n 2, 1), (45, .iload_n 1, 1), (46, .isub, 1), (47, .invokevirtual 334, 3), (50, .ireturn, 1), (51, .aload_n 0, 1), (52, .iload_n 1, 1), (53, .iload_n 2, 1), (54, .invokevirtual 337, 3), (57, .ireturn, 1), (58, .aload_n 0, 1), (59, .iload_n 1, 1), (60, .iload_n 2, 1), (61, .invokevirtual 337, 3), (64, .ireturn, 1), (65, .aload_n 0, 1), (66, .iload_n 1, 1), (67, .iload_n 2, 1), (68, .invokevirtual 334, 3), (71, .ireturn, 1)]
theorem dcX11_telling_0 : tbX11_telling_0.all (fun q => decide (decode cX11_telling q.1 = .ok q.2)) = true := by decide +kernel
def tbX11_spoiltTells_0 : List (Nat × Instr × Nat) := [(0, .aload_n 0, 1), (1, .bipush 40, 2), (3, .invokevirtual 313, 3), (6, .aload_n 0, 1), (7, .iload_n 1, 1), (8, .iload_n 2, 1), (9, .invokevirtual 334, 3), (12, .istore_n 3, 1), (13, .iload_n 3, 1), (14, .aload_n 0, 1), (15, .iload_n 1, 1), (16, .iconst 1, 1), (17, .invokevirtual 331, 3), (20, .iadd, 1), (21, .ireturn, 1)]
theorem dcX11_spoiltTells_0 : tbX11_spoiltTells_0.all (fun q => decide (decode cX11_spoiltTells q.1 = .ok q.2)) = true := by decide +kernel
def tbX11_part_0 : List (Nat × Instr × Nat) := [(0, .aload_n 0, 1), (1, .iconst 0, 1), (2, .putfield 310, 3), (5, .aload_n 0, 1), (6, .iload_n 1, 1), (7, .invokevirtual 116, 3), (10, .ifCond .eq 12, 3), (13, .iload_n 2, 1), (14, .iconst 0, 1), (15, .iconst 2, 1), (16, .invokestatic 112, 3), (19, .ifCond .ne 5, 3), (22, .iconst 0, 1), (23, .ireturn, 1), (24, .iload_n 2, 1), (25, .ifCond .ne 12, 3), (28, .aload_n 0, 1), (29, .iload_n 1, 1), (30, .iload_n 3, 1), (31, .invokevirtual 319, 3), (34, .goto 23, 3), (37, .iload_n 2, 1), (38, .iconst 1, 1), (39, .if_icmp .ne 12, 3), (42, .aload_n 0, 1), (43, .iload_n 1, 1), (44, .iload_n 3, 1), (45, .invokevirtual 331, 3), (48, .goto 9, 3), (51, .aload_n 0, 1), (52, .iload_n 1, 1), (53, .iload_n 3, 1), (54, .invokevirtual 340, 3), (57, .ireturn, 1)]
theorem dcX11_part_0 : tbX11_part_0.all (fun q => decide (decode cX11_part q.1 = .ok q.2)) = true := by decide +kernel
def tbX11_trace_0 : List (Nat × Instr × Nat) := [(0, .iload_n 1, 1), (1, .iconst 0, 1), (2, .aload_n 0, 1), (3, .getfield 310, 3), (6, .iconst 1, 1), (7, .isub, 1), (8, .invokestatic 112, 3), (11, .ifCond .eq 18, 3), (14, .iload_n 1, 1), (15, .bipush 20, 2), (17, .if_icmp .ge 12, 3), (20, .aload_n 0, 1), (21, .getfield 103, 3), (24, .iload_n 1, 1), (25, .iaload, 1), (26, .goto 4, 3), (29, .iconst (-1), 1), (30, .ireturn, 1)]
theorem dcX11_trace_0 : tbX11_trace_0.all (fun q => decide (decode cX11_trace q.1 = .ok q.2)) = true := by decide +kernel
def tbX11_isUnder_0 : List (Nat × Instr × Nat) := [(0, .iload_n 1, 1), (1, .ifCond .eq 39, 3), (4, .iload_n 0, 1), (5, .iload_n 1, 1), (6, .if_icmp .eq 34, 3), (9, .iload_n 1, 1), (10, .iconst 1, 1), (11, .if_icmp .ne 8, 3), (14, .iload_n 0, 1), (15, .iconst 4, 1), (16, .if_icmp .eq 24, 3), (19, .iload_n 1, 1), (20, .iconst 2, 1), (21, .if_icmp .ne 8, 3), (24, .iload_n 0, 1), (25, .iconst 5, 1), (26, .if_icmp .eq 14, 3), (29, .iload_n 1, 1), (30, .iconst 3, 1), (31, .if_icmp .ne 13, 3), (34, .iload_n 0, 1), (35, .bipush 6, 2), (37, .if_icmp .ne 7, 3), (40, .iconst 1, 1), (41, .goto 4, 3), (44, .iconst 0, 1), (45, .ireturn, 1)]
theorem dcX11_isUnder_0 : tbX11_isUnder_0.all (fun q => decide (decode cX11_isUnder q.1 = .ok q.2)) = true := by decide +kernel
def tbX11_taken_0 : List (Nat × Instr × Nat) := [(0, .iload_n 2, 1), (1, .iconst 0, 1), (2, .bipush 6, 2), (4, .invokestatic 112, 3), (7, .ifCond .ne 6, 3), (10, .bipush (-2), 2), (12, .ireturn, 1), (13, .aload_n 0, 1), (14, .iload_n 1, 1), (15, .invokevirtual 116, 3), (18, .ifCond .ne 6, 3), (21, .bipush (-11), 2), (23, .ireturn, 1), (24, .aload_n 0, 1), (25, .getfield 9, 3), (28, .iload_n 1, 1), (29, .iaload, 1), (30, .iload_n 2, 1), (31, .invokestatic 343, 3), (34, .ifCond .eq 12, 3), (37, .aload_n 0, 1), (38, .getfield 9, 3), (41, .iload_n 1, 1), (42, .iaload, 1), (43, .goto 5, 3), (46, .bipush (-12), 2), (48, .ireturn, 1)]
theorem dcX11_taken_0 : tbX11_taken_0.all (fun q => decide (decode cX11_taken q.1 = .ok q.2)) = true := by decide +kernel
def tbX11_count_0 : List (Nat × Instr × Nat) := [(0, .iload_n 1, 1), (1, .tableswitch 78 0 6 #[43, 48, 53, 58, 63, 68, 73], 43), (44, .aload_n 0, 1), (45, .getfield 109, 3), (48, .ireturn, 1), (49, .aload_n 0, 1), (50, .getfield 150, 3), (53, .ireturn, 1), (54, .aload_n 0, 1), (55, .getfield 246, 3), (58, .ireturn, 1), (59, .aload_n 0, 1), (60, .getfield 285, 3), (63, .ireturn, 1), (64, .aload_n 0, 1), (65, .getfield 282, 3), (68, .ireturn, 1), (69, .aload_n 0, 1), (70, .getfield 131, 3), (73, .ireturn, 1), (74, .aload_n 0, 1), (75, .getfield 310, 3), (78, .ireturn, 1), (79, .bipush (-2), 2), (81, .ireturn, 1)]
theorem dcX11_count_0 : tbX11_count_0.all (fun q => decide (decode cX11_count q.1 = .ok q.2)) = true := by decide +kernel
def tbX11_tape_0 : List (Nat × Instr × Nat) := [(0, .iload_n 1, 1), (1, .invokestatic 288, 3), (4, .ifCond .ne 5, 3), (7, .iconst (-1), 1), (8, .ireturn, 1), (9, .iload_n 2, 1), (10, .iconst (-1), 1), (11, .iconst 4, 1), (12, .invokestatic 112, 3), (15, .ifCond .ne 6, 3), (18, .bipush (-2), 2), (20, .ireturn, 1), (21, .iload_n 2, 1), (22, .iconst (-1), 1), (23, .if_icmp .ne 12, 3), (26, .aload_n 0, 1), (27, .getfield 78, 3), (30, .iload_n 1, 1), (31, .iconst (-1), 1), (32, .iastore, 1), (33, .iconst 1, 1), (34, .ireturn, 1), (35, .iload_n 3, 1), (36, .bipush 60, 2), (38, .if_icmp .le 6, 3), (41, .bipush (-2), 2), (43, .ireturn, 1), (44, .iload_n 3, 1), (45, .ifCond .ge 6, 3), (48, .bipush (-14), 2), (50, .ireturn, 1), (51, .aload_n 0, 1), (52, .getfield 78, 3), (55, .iload_n 1, 1), (56, .iload_n 2, 1), (57, .iastore, 1), (58, .aload_n 0, 1), (59, .getfield 81, 3), (62, .iload_n 1, 1), (63, .iload_n 3, 1), (64, .iastore, 1), (65, .iconst 0, 1), (66, .istore 4, 2), (68, .iload 4, 2), (70, .iload_n 3, 1), (71, .if_icmp .ge 22, 3), (74, .aload_n 0, 1), (75, .getfield 84, 3)]
theorem dcX11_tape_0 : tbX11_tape_0.all (fun q => decide (decode cX11_tape q.1 = .ok q.2)) = true := by decide +kernel
def tbX11_tape_1 : List (Nat × Instr × Nat) := [(78, .bipush 60, 2), (80, .iload_n 1, 1), (81, .imul, 1), (82, .iload 4, 2), (84, .iadd, 1), (85, .lconst 0, 1), (86, .lastore, 1), (87, .iinc 4 1, 3), (90, .goto (-22), 3), (93, .iconst 1, 1), (94, .ireturn, 1)]
theorem dcX11_tape_1 : tbX11_tape_1.all (fun q => decide (decode cX11_tape q.1 = .ok q.2)) = true := by decide +kernel
def tbX11_as_0 : List (Nat × Instr × Nat) := [(0, .iload_n 0, 1), (1, .tableswitch 47 0 3 #[31, 36, 41, 45], 31), (32, .lload_n 1, 1), (33, .l2i, 1), (34, .i2b, 1), (35, .i2l, 1), (36, .lreturn, 1), (37, .lload_n 1, 1), (38, .l2i, 1), (39, .i2s, 1), (40, .i2l, 1), (41, .lreturn, 1), (42, .lload_n 1, 1), (43, .l2i, 1), (44, .i2l, 1), (45, .lreturn, 1), (46, .lload_n 1, 1), (47, .lreturn, 1), (48, .lload_n 1, 1), (49, .lconst 0, 1), (50, .lcmp, 1), (51, .ifCond .ne 7, 3), (54, .lconst 0, 1), (55, .goto 4, 3), (58, .lconst 1, 1), (59, .lreturn, 1)]
theorem dcX11_as_0 : tbX11_as_0.all (fun q => decide (decode cX11_as q.1 = .ok q.2)) = true := by decide +kernel
def tbX11_item_0 : List (Nat × Instr × Nat) := [(0, .iload_n 1, 1), (1, .invokestatic 288, 3), (4, .ifCond .ne 5, 3), (7, .iconst (-1), 1), (8, .ireturn, 1), (9, .aload_n 0, 1), (10, .getfield 78, 3), (13, .iload_n 1, 1), (14, .iaload, 1), (15, .ifCond .ge 6, 3), (18, .bipush (-11), 2), (20, .ireturn, 1), (21, .iload_n 2, 1), (22, .iconst 0, 1), (23, .aload_n 0, 1), (24, .getfield 81, 3), (27, .iload_n 1, 1), (28, .iaload, 1), (29, .iconst 1, 1), (30, .isub, 1), (31, .invokestatic 112, 3), (34, .ifCond .ne 6, 3), (37, .bipush (-13), 2), (39, .ireturn, 1), (40, .aload_n 0, 1), (41, .getfield 84, 3), (44, .bipush 60, 2), (46, .iload_n 1, 1), (47, .imul, 1), (48, .iload_n 2, 1), (49, .iadd, 1), (50, .aload_n 0, 1), (51, .getfield 78, 3), (54, .iload_n 1, 1), (55, .iaload, 1), (56, .lload_n 3, 1), (57, .invokestatic 347, 3), (60, .lastore, 1), (61, .iconst 1, 1), (62, .ireturn, 1)]
theorem dcX11_item_0 : tbX11_item_0.all (fun q => decide (decode cX11_item q.1 = .ok q.2)) = true := by decide +kernel
def tbX11_read_0 : List (Nat × Instr × Nat) := [(0, .iload_n 1, 1), (1, .invokestatic 288, 3), (4, .ifCond .eq 42, 3), (7, .aload_n 0, 1), (8, .getfield 78, 3), (11, .iload_n 1, 1), (12, .iaload, 1), (13, .ifCond .lt 33, 3), (16, .iload_n 2, 1), (17, .iconst 0, 1), (18, .aload_n 0, 1), (19, .getfield 81, 3), (22, .iload_n 1, 1), (23, .iaload, 1), (24, .iconst 1, 1), (25, .isub, 1), (26, .invokestatic 112, 3), (29, .ifCond .eq 17, 3), (32, .aload_n 0, 1), (33, .getfield 84, 3), (36, .bipush 60, 2), (38, .iload_n 1, 1), (39, .imul, 1), (40, .iload_n 2, 1), (41, .iadd, 1), (42, .laload, 1), (43, .goto 6, 3), (46, .ldc2_w 274, 3), (49, .lreturn, 1)]
theorem dcX11_read_0 : tbX11_read_0.all (fun q => decide (decode cX11_read q.1 = .ok q.2)) = true := by decide +kernel
def tbX11_shift_0 : List (Nat × Instr × Nat) := [(0, .iload_n 1, 1), (1, .invokestatic 288, 3), (4, .ifCond .eq 10, 3), (7, .iload_n 3, 1), (8, .invokestatic 288, 3), (11, .ifCond .ne 5, 3), (14, .iconst (-1), 1), (15, .ireturn, 1), (16, .aload_n 0, 1), (17, .getfield 78, 3), (20, .iload_n 1, 1), (21, .iaload, 1), (22, .ifCond .lt 12, 3), (25, .aload_n 0, 1), (26, .getfield 78, 3), (29, .iload_n 3, 1), (30, .iaload, 1), (31, .ifCond .ge 6, 3), (34, .bipush (-11), 2), (36, .ireturn, 1), (37, .aload_n 0, 1), (38, .getfield 78, 3), (41, .iload_n 1, 1), (42, .iaload, 1), (43, .aload_n 0, 1), (44, .getfield 78, 3), (47, .iload_n 3, 1), (48, .iaload, 1), (49, .if_icmp .eq 6, 3), (52, .bipush (-12), 2), (54, .ireturn, 1), (55, .iload 5, 2), (57, .ifCond .lt 47, 3), (60, .iload_n 2, 1), (61, .ifCond .lt 43, 3), (64, .iload 4, 2), (66, .ifCond .lt 38, 3), (69, .iload_n 2, 1), (70, .i2l, 1), (71, .iload 5, 2), (73, .i2l, 1), (74, .ladd, 1), (75, .aload_n 0, 1), (76, .getfield 81, 3), (79, .iload_n 1, 1), (80, .iaload, 1), (81, .i2l, 1), (82, .lcmp, 1)]
theorem dcX11_shift_0 : tbX11_shift_0.all (fun q => decide (decode cX11_shift q.1 = .ok q.2)) = true := by decide +kernel
def tbX11_shift_1 : List (Nat × Instr × Nat) := [(83, .ifCond .gt 21, 3), (86, .iload 4, 2), (88, .i2l, 1), (89, .iload 5, 2), (91, .i2l, 1), (92, .ladd, 1), (93, .aload_n 0, 1), (94, .getfield 81, 3), (97, .iload_n 3, 1), (98, .iaload, 1), (99, .i2l, 1), (100, .lcmp, 1), (101, .ifCond .le 6, 3), (104, .bipush (-13), 2), (106, .ireturn, 1), (107, .iconst 0, 1), (108, .istore 6, 2), (110, .iload 6, 2), (112, .iload 5, 2), (114, .if_icmp .ge 30, 3), (117, .aload_n 0, 1), (118, .getfield 88, 3), (121, .iload 6, 2), (123, .aload_n 0, 1), (124, .getfield 84, 3), (127, .bipush 60, 2), (129, .iload_n 1, 1), (130, .imul, 1), (131, .iload_n 2, 1), (132, .iadd, 1), (133, .iload 6, 2), (135, .iadd, 1), (136, .laload, 1), (137, .lastore, 1), (138, .iinc 6 1, 3), (141, .goto (-31), 3), (144, .iconst 0, 1), (145, .istore 6, 2), (147, .iload 6, 2), (149, .iload 5, 2), (151, .if_icmp .ge 31, 3), (154, .aload_n 0, 1), (155, .getfield 84, 3), (158, .bipush 60, 2), (160, .iload_n 3, 1), (161, .imul, 1), (162, .iload 4, 2), (164, .iadd, 1)]
theorem dcX11_shift_1 : tbX11_shift_1.all (fun q => decide (decode cX11_shift q.1 = .ok q.2)) = true := by decide +kernel
def tbX11_shift_2 : List (Nat × Instr × Nat) := [(165, .iload 6, 2), (167, .iadd, 1), (168, .aload_n 0, 1), (169, .getfield 88, 3), (172, .iload 6, 2), (174, .laload, 1), (175, .lastore, 1), (176, .iinc 6 1, 3), (179, .goto (-32), 3), (182, .iload 5, 2), (184, .ireturn, 1)]
theorem dcX11_shift_2 : tbX11_shift_2.all (fun q => decide (decode cX11_shift q.1 = .ok q.2)) = true := by decide +kernel
def tbJ11_isValidCodePoint_9a6ad_0 : List (Nat × Instr × Nat) := [(0, .iload_n 0, 1), (1, .bipush 16, 2), (3, .iushr, 1), (4, .istore_n 1, 1), (5, .iload_n 1, 1), (6, .bipush 17, 2), (8, .if_icmp .ge 7, 3), (11, .iconst 1, 1), (12, .goto 4, 3), (15, .iconst 0, 1), (16, .ireturn, 1)]
theorem dcJ11_isValidCodePoint_9a6ad_0 : tbJ11_isValidCodePoint_9a6ad_0.all (fun q => decide (decode cJ11_isValidCodePoint_9a6ad q.1 = .ok q.2)) = true := by decide +kernel
def tbJ11_highSurrogate_5068e_0 : List (Nat × Instr × Nat) := [(0, .iload_n 0, 1), (1, .bipush 10, 2), (3, .iushr, 1), (4, .ldc 110, 2), (6, .iadd, 1), (7, .i2c, 1), (8, .ireturn, 1)]
theorem dcJ11_highSurrogate_5068e_0 : tbJ11_highSurrogate_5068e_0.all (fun q => decide (decode cJ11_highSurrogate_5068e q.1 = .ok q.2)) = true := by decide +kernel
def tbJ11_lowSurrogate_5068e_0 : List (Nat × Instr × Nat) := [(0, .iload_n 0, 1), (1, .sipush 1023, 3), (4, .iand, 1), (5, .ldc 76, 2), (7, .iadd, 1), (8, .i2c, 1), (9, .ireturn, 1)]
theorem dcJ11_lowSurrogate_5068e_0 : tbJ11_lowSurrogate_5068e_0.all (fun q => decide (decode cJ11_lowSurrogate_5068e q.1 = .ok q.2)) = true := by decide +kernel
def tbJ9_abs_0f7a4_0 : List (Nat × Instr × Nat) := [(0, .iload_n 0, 1), (1, .ifCond .ge 8, 3), (4, .iload_n 0, 1), (5, .ineg, 1), (6, .goto 4, 3), (9, .iload_n 0, 1), (10, .ireturn, 1)]
theorem dcJ9_abs_0f7a4_0 : tbJ9_abs_0f7a4_0.all (fun q => decide (decode cJ9_abs_0f7a4 q.1 = .ok q.2)) = true := by decide +kernel
def tbJ9_max_7cf53_0 : List (Nat × Instr × Nat) := [(0, .iload_n 0, 1), (1, .iload_n 1, 1), (2, .if_icmp .lt 7, 3), (5, .iload_n 0, 1), (6, .goto 4, 3), (9, .iload_n 1, 1), (10, .ireturn, 1)]
theorem dcJ9_max_7cf53_0 : tbJ9_max_7cf53_0.all (fun q => decide (decode cJ9_max_7cf53 q.1 = .ok q.2)) = true := by decide +kernel
def tbJ9_min_7cf53_0 : List (Nat × Instr × Nat) := [(0, .iload_n 0, 1), (1, .iload_n 1, 1), (2, .if_icmp .gt 7, 3), (5, .iload_n 0, 1), (6, .goto 4, 3), (9, .iload_n 1, 1), (10, .ireturn, 1)]
theorem dcJ9_min_7cf53_0 : tbJ9_min_7cf53_0.all (fun q => decide (decode cJ9_min_7cf53 q.1 = .ok q.2)) = true := by decide +kernel
def tbJ0_length_8abf5_0 : List (Nat × Instr × Nat) := [(0, .aload_n 0, 1), (1, .getfield 9, 3), (4, .arraylength, 1), (5, .aload_n 0, 1), (6, .invokevirtual 335, 3), (9, .ishr, 1), (10, .ireturn, 1)]
theorem dcJ0_length_8abf5_0 : tbJ0_length_8abf5_0.all (fun q => decide (decode cJ0_length_8abf5 q.1 = .ok q.2)) = true := by decide +kernel
def tbJ0_charAt_5068e_0 : List (Nat × Instr × Nat) := [(0, .aload_n 0, 1), (1, .invokevirtual 492, 3), (4, .ifCond .eq 12, 3), (7, .aload_n 0, 1), (8, .getfield 9, 3), (11, .iload_n 1, 1), (12, .invokestatic 495, 3), (15, .ireturn, 1), (16, .aload_n 0, 1), (17, .getfield 9, 3), (20, .iload_n 1, 1), (21, .invokestatic 498, 3), (24, .ireturn, 1)]
theorem dcJ0_charAt_5068e_0 : tbJ0_charAt_5068e_0.all (fun q => decide (decode cJ0_charAt_5068e q.1 = .ok q.2)) = true := by decide +kernel
def tbJ0_indexOf_0f7a4_0 : List (Nat × Instr × Nat) := [(0, .aload_n 0, 1), (1, .iload_n 1, 1), (2, .iconst 0, 1), (3, .invokevirtual 633, 3), (6, .ireturn, 1)]
theorem dcJ0_indexOf_0f7a4_0 : tbJ0_indexOf_0f7a4_0.all (fun q => decide (decode cJ0_indexOf_0f7a4 q.1 = .ok q.2)) = true := by decide +kernel
def tbJ0_indexOf_7cf53_0 : List (Nat × Instr × Nat) := [(0, .aload_n 0, 1), (1, .invokevirtual 492, 3), (4, .ifCond .eq 19, 3), (7, .aload_n 0, 1), (8, .getfield 9, 3), (11, .iload_n 1, 1), (12, .iload_n 2, 1), (13, .aload_n 0, 1), (14, .invokevirtual 505, 3), (17, .invokestatic 637, 3), (20, .goto 16, 3), (23, .aload_n 0, 1), (24, .getfield 9, 3), (27, .iload_n 1, 1), (28, .iload_n 2, 1), (29, .aload_n 0, 1), (30, .invokevirtual 505, 3), (33, .invokestatic 640, 3), (36, .ireturn, 1)]
theorem dcJ0_indexOf_7cf53_0 : tbJ0_indexOf_7cf53_0.all (fun q => decide (decode cJ0_indexOf_7cf53 q.1 = .ok q.2)) = true := by decide +kernel
def tbJ0_coder_7d493_0 : List (Nat × Instr × Nat) := [(0, .getstatic 38, 3), (3, .ifCond .eq 10, 3), (6, .aload_n 0, 1), (7, .getfield 15, 3), (10, .goto 4, 3), (13, .iconst 1, 1), (14, .ireturn, 1)]
theorem dcJ0_coder_7d493_0 : tbJ0_coder_7d493_0.all (fun q => decide (decode cJ0_coder_7d493 q.1 = .ok q.2)) = true := by decide +kernel
def tbJ0_isLatin1_aae02_0 : List (Nat × Instr × Nat) := [(0, .getstatic 38, 3), (3, .ifCond .eq 14, 3), (6, .aload_n 0, 1), (7, .getfield 15, 3), (10, .ifCond .ne 7, 3), (13, .iconst 1, 1), (14, .goto 4, 3), (17, .iconst 0, 1), (18, .ireturn, 1)]
theorem dcJ0_isLatin1_aae02_0 : tbJ0_isLatin1_aae02_0.all (fun q => decide (decode cJ0_isLatin1_aae02 q.1 = .ok q.2)) = true := by decide +kernel
def tbJ0_checkIndex_df160_0 : List (Nat × Instr × Nat) := [(0, .iload_n 0, 1), (1, .iload_n 1, 1), (2, .getstatic 1053, 3), (5, .invokestatic 1059, 3), (8, .pop, 1), (9, .return_, 1)]
theorem dcJ0_checkIndex_df160_0 : tbJ0_checkIndex_df160_0.all (fun q => decide (decode cJ0_checkIndex_df160 q.1 = .ok q.2)) = true := by decide +kernel
def tbJ0_checkBoundsBeginEnd_23922_0 : List (Nat × Instr × Nat) := [(0, .iload_n 0, 1), (1, .iload_n 1, 1), (2, .iload_n 2, 1), (3, .getstatic 1053, 3), (6, .invokestatic 1062, 3), (9, .pop, 1), (10, .return_, 1)]
theorem dcJ0_checkBoundsBeginEnd_23922_0 : tbJ0_checkBoundsBeginEnd_23922_0.all (fun q => decide (decode cJ0_checkBoundsBeginEnd_23922 q.1 = .ok q.2)) = true := by decide +kernel
def tbJ1_charAt_3b067_0 : List (Nat × Instr × Nat) := [(0, .iload_n 1, 1), (1, .aload_n 0, 1), (2, .arraylength, 1), (3, .invokestatic 9, 3), (6, .aload_n 0, 1), (7, .iload_n 1, 1), (8, .baload, 1), (9, .sipush 255, 3), (12, .iand, 1), (13, .i2c, 1), (14, .ireturn, 1)]
theorem dcJ1_charAt_3b067_0 : tbJ1_charAt_3b067_0.all (fun q => decide (decode cJ1_charAt_3b067 q.1 = .ok q.2)) = true := by decide +kernel
def tbJ1_canEncode_9a6ad_0 : List (Nat × Instr × Nat) := [(0, .iload_n 0, 1), (1, .ifCond .lt 14, 3), (4, .iload_n 0, 1), (5, .sipush 255, 3), (8, .if_icmp .gt 7, 3), (11, .iconst 1, 1), (12, .goto 4, 3), (15, .iconst 0, 1), (16, .ireturn, 1)]
theorem dcJ1_canEncode_9a6ad_0 : tbJ1_canEncode_9a6ad_0.all (fun q => decide (decode cJ1_canEncode_9a6ad q.1 = .ok q.2)) = true := by decide +kernel
def tbJ1_indexOf_4cfef_0 : List (Nat × Instr × Nat) := [(0, .iload_n 1, 1), (1, .invokestatic 88, 3), (4, .ifCond .ne 5, 3), (7, .iconst (-1), 1), (8, .ireturn, 1), (9, .iload_n 2, 1), (10, .iconst 0, 1), (11, .invokestatic 92, 3), (14, .istore_n 2, 1), (15, .iload_n 3, 1), (16, .aload_n 0, 1), (17, .arraylength, 1), (18, .invokestatic 38, 3), (21, .istore_n 3, 1), (22, .iload_n 2, 1), (23, .iload_n 3, 1), (24, .if_icmp .lt 5, 3), (27, .iconst (-1), 1), (28, .ireturn, 1), (29, .aload_n 0, 1), (30, .iload_n 1, 1), (31, .iload_n 2, 1), (32, .iload_n 3, 1), (33, .invokestatic 95, 3), (36, .ireturn, 1)]
theorem dcJ1_indexOf_4cfef_0 : tbJ1_indexOf_4cfef_0.all (fun q => decide (decode cJ1_indexOf_4cfef q.1 = .ok q.2)) = true := by decide +kernel
def tbJ1_indexOfChar_4cfef_0 : List (Nat × Instr × Nat) := [(0, .iload_n 1, 1), (1, .i2b, 1), (2, .istore 4, 2), (4, .iload_n 2, 1), (5, .istore 5, 2), (7, .iload 5, 2), (9, .iload_n 3, 1), (10, .if_icmp .ge 21, 3), (13, .aload_n 0, 1), (14, .iload 5, 2), (16, .baload, 1), (17, .iload 4, 2), (19, .if_icmp .ne 6, 3), (22, .iload 5, 2), (24, .ireturn, 1), (25, .iinc 5 1, 3), (28, .goto (-21), 3), (31, .iconst (-1), 1), (32, .ireturn, 1)]
theorem dcJ1_indexOfChar_4cfef_0 : tbJ1_indexOfChar_4cfef_0.all (fun q => decide (decode cJ1_indexOfChar_4cfef q.1 = .ok q.2)) = true := by decide +kernel
def tbJ2_getChar_3b067_0 : List (Nat × Instr × Nat) := [(0, .getstatic 44, 3), (3, .ifCond .ne 25, 3), (6, .iload_n 1, 1), (7, .ifCond .lt 11, 3), (10, .iload_n 1, 1), (11, .aload_n 0, 1), (12, .invokestatic 48, 3), (15, .if_icmp .lt 13, 3), (18, .new 52, 3), (21, .dup, 1), (22, .ldc 54, 2), (24, .invokespecial 56, 3), (27, .athrow, 1), (28, .iload_n 1, 1), (29, .iconst 1, 1), (30, .ishl, 1), (31, .istore_n 1, 1), (32, .aload_n 0, 1), (33, .iload_n 1, 1), (34, .iinc 1 1, 3), (37, .baload, 1), (38, .sipush 255, 3), (41, .iand, 1), (42, .getstatic 59, 3), (45, .ishl, 1), (46, .aload_n 0, 1), (47, .iload_n 1, 1), (48, .baload, 1), (49, .sipush 255, 3), (52, .iand, 1), (53, .getstatic 63, 3), (56, .ishl, 1), (57, .ior, 1), (58, .i2c, 1), (59, .ireturn, 1)]
theorem dcJ2_getChar_3b067_0 : tbJ2_getChar_3b067_0.all (fun q => decide (decode cJ2_getChar_3b067 q.1 = .ok q.2)) = true := by decide +kernel
def tbJ2_length_9d52b_0 : List (Nat × Instr × Nat) := [(0, .aload_n 0, 1), (1, .arraylength, 1), (2, .iconst 1, 1), (3, .ishr, 1), (4, .ireturn, 1)]
theorem dcJ2_length_9d52b_0 : tbJ2_length_9d52b_0.all (fun q => decide (decode cJ2_length_9d52b q.1 = .ok q.2)) = true := by decide +kernel
def tbJ2_indexOf_4cfef_0 : List (Nat × Instr × Nat) := [(0, .iload_n 2, 1), (1, .iconst 0, 1), (2, .invokestatic 224, 3), (5, .istore_n 2, 1), (6, .iload_n 3, 1), (7, .aload_n 0, 1), (8, .arraylength, 1), (9, .iconst 1, 1), (10, .ishr, 1), (11, .invokestatic 183, 3), (14, .istore_n 3, 1), (15, .iload_n 2, 1), (16, .iload_n 3, 1), (17, .if_icmp .lt 5, 3), (20, .iconst (-1), 1), (21, .ireturn, 1), (22, .iload_n 1, 1), (23, .ldc 227, 2), (25, .if_icmp .ge 11, 3), (28, .aload_n 0, 1), (29, .iload_n 1, 1), (30, .iload_n 2, 1), (31, .iload_n 3, 1), (32, .invokestatic 228, 3), (35, .ireturn, 1), (36, .aload_n 0, 1), (37, .iload_n 1, 1), (38, .iload_n 2, 1), (39, .iload_n 3, 1), (40, .invokestatic 232, 3), (43, .ireturn, 1)]
theorem dcJ2_indexOf_4cfef_0 : tbJ2_indexOf_4cfef_0.all (fun q => decide (decode cJ2_indexOf_4cfef q.1 = .ok q.2)) = true := by decide +kernel
def tbJ2_indexOfChar_4cfef_0 : List (Nat × Instr × Nat) := [(0, .iload_n 2, 1), (1, .iload_n 3, 1), (2, .aload_n 0, 1), (3, .invokestatic 96, 3), (6, .aload_n 0, 1), (7, .iload_n 1, 1), (8, .iload_n 2, 1), (9, .iload_n 3, 1), (10, .invokestatic 244, 3), (13, .ireturn, 1)]
theorem dcJ2_indexOfChar_4cfef_0 : tbJ2_indexOfChar_4cfef_0.all (fun q => decide (decode cJ2_indexOfChar_4cfef q.1 = .ok q.2)) = true := by decide +kernel
def tbJ2_indexOfCharUnsafe_4cfef_0 : List (Nat × Instr × Nat) := [(0, .iload_n 2, 1), (1, .istore 4, 2), (3, .iload 4, 2), (5, .iload_n 3, 1), (6, .if_icmp .ge 22, 3), (9, .aload_n 0, 1), (10, .iload 4, 2), (12, .invokestatic 71, 3), (15, .iload_n 1, 1), (16, .if_icmp .ne 6, 3), (19, .iload 4, 2), (21, .ireturn, 1), (22, .iinc 4 1, 3), (25, .goto (-22), 3), (28, .iconst (-1), 1), (29, .ireturn, 1)]
theorem dcJ2_indexOfCharUnsafe_4cfef_0 : tbJ2_indexOfCharUnsafe_4cfef_0.all (fun q => decide (decode cJ2_indexOfCharUnsafe_4cfef q.1 = .ok q.2)) = true := by decide +kernel
def tbJ2_indexOfSupplementary_4cfef_0 : List (Nat × Instr × Nat) := [(0, .iload_n 1, 1), (1, .invokestatic 164, 3), (4, .ifCond .eq 65, 3), (7, .iload_n 1, 1), (8, .invokestatic 157, 3), (11, .istore 4, 2), (13, .iload_n 1, 1), (14, .invokestatic 161, 3), (17, .istore 5, 2), (19, .iload_n 2, 1), (20, .iload_n 3, 1), (21, .aload_n 0, 1), (22, .invokestatic 96, 3), (25, .iload_n 2, 1), (26, .istore 6, 2), (28, .iload 6, 2), (30, .iload_n 3, 1), (31, .iconst 1, 1), (32, .isub, 1), (33, .if_icmp .ge 36, 3), (36, .aload_n 0, 1), (37, .iload 6, 2), (39, .invokestatic 71, 3), (42, .iload 4, 2), (44, .if_icmp .ne 19, 3), (47, .aload_n 0, 1), (48, .iload 6, 2), (50, .iconst 1, 1), (51, .iadd, 1), (52, .invokestatic 71, 3), (55, .iload 5, 2), (57, .if_icmp .ne 6, 3), (60, .iload 6, 2), (62, .ireturn, 1), (63, .iinc 6 1, 3), (66, .goto (-38), 3), (69, .iconst (-1), 1), (70, .ireturn, 1)]
theorem dcJ2_indexOfSupplementary_4cfef_0 : tbJ2_indexOfSupplementary_4cfef_0.all (fun q => decide (decode cJ2_indexOfSupplementary_4cfef q.1 = .ok q.2)) = true := by decide +kernel
def tbJ2_charAt_3b067_0 : List (Nat × Instr × Nat) := [(0, .iload_n 1, 1), (1, .aload_n 0, 1), (2, .invokestatic 67, 3), (5, .aload_n 0, 1), (6, .iload_n 1, 1), (7, .invokestatic 71, 3), (10, .ireturn, 1)]
theorem dcJ2_charAt_3b067_0 : tbJ2_charAt_3b067_0.all (fun q => decide (decode cJ2_charAt_3b067 q.1 = .ok q.2)) = true := by decide +kernel
def tbJ2_checkIndex_2214a_0 : List (Nat × Instr × Nat) := [(0, .iload_n 0, 1), (1, .aload_n 1, 1), (2, .invokestatic 48, 3), (5, .invokestatic 414, 3), (8, .return_, 1)]
theorem dcJ2_checkIndex_2214a_0 : tbJ2_checkIndex_2214a_0.all (fun q => decide (decode cJ2_checkIndex_2214a q.1 = .ok q.2)) = true := by decide +kernel
def tbJ2_checkBoundsBeginEnd_d044e_0 : List (Nat × Instr × Nat) := [(0, .iload_n 0, 1), (1, .iload_n 1, 1), (2, .aload_n 2, 1), (3, .invokestatic 48, 3), (6, .invokestatic 241, 3), (9, .return_, 1)]
theorem dcJ2_checkBoundsBeginEnd_d044e_0 : tbJ2_checkBoundsBeginEnd_d044e_0.all (fun q => decide (decode cJ2_checkBoundsBeginEnd_d044e q.1 = .ok q.2)) = true := by decide +kernel
def tbJ7_rangeCheck_23922_0 : List (Nat × Instr × Nat) := [(0, .iload_n 1, 1), (1, .iload_n 2, 1), (2, .if_icmp .le 44, 3), (5, .new 43, 3), (8, .dup, 1), (9, .new 45, 3), (12, .dup, 1), (13, .invokespecial 47, 3), (16, .ldc 48, 2), (18, .invokevirtual 50, 3), (21, .iload_n 1, 1), (22, .invokevirtual 54, 3), (25, .ldc 57, 2), (27, .invokevirtual 50, 3), (30, .iload_n 2, 1), (31, .invokevirtual 54, 3), (34, .ldc 59, 2), (36, .invokevirtual 50, 3), (39, .invokevirtual 61, 3), (42, .invokespecial 65, 3), (45, .athrow, 1), (46, .iload_n 1, 1), (47, .ifCond .ge 12, 3), (50, .new 68, 3), (53, .dup, 1), (54, .iload_n 1, 1), (55, .invokespecial 70, 3), (58, .athrow, 1), (59, .iload_n 2, 1), (60, .iload_n 0, 1), (61, .if_icmp .le 12, 3), (64, .new 68, 3), (67, .dup, 1), (68, .iload_n 2, 1), (69, .invokespecial 70, 3), (72, .athrow, 1), (73, .return_, 1)]
theorem dcJ7_rangeCheck_23922_0 : tbJ7_rangeCheck_23922_0.all (fun q => decide (decode cJ7_rangeCheck_23922 q.1 = .ok q.2)) = true := by decide +kernel
def tbJ7_fill_d0a16_0 : List (Nat × Instr × Nat) := [(0, .iconst 0, 1), (1, .istore_n 3, 1), (2, .aload_n 0, 1), (3, .arraylength, 1), (4, .istore 4, 2), (6, .iload_n 3, 1), (7, .iload 4, 2), (9, .if_icmp .ge 13, 3), (12, .aload_n 0, 1), (13, .iload_n 3, 1), (14, .lload_n 1, 1), (15, .lastore, 1), (16, .iinc 3 1, 3), (19, .goto (-13), 3), (22, .return_, 1)]
theorem dcJ7_fill_d0a16_0 : tbJ7_fill_d0a16_0.all (fun q => decide (decode cJ7_fill_d0a16 q.1 = .ok q.2)) = true := by decide +kernel
def tbJ7_fill_fda19_0 : List (Nat × Instr × Nat) := [(0, .aload_n 0, 1), (1, .arraylength, 1), (2, .iload_n 1, 1), (3, .iload_n 2, 1), (4, .invokestatic 13, 3), (7, .iload_n 1, 1), (8, .istore 4, 2), (10, .iload 4, 2), (12, .iload_n 2, 1), (13, .if_icmp .ge 14, 3), (16, .aload_n 0, 1), (17, .iload 4, 2), (19, .iload_n 3, 1), (20, .iastore, 1), (21, .iinc 4 1, 3), (24, .goto (-14), 3), (27, .return_, 1)]
theorem dcJ7_fill_fda19_0 : tbJ7_fill_fda19_0.all (fun q => decide (decode cJ7_fill_fda19 q.1 = .ok q.2)) = true := by decide +kernel
def tbJ3_checkIndex_8e157_0 : List (Nat × Instr × Nat) := [(0, .iload_n 0, 1), (1, .ifCond .lt 8, 3), (4, .iload_n 0, 1), (5, .iload_n 1, 1), (6, .if_icmp .lt 10, 3), (9, .aload_n 2, 1), (10, .iload_n 0, 1), (11, .iload_n 1, 1), (12, .invokestatic 95, 3), (15, .athrow, 1), (16, .iload_n 0, 1), (17, .ireturn, 1)]
theorem dcJ3_checkIndex_8e157_0 : tbJ3_checkIndex_8e157_0.all (fun q => decide (decode cJ3_checkIndex_8e157 q.1 = .ok q.2)) = true := by decide +kernel
def tbJ3_checkFromToIndex_8c36e_0 : List (Nat × Instr × Nat) := [(0, .iload_n 0, 1), (1, .ifCond .lt 13, 3), (4, .iload_n 0, 1), (5, .iload_n 1, 1), (6, .if_icmp .gt 8, 3), (9, .iload_n 1, 1), (10, .iload_n 2, 1), (11, .if_icmp .le 11, 3), (14, .aload_n 3, 1), (15, .iload_n 0, 1), (16, .iload_n 1, 1), (17, .iload_n 2, 1), (18, .invokestatic 99, 3), (21, .athrow, 1), (22, .iload_n 0, 1), (23, .ireturn, 1)]
theorem dcJ3_checkFromToIndex_8c36e_0 : tbJ3_checkFromToIndex_8c36e_0.all (fun q => decide (decode cJ3_checkFromToIndex_8c36e q.1 = .ok q.2)) = true := by decide +kernel
def tbL_law_0 : List (Nat × Instr × Nat) := [(0, .new 7, 3), (3, .dup, 1), (4, .invokespecial 9, 3), (7, .astore_n 1, 1), (8, .new 10, 3), (11, .dup, 1), (12, .invokespecial 12, 3), (15, .astore_n 2, 1), (16, .iconst 0, 1), (17, .istore_n 3, 1), (18, .iload_n 3, 1), (19, .aload_n 0, 1), (20, .arraylength, 1), (21, .bipush 6, 2), (23, .isub, 1), (24, .if_icmp .gt 1174, 3), (27, .aload_n 0, 1), (28, .iload_n 3, 1), (29, .iaload, 1), (30, .bipush 63, 2), (32, .iand, 1), (33, .tableswitch 1159 0 35 #[159, 202, 235, 268, 291, 314, 327, 350, 373, 396, 419, 442, 475, 508, 541, 554, 567, 580, 593, 616, 650, 683, 706, 729, 752, 765, 798, 811, 824, 867, 890, 923, 946, 989, 1062, 1096], 159), (192, .aload_n 1, 1), (193, .aload_n 0, 1), (194, .iload_n 3, 1), (195, .iconst 1, 1), (196, .iadd, 1), (197, .iaload, 1), (198, .aload_n 0, 1), (199, .iload_n 3, 1), (200, .iconst 2, 1), (201, .iadd, 1), (202, .iaload, 1), (203, .aload_n 0, 1), (204, .iload_n 3, 1), (205, .iconst 3, 1), (206, .iadd, 1), (207, .iaload, 1), (208, .invokevirtual 13, 3), (211, .aload_n 2, 1), (212, .aload_n 0, 1), (213, .iload_n 3, 1), (214, .iconst 1, 1), (215, .iadd, 1), (216, .iaload, 1), (217, .aload_n 0, 1), (218, .iload_n 3, 1), (219, .iconst 2, 1)]
theorem dcL_law_0 : tbL_law_0.all (fun q => decide (decode cL_law q.1 = .ok q.2)) = true := by decide +kernel
def tbL_law_1 : List (Nat × Instr × Nat) := [(220, .iadd, 1), (221, .iaload, 1), (222, .aload_n 0, 1), (223, .iload_n 3, 1), (224, .iconst 3, 1), (225, .iadd, 1), (226, .iaload, 1), (227, .invokevirtual 17, 3), (230, .if_icmp .eq 962, 3), (233, .iconst 0, 1), (234, .ireturn, 1), (235, .aload_n 1, 1), (236, .aload_n 0, 1), (237, .iload_n 3, 1), (238, .iconst 1, 1), (239, .iadd, 1), (240, .iaload, 1), (241, .aload_n 0, 1), (242, .iload_n 3, 1), (243, .iconst 2, 1), (244, .iadd, 1), (245, .iaload, 1), (246, .invokevirtual 18, 3), (249, .aload_n 2, 1), (250, .aload_n 0, 1), (251, .iload_n 3, 1), (252, .iconst 1, 1), (253, .iadd, 1), (254, .iaload, 1), (255, .aload_n 0, 1), (256, .iload_n 3, 1), (257, .iconst 2, 1), (258, .iadd, 1), (259, .iaload, 1), (260, .invokevirtual 22, 3), (263, .if_icmp .eq 929, 3), (266, .iconst 0, 1), (267, .ireturn, 1), (268, .aload_n 1, 1), (269, .aload_n 0, 1), (270, .iload_n 3, 1), (271, .iconst 1, 1), (272, .iadd, 1), (273, .iaload, 1), (274, .aload_n 0, 1), (275, .iload_n 3, 1), (276, .iconst 2, 1), (277, .iadd, 1)]
theorem dcL_law_1 : tbL_law_1.all (fun q => decide (decode cL_law q.1 = .ok q.2)) = true := by decide +kernel
def tbL_law_2 : List (Nat × Instr × Nat) := [(278, .iaload, 1), (279, .invokevirtual 23, 3), (282, .aload_n 2, 1), (283, .aload_n 0, 1), (284, .iload_n 3, 1), (285, .iconst 1, 1), (286, .iadd, 1), (287, .iaload, 1), (288, .aload_n 0, 1), (289, .iload_n 3, 1), (290, .iconst 2, 1), (291, .iadd, 1), (292, .iaload, 1), (293, .invokevirtual 26, 3), (296, .if_icmp .eq 896, 3), (299, .iconst 0, 1), (300, .ireturn, 1), (301, .aload_n 1, 1), (302, .aload_n 0, 1), (303, .iload_n 3, 1), (304, .iconst 1, 1), (305, .iadd, 1), (306, .iaload, 1), (307, .invokevirtual 27, 3), (310, .aload_n 2, 1), (311, .aload_n 0, 1), (312, .iload_n 3, 1), (313, .iconst 1, 1), (314, .iadd, 1), (315, .iaload, 1), (316, .invokevirtual 31, 3), (319, .if_icmp .eq 873, 3), (322, .iconst 0, 1), (323, .ireturn, 1), (324, .aload_n 1, 1), (325, .aload_n 0, 1), (326, .iload_n 3, 1), (327, .iconst 1, 1), (328, .iadd, 1), (329, .iaload, 1), (330, .invokevirtual 32, 3), (333, .aload_n 2, 1), (334, .aload_n 0, 1), (335, .iload_n 3, 1), (336, .iconst 1, 1), (337, .iadd, 1), (338, .iaload, 1), (339, .invokevirtual 35, 3)]
theorem dcL_law_2 : tbL_law_2.all (fun q => decide (decode cL_law q.1 = .ok q.2)) = true := by decide +kernel
def tbL_law_3 : List (Nat × Instr × Nat) := [(342, .if_icmp .eq 850, 3), (345, .iconst 0, 1), (346, .ireturn, 1), (347, .aload_n 1, 1), (348, .invokevirtual 36, 3), (351, .aload_n 2, 1), (352, .invokevirtual 40, 3), (355, .if_icmp .eq 837, 3), (358, .iconst 0, 1), (359, .ireturn, 1), (360, .aload_n 1, 1), (361, .aload_n 0, 1), (362, .iload_n 3, 1), (363, .iconst 1, 1), (364, .iadd, 1), (365, .iaload, 1), (366, .invokevirtual 41, 3), (369, .aload_n 2, 1), (370, .aload_n 0, 1), (371, .iload_n 3, 1), (372, .iconst 1, 1), (373, .iadd, 1), (374, .iaload, 1), (375, .invokevirtual 44, 3), (378, .if_icmp .eq 814, 3), (381, .iconst 0, 1), (382, .ireturn, 1), (383, .aload_n 1, 1), (384, .aload_n 0, 1), (385, .iload_n 3, 1), (386, .iconst 1, 1), (387, .iadd, 1), (388, .iaload, 1), (389, .invokevirtual 45, 3), (392, .aload_n 2, 1), (393, .aload_n 0, 1), (394, .iload_n 3, 1), (395, .iconst 1, 1), (396, .iadd, 1), (397, .iaload, 1), (398, .invokevirtual 48, 3), (401, .if_icmp .eq 791, 3), (404, .iconst 0, 1), (405, .ireturn, 1), (406, .aload_n 1, 1), (407, .aload_n 0, 1), (408, .iload_n 3, 1), (409, .iconst 1, 1)]
theorem dcL_law_3 : tbL_law_3.all (fun q => decide (decode cL_law q.1 = .ok q.2)) = true := by decide +kernel
def tbL_law_4 : List (Nat × Instr × Nat) := [(410, .iadd, 1), (411, .iaload, 1), (412, .invokevirtual 49, 3), (415, .aload_n 2, 1), (416, .aload_n 0, 1), (417, .iload_n 3, 1), (418, .iconst 1, 1), (419, .iadd, 1), (420, .iaload, 1), (421, .invokevirtual 52, 3), (424, .if_icmp .eq 768, 3), (427, .iconst 0, 1), (428, .ireturn, 1), (429, .aload_n 1, 1), (430, .aload_n 0, 1), (431, .iload_n 3, 1), (432, .iconst 1, 1), (433, .iadd, 1), (434, .iaload, 1), (435, .invokevirtual 53, 3), (438, .aload_n 2, 1), (439, .aload_n 0, 1), (440, .iload_n 3, 1), (441, .iconst 1, 1), (442, .iadd, 1), (443, .iaload, 1), (444, .invokevirtual 56, 3), (447, .if_icmp .eq 745, 3), (450, .iconst 0, 1), (451, .ireturn, 1), (452, .aload_n 1, 1), (453, .aload_n 0, 1), (454, .iload_n 3, 1), (455, .iconst 1, 1), (456, .iadd, 1), (457, .iaload, 1), (458, .invokevirtual 57, 3), (461, .aload_n 2, 1), (462, .aload_n 0, 1), (463, .iload_n 3, 1), (464, .iconst 1, 1), (465, .iadd, 1), (466, .iaload, 1), (467, .invokevirtual 60, 3), (470, .if_icmp .eq 722, 3), (473, .iconst 0, 1), (474, .ireturn, 1), (475, .aload_n 1, 1)]
theorem dcL_law_4 : tbL_law_4.all (fun q => decide (decode cL_law q.1 = .ok q.2)) = true := by decide +kernel
def tbL_law_5 : List (Nat × Instr × Nat) := [(476, .aload_n 0, 1), (477, .iload_n 3, 1), (478, .iconst 1, 1), (479, .iadd, 1), (480, .iaload, 1), (481, .aload_n 0, 1), (482, .iload_n 3, 1), (483, .iconst 2, 1), (484, .iadd, 1), (485, .iaload, 1), (486, .invokevirtual 61, 3), (489, .aload_n 2, 1), (490, .aload_n 0, 1), (491, .iload_n 3, 1), (492, .iconst 1, 1), (493, .iadd, 1), (494, .iaload, 1), (495, .aload_n 0, 1), (496, .iload_n 3, 1), (497, .iconst 2, 1), (498, .iadd, 1), (499, .iaload, 1), (500, .invokevirtual 64, 3), (503, .if_icmp .eq 689, 3), (506, .iconst 0, 1), (507, .ireturn, 1), (508, .aload_n 1, 1), (509, .aload_n 0, 1), (510, .iload_n 3, 1), (511, .iconst 1, 1), (512, .iadd, 1), (513, .iaload, 1), (514, .aload_n 0, 1), (515, .iload_n 3, 1), (516, .iconst 2, 1), (517, .iadd, 1), (518, .iaload, 1), (519, .invokevirtual 65, 3), (522, .aload_n 2, 1), (523, .aload_n 0, 1), (524, .iload_n 3, 1), (525, .iconst 1, 1), (526, .iadd, 1), (527, .iaload, 1), (528, .aload_n 0, 1), (529, .iload_n 3, 1), (530, .iconst 2, 1), (531, .iadd, 1)]
theorem dcL_law_5 : tbL_law_5.all (fun q => decide (decode cL_law q.1 = .ok q.2)) = true := by decide +kernel
def tbL_law_6 : List (Nat × Instr × Nat) := [(532, .iaload, 1), (533, .invokevirtual 68, 3), (536, .if_icmp .eq 656, 3), (539, .iconst 0, 1), (540, .ireturn, 1), (541, .aload_n 1, 1), (542, .aload_n 0, 1), (543, .iload_n 3, 1), (544, .iconst 1, 1), (545, .iadd, 1), (546, .iaload, 1), (547, .aload_n 0, 1), (548, .iload_n 3, 1), (549, .iconst 2, 1), (550, .iadd, 1), (551, .iaload, 1), (552, .invokevirtual 69, 3), (555, .aload_n 2, 1), (556, .aload_n 0, 1), (557, .iload_n 3, 1), (558, .iconst 1, 1), (559, .iadd, 1), (560, .iaload, 1), (561, .aload_n 0, 1), (562, .iload_n 3, 1), (563, .iconst 2, 1), (564, .iadd, 1), (565, .iaload, 1), (566, .invokevirtual 72, 3), (569, .if_icmp .eq 623, 3), (572, .iconst 0, 1), (573, .ireturn, 1), (574, .aload_n 1, 1), (575, .invokevirtual 73, 3), (578, .aload_n 2, 1), (579, .invokevirtual 76, 3), (582, .if_icmp .eq 610, 3), (585, .iconst 0, 1), (586, .ireturn, 1), (587, .aload_n 1, 1), (588, .invokevirtual 77, 3), (591, .aload_n 2, 1), (592, .invokevirtual 80, 3), (595, .if_icmp .eq 597, 3), (598, .iconst 0, 1), (599, .ireturn, 1), (600, .aload_n 1, 1), (601, .invokevirtual 81, 3)]
theorem dcL_law_6 : tbL_law_6.all (fun q => decide (decode cL_law q.1 = .ok q.2)) = true := by decide +kernel
def tbL_law_7 : List (Nat × Instr × Nat) := [(604, .aload_n 2, 1), (605, .invokevirtual 84, 3), (608, .if_icmp .eq 584, 3), (611, .iconst 0, 1), (612, .ireturn, 1), (613, .aload_n 1, 1), (614, .invokevirtual 85, 3), (617, .aload_n 2, 1), (618, .invokevirtual 88, 3), (621, .if_icmp .eq 571, 3), (624, .iconst 0, 1), (625, .ireturn, 1), (626, .aload_n 1, 1), (627, .aload_n 0, 1), (628, .iload_n 3, 1), (629, .iconst 1, 1), (630, .iadd, 1), (631, .iaload, 1), (632, .invokevirtual 89, 3), (635, .aload_n 2, 1), (636, .aload_n 0, 1), (637, .iload_n 3, 1), (638, .iconst 1, 1), (639, .iadd, 1), (640, .iaload, 1), (641, .invokevirtual 92, 3), (644, .if_icmp .eq 548, 3), (647, .iconst 0, 1), (648, .ireturn, 1), (649, .aload_n 1, 1), (650, .aload_n 0, 1), (651, .iload_n 3, 1), (652, .iconst 1, 1), (653, .iadd, 1), (654, .iaload, 1), (655, .aload_n 0, 1), (656, .iload_n 3, 1), (657, .iconst 2, 1), (658, .iadd, 1), (659, .iaload, 1), (660, .invokevirtual 93, 3), (663, .aload_n 2, 1), (664, .aload_n 0, 1), (665, .iload_n 3, 1), (666, .iconst 1, 1), (667, .iadd, 1), (668, .iaload, 1), (669, .aload_n 0, 1)]
theorem dcL_law_7 : tbL_law_7.all (fun q => decide (decode cL_law q.1 = .ok q.2)) = true := by decide +kernel
def tbL_law_8 : List (Nat × Instr × Nat) := [(670, .iload_n 3, 1), (671, .iconst 2, 1), (672, .iadd, 1), (673, .iaload, 1), (674, .invokevirtual 97, 3), (677, .lcmp, 1), (678, .ifCond .eq 514, 3), (681, .iconst 0, 1), (682, .ireturn, 1), (683, .aload_n 1, 1), (684, .aload_n 0, 1), (685, .iload_n 3, 1), (686, .iconst 1, 1), (687, .iadd, 1), (688, .iaload, 1), (689, .aload_n 0, 1), (690, .iload_n 3, 1), (691, .iconst 2, 1), (692, .iadd, 1), (693, .iaload, 1), (694, .invokevirtual 98, 3), (697, .aload_n 2, 1), (698, .aload_n 0, 1), (699, .iload_n 3, 1), (700, .iconst 1, 1), (701, .iadd, 1), (702, .iaload, 1), (703, .aload_n 0, 1), (704, .iload_n 3, 1), (705, .iconst 2, 1), (706, .iadd, 1), (707, .iaload, 1), (708, .invokevirtual 101, 3), (711, .if_icmp .eq 481, 3), (714, .iconst 0, 1), (715, .ireturn, 1), (716, .aload_n 1, 1), (717, .aload_n 0, 1), (718, .iload_n 3, 1), (719, .iconst 1, 1), (720, .iadd, 1), (721, .iaload, 1), (722, .invokevirtual 102, 3), (725, .aload_n 2, 1), (726, .aload_n 0, 1), (727, .iload_n 3, 1), (728, .iconst 1, 1), (729, .iadd, 1)]
theorem dcL_law_8 : tbL_law_8.all (fun q => decide (decode cL_law q.1 = .ok q.2)) = true := by decide +kernel
def tbL_law_9 : List (Nat × Instr × Nat) := [(730, .iaload, 1), (731, .invokevirtual 105, 3), (734, .if_icmp .eq 458, 3), (737, .iconst 0, 1), (738, .ireturn, 1), (739, .aload_n 1, 1), (740, .aload_n 0, 1), (741, .iload_n 3, 1), (742, .iconst 1, 1), (743, .iadd, 1), (744, .iaload, 1), (745, .invokevirtual 106, 3), (748, .aload_n 2, 1), (749, .aload_n 0, 1), (750, .iload_n 3, 1), (751, .iconst 1, 1), (752, .iadd, 1), (753, .iaload, 1), (754, .invokevirtual 109, 3), (757, .if_icmp .eq 435, 3), (760, .iconst 0, 1), (761, .ireturn, 1), (762, .aload_n 1, 1), (763, .aload_n 0, 1), (764, .iload_n 3, 1), (765, .iconst 1, 1), (766, .iadd, 1), (767, .iaload, 1), (768, .invokevirtual 110, 3), (771, .aload_n 2, 1), (772, .aload_n 0, 1), (773, .iload_n 3, 1), (774, .iconst 1, 1), (775, .iadd, 1), (776, .iaload, 1), (777, .invokevirtual 113, 3), (780, .if_icmp .eq 412, 3), (783, .iconst 0, 1), (784, .ireturn, 1), (785, .aload_n 1, 1), (786, .invokevirtual 114, 3), (789, .aload_n 2, 1), (790, .invokevirtual 117, 3), (793, .if_icmp .eq 399, 3), (796, .iconst 0, 1), (797, .ireturn, 1), (798, .aload_n 1, 1), (799, .aload_n 0, 1)]
theorem dcL_law_9 : tbL_law_9.all (fun q => decide (decode cL_law q.1 = .ok q.2)) = true := by decide +kernel
def tbL_law_10 : List (Nat × Instr × Nat) := [(800, .iload_n 3, 1), (801, .iconst 1, 1), (802, .iadd, 1), (803, .iaload, 1), (804, .aload_n 0, 1), (805, .iload_n 3, 1), (806, .iconst 2, 1), (807, .iadd, 1), (808, .iaload, 1), (809, .invokevirtual 118, 3), (812, .aload_n 2, 1), (813, .aload_n 0, 1), (814, .iload_n 3, 1), (815, .iconst 1, 1), (816, .iadd, 1), (817, .iaload, 1), (818, .aload_n 0, 1), (819, .iload_n 3, 1), (820, .iconst 2, 1), (821, .iadd, 1), (822, .iaload, 1), (823, .invokevirtual 121, 3), (826, .if_icmp .eq 366, 3), (829, .iconst 0, 1), (830, .ireturn, 1), (831, .aload_n 1, 1), (832, .invokevirtual 122, 3), (835, .aload_n 2, 1), (836, .invokevirtual 125, 3), (839, .if_icmp .eq 353, 3), (842, .iconst 0, 1), (843, .ireturn, 1), (844, .aload_n 1, 1), (845, .invokevirtual 126, 3), (848, .aload_n 2, 1), (849, .invokevirtual 129, 3), (852, .if_icmp .eq 340, 3), (855, .iconst 0, 1), (856, .ireturn, 1), (857, .aload_n 1, 1), (858, .aload_n 0, 1), (859, .iload_n 3, 1), (860, .iconst 1, 1), (861, .iadd, 1), (862, .iaload, 1), (863, .aload_n 0, 1), (864, .iload_n 3, 1), (865, .iconst 2, 1)]
theorem dcL_law_10 : tbL_law_10.all (fun q => decide (decode cL_law q.1 = .ok q.2)) = true := by decide +kernel
def tbL_law_11 : List (Nat × Instr × Nat) := [(866, .iadd, 1), (867, .iaload, 1), (868, .aload_n 0, 1), (869, .iload_n 3, 1), (870, .iconst 3, 1), (871, .iadd, 1), (872, .iaload, 1), (873, .invokevirtual 130, 3), (876, .aload_n 2, 1), (877, .aload_n 0, 1), (878, .iload_n 3, 1), (879, .iconst 1, 1), (880, .iadd, 1), (881, .iaload, 1), (882, .aload_n 0, 1), (883, .iload_n 3, 1), (884, .iconst 2, 1), (885, .iadd, 1), (886, .iaload, 1), (887, .aload_n 0, 1), (888, .iload_n 3, 1), (889, .iconst 3, 1), (890, .iadd, 1), (891, .iaload, 1), (892, .invokevirtual 133, 3), (895, .if_icmp .eq 297, 3), (898, .iconst 0, 1), (899, .ireturn, 1), (900, .aload_n 1, 1), (901, .aload_n 0, 1), (902, .iload_n 3, 1), (903, .iconst 1, 1), (904, .iadd, 1), (905, .iaload, 1), (906, .invokevirtual 134, 3), (909, .aload_n 2, 1), (910, .aload_n 0, 1), (911, .iload_n 3, 1), (912, .iconst 1, 1), (913, .iadd, 1), (914, .iaload, 1), (915, .invokevirtual 137, 3), (918, .if_icmp .eq 274, 3), (921, .iconst 0, 1), (922, .ireturn, 1), (923, .aload_n 1, 1), (924, .aload_n 0, 1), (925, .iload_n 3, 1)]
theorem dcL_law_11 : tbL_law_11.all (fun q => decide (decode cL_law q.1 = .ok q.2)) = true := by decide +kernel
def tbL_law_12 : List (Nat × Instr × Nat) := [(926, .iconst 1, 1), (927, .iadd, 1), (928, .iaload, 1), (929, .aload_n 0, 1), (930, .iload_n 3, 1), (931, .iconst 2, 1), (932, .iadd, 1), (933, .iaload, 1), (934, .invokevirtual 138, 3), (937, .aload_n 2, 1), (938, .aload_n 0, 1), (939, .iload_n 3, 1), (940, .iconst 1, 1), (941, .iadd, 1), (942, .iaload, 1), (943, .aload_n 0, 1), (944, .iload_n 3, 1), (945, .iconst 2, 1), (946, .iadd, 1), (947, .iaload, 1), (948, .invokevirtual 141, 3), (951, .if_icmp .eq 241, 3), (954, .iconst 0, 1), (955, .ireturn, 1), (956, .aload_n 1, 1), (957, .aload_n 0, 1), (958, .iload_n 3, 1), (959, .iconst 1, 1), (960, .iadd, 1), (961, .iaload, 1), (962, .invokevirtual 142, 3), (965, .aload_n 2, 1), (966, .aload_n 0, 1), (967, .iload_n 3, 1), (968, .iconst 1, 1), (969, .iadd, 1), (970, .iaload, 1), (971, .invokevirtual 145, 3), (974, .if_icmp .eq 218, 3), (977, .iconst 0, 1), (978, .ireturn, 1), (979, .aload_n 1, 1), (980, .aload_n 0, 1), (981, .iload_n 3, 1), (982, .iconst 1, 1), (983, .iadd, 1), (984, .iaload, 1), (985, .aload_n 0, 1)]
theorem dcL_law_12 : tbL_law_12.all (fun q => decide (decode cL_law q.1 = .ok q.2)) = true := by decide +kernel
def tbL_law_13 : List (Nat × Instr × Nat) := [(986, .iload_n 3, 1), (987, .iconst 2, 1), (988, .iadd, 1), (989, .iaload, 1), (990, .aload_n 0, 1), (991, .iload_n 3, 1), (992, .iconst 3, 1), (993, .iadd, 1), (994, .iaload, 1), (995, .invokevirtual 146, 3), (998, .aload_n 2, 1), (999, .aload_n 0, 1), (1000, .iload_n 3, 1), (1001, .iconst 1, 1), (1002, .iadd, 1), (1003, .iaload, 1), (1004, .aload_n 0, 1), (1005, .iload_n 3, 1), (1006, .iconst 2, 1), (1007, .iadd, 1), (1008, .iaload, 1), (1009, .aload_n 0, 1), (1010, .iload_n 3, 1), (1011, .iconst 3, 1), (1012, .iadd, 1), (1013, .iaload, 1), (1014, .invokevirtual 149, 3), (1017, .if_icmp .eq 175, 3), (1020, .iconst 0, 1), (1021, .ireturn, 1), (1022, .aload_n 1, 1), (1023, .aload_n 0, 1), (1024, .iload_n 3, 1), (1025, .iconst 1, 1), (1026, .iadd, 1), (1027, .iaload, 1), (1028, .aload_n 0, 1), (1029, .iload_n 3, 1), (1030, .iconst 2, 1), (1031, .iadd, 1), (1032, .iaload, 1), (1033, .aload_n 0, 1), (1034, .iload_n 3, 1), (1035, .iconst 3, 1), (1036, .iadd, 1), (1037, .iaload, 1), (1038, .i2l, 1), (1039, .bipush 32, 2)]
theorem dcL_law_13 : tbL_law_13.all (fun q => decide (decode cL_law q.1 = .ok q.2)) = true := by decide +kernel
def tbL_law_14 : List (Nat × Instr × Nat) := [(1041, .lshl, 1), (1042, .aload_n 0, 1), (1043, .iload_n 3, 1), (1044, .iconst 4, 1), (1045, .iadd, 1), (1046, .iaload, 1), (1047, .i2l, 1), (1048, .ldc2_w 150, 3), (1051, .land, 1), (1052, .lor, 1), (1053, .invokevirtual 152, 3), (1056, .aload_n 2, 1), (1057, .aload_n 0, 1), (1058, .iload_n 3, 1), (1059, .iconst 1, 1), (1060, .iadd, 1), (1061, .iaload, 1), (1062, .aload_n 0, 1), (1063, .iload_n 3, 1), (1064, .iconst 2, 1), (1065, .iadd, 1), (1066, .iaload, 1), (1067, .aload_n 0, 1), (1068, .iload_n 3, 1), (1069, .iconst 3, 1), (1070, .iadd, 1), (1071, .iaload, 1), (1072, .i2l, 1), (1073, .bipush 32, 2), (1075, .lshl, 1), (1076, .aload_n 0, 1), (1077, .iload_n 3, 1), (1078, .iconst 4, 1), (1079, .iadd, 1), (1080, .iaload, 1), (1081, .i2l, 1), (1082, .ldc2_w 150, 3), (1085, .land, 1), (1086, .lor, 1), (1087, .invokevirtual 156, 3), (1090, .if_icmp .eq 102, 3), (1093, .iconst 0, 1), (1094, .ireturn, 1), (1095, .aload_n 1, 1), (1096, .aload_n 0, 1), (1097, .iload_n 3, 1), (1098, .iconst 1, 1), (1099, .iadd, 1)]
theorem dcL_law_14 : tbL_law_14.all (fun q => decide (decode cL_law q.1 = .ok q.2)) = true := by decide +kernel
def tbL_law_15 : List (Nat × Instr × Nat) := [(1100, .iaload, 1), (1101, .aload_n 0, 1), (1102, .iload_n 3, 1), (1103, .iconst 2, 1), (1104, .iadd, 1), (1105, .iaload, 1), (1106, .invokevirtual 157, 3), (1109, .aload_n 2, 1), (1110, .aload_n 0, 1), (1111, .iload_n 3, 1), (1112, .iconst 1, 1), (1113, .iadd, 1), (1114, .iaload, 1), (1115, .aload_n 0, 1), (1116, .iload_n 3, 1), (1117, .iconst 2, 1), (1118, .iadd, 1), (1119, .iaload, 1), (1120, .invokevirtual 160, 3), (1123, .lcmp, 1), (1124, .ifCond .eq 68, 3), (1127, .iconst 0, 1), (1128, .ireturn, 1), (1129, .aload_n 1, 1), (1130, .aload_n 0, 1), (1131, .iload_n 3, 1), (1132, .iconst 1, 1), (1133, .iadd, 1), (1134, .iaload, 1), (1135, .aload_n 0, 1), (1136, .iload_n 3, 1), (1137, .iconst 2, 1), (1138, .iadd, 1), (1139, .iaload, 1), (1140, .aload_n 0, 1), (1141, .iload_n 3, 1), (1142, .iconst 3, 1), (1143, .iadd, 1), (1144, .iaload, 1), (1145, .aload_n 0, 1), (1146, .iload_n 3, 1), (1147, .iconst 4, 1), (1148, .iadd, 1), (1149, .iaload, 1), (1150, .aload_n 0, 1), (1151, .iload_n 3, 1), (1152, .iconst 5, 1), (1153, .iadd, 1)]
theorem dcL_law_15 : tbL_law_15.all (fun q => decide (decode cL_law q.1 = .ok q.2)) = true := by decide +kernel
def tbL_law_16 : List (Nat × Instr × Nat) := [(1154, .iaload, 1), (1155, .invokevirtual 161, 3), (1158, .aload_n 2, 1), (1159, .aload_n 0, 1), (1160, .iload_n 3, 1), (1161, .iconst 1, 1), (1162, .iadd, 1), (1163, .iaload, 1), (1164, .aload_n 0, 1), (1165, .iload_n 3, 1), (1166, .iconst 2, 1), (1167, .iadd, 1), (1168, .iaload, 1), (1169, .aload_n 0, 1), (1170, .iload_n 3, 1), (1171, .iconst 3, 1), (1172, .iadd, 1), (1173, .iaload, 1), (1174, .aload_n 0, 1), (1175, .iload_n 3, 1), (1176, .iconst 4, 1), (1177, .iadd, 1), (1178, .iaload, 1), (1179, .aload_n 0, 1), (1180, .iload_n 3, 1), (1181, .iconst 5, 1), (1182, .iadd, 1), (1183, .iaload, 1), (1184, .invokevirtual 165, 3), (1187, .if_icmp .eq 5, 3), (1190, .iconst 0, 1), (1191, .ireturn, 1), (1192, .iinc 3 6, 3), (1195, .goto (-1177), 3), (1198, .iconst 1, 1), (1199, .ireturn, 1)]
theorem dcL_law_16 : tbL_law_16.all (fun q => decide (decode cL_law q.1 = .ok q.2)) = true := by decide +kernel
