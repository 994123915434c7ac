def RDM : String := "DrumMachine"
def RDg : String := "DrumMachine$Digits"
def RDr : String := "DrumMachine$Drum"
def RCd : String := "DrumMachine$CardDeck"
def RPu : String := "DrumMachine$Punch"
def ROp : String := "DrumMachine$Operations"
def RAc : String := "DrumMachine$Accumulator"
def RPr : String := "DrumMachine$Processor"
def RAs : String := "DrumMachine$Assembler"
def RMo : String := "DrumMachineModel"
def RLa : String := "DrumMachineLaw"
def RMa : String := "java/lang/Math"
def RAr : String := "java/util/Arrays"
def TDM : u_T := fun k => match k with
  | 0 => ("DrumMachine", "drum", "LDrumMachine$Drum;", true)
  | 1 => ("DrumMachine", "cards", "LDrumMachine$CardDeck;", true)
  | 2 => ("DrumMachine", "punch", "LDrumMachine$Punch;", true)
  | 3 => ("DrumMachine", "processor", "LDrumMachine$Processor;", true)
  | _ => ("DrumMachine", "assembler", "LDrumMachine$Assembler;", true)
def tyDM : Nat → FieldType := fun k => match k with
  | 0 => .object "DrumMachine$Drum"
  | 1 => .object "DrumMachine$CardDeck"
  | 2 => .object "DrumMachine$Punch"
  | 3 => .object "DrumMachine$Processor"
  | _ => .object "DrumMachine$Assembler"
theorem nmDM : ∀ a, a < 5 → ∀ b, b < 5 → a ≠ b → (TDM a).2.1 ≠ (TDM b).2.1 := by decide +kernel
theorem tyDM_ok : ∀ k, k < 5 → parseFieldDescriptor (TDM k).2.2.1 = some (tyDM k) := by decide +kernel
def TDr : u_T := fun k => match k with
  | 0 => ("DrumMachine$Drum", "codes", "[I", true)
  | 1 => ("DrumMachine$Drum", "values", "[J", true)
  | _ => ("DrumMachine$Drum", "minus", "[Z", true)
def tyDr : Nat → FieldType := fun k => match k with
  | 0 => .array .int
  | 1 => .array .long
  | _ => .array .boolean
theorem nmDr : ∀ a, a < 3 → ∀ b, b < 3 → a ≠ b → (TDr a).2.1 ≠ (TDr b).2.1 := by decide +kernel
theorem tyDr_ok : ∀ k, k < 3 → parseFieldDescriptor (TDr k).2.2.1 = some (tyDr k) := by decide +kernel
def TCd : u_T := fun k => match k with
  | 0 => ("DrumMachine$CardDeck", "values", "[J", true)
  | 1 => ("DrumMachine$CardDeck", "minus", "[Z", true)
  | 2 => ("DrumMachine$CardDeck", "first", "I", false)
  | _ => ("DrumMachine$CardDeck", "count", "I", false)
def tyCd : Nat → FieldType := fun k => match k with
  | 0 => .array .long
  | 1 => .array .boolean
  | 2 => .int
  | _ => .int
theorem nmCd : ∀ a, a < 4 → ∀ b, b < 4 → a ≠ b → (TCd a).2.1 ≠ (TCd b).2.1 := by decide +kernel
theorem tyCd_ok : ∀ k, k < 4 → parseFieldDescriptor (TCd k).2.2.1 = some (tyCd k) := by decide +kernel
def TPu : u_T := fun k => match k with
  | 0 => ("DrumMachine$Punch", "words", "[J", true)
  | _ => ("DrumMachine$Punch", "count", "I", false)
def tyPu : Nat → FieldType := fun k => match k with
  | 0 => .array .long
  | _ => .int
theorem nmPu : ∀ a, a < 2 → ∀ b, b < 2 → a ≠ b → (TPu a).2.1 ≠ (TPu b).2.1 := by decide +kernel
theorem tyPu_ok : ∀ k, k < 2 → parseFieldDescriptor (TPu k).2.2.1 = some (tyPu k) := by decide +kernel
def TPr : u_T := fun k => match k with
  | 0 => ("DrumMachine$Processor", "drum", "LDrumMachine$Drum;", true)
  | 1 => ("DrumMachine$Processor", "cards", "LDrumMachine$CardDeck;", true)
  | 2 => ("DrumMachine$Processor", "punch", "LDrumMachine$Punch;", true)
  | 3 => ("DrumMachine$Processor", "accumulator", "LDrumMachine$Accumulator;", true)
  | 4 => ("DrumMachine$Processor", "distributor", "J", false)
  | 5 => ("DrumMachine$Processor", "distributorMinus", "Z", false)
  | 6 => ("DrumMachine$Processor", "next", "I", false)
  | 7 => ("DrumMachine$Processor", "cause", "I", false)
  | _ => ("DrumMachine$Processor", "time", "J", false)
def tyPr : Nat → FieldType := fun k => match k with
  | 0 => .object "DrumMachine$Drum"
  | 1 => .object "DrumMachine$CardDeck"
  | 2 => .object "DrumMachine$Punch"
  | 3 => .object "DrumMachine$Accumulator"
  | 4 => .long
  | 5 => .boolean
  | 6 => .int
  | 7 => .int
  | _ => .long
theorem nmPr : ∀ a, a < 9 → ∀ b, b < 9 → a ≠ b → (TPr a).2.1 ≠ (TPr b).2.1 := by decide +kernel
theorem tyPr_ok : ∀ k, k < 9 → parseFieldDescriptor (TPr k).2.2.1 = some (tyPr k) := by decide +kernel
def TAc : u_T := fun k => match k with
  | 0 => ("DrumMachine$Accumulator", "upper", "J", false)
  | 1 => ("DrumMachine$Accumulator", "lower", "J", false)
  | 2 => ("DrumMachine$Accumulator", "minus", "Z", false)
  | _ => ("DrumMachine$Accumulator", "overflow", "Z", false)
def tyAc : Nat → FieldType := fun k => match k with
  | 0 => .long
  | 1 => .long
  | 2 => .boolean
  | _ => .boolean
theorem nmAc : ∀ a, a < 4 → ∀ b, b < 4 → a ≠ b → (TAc a).2.1 ≠ (TAc b).2.1 := by decide +kernel
theorem tyAc_ok : ∀ k, k < 4 → parseFieldDescriptor (TAc k).2.2.1 = some (tyAc k) := by decide +kernel
def TAs : u_T := fun k => match k with
  | 0 => ("DrumMachine$Assembler", "locationParts", "[I", true)
  | 1 => ("DrumMachine$Assembler", "operations", "[I", true)
  | 2 => ("DrumMachine$Assembler", "dataParts", "[I", true)
  | 3 => ("DrumMachine$Assembler", "nextParts", "[I", true)
  | 4 => ("DrumMachine$Assembler", "locations", "[I", true)
  | 5 => ("DrumMachine$Assembler", "data", "[I", true)
  | 6 => ("DrumMachine$Assembler", "nexts", "[I", true)
  | 7 => ("DrumMachine$Assembler", "symbolPlaces", "[I", true)
  | 8 => ("DrumMachine$Assembler", "reserved", "[Z", true)
  | 9 => ("DrumMachine$Assembler", "taken", "[Z", true)
  | _ => ("DrumMachine$Assembler", "count", "I", false)
def tyAs : Nat → FieldType := fun k => match k with
  | 0 => .array .int
  | 1 => .array .int
  | 2 => .array .int
  | 3 => .array .int
  | 4 => .array .int
  | 5 => .array .int
  | 6 => .array .int
  | 7 => .array .int
  | 8 => .array .boolean
  | 9 => .array .boolean
  | _ => .int
theorem nmAs : ∀ a, a < 11 → ∀ b, b < 11 → a ≠ b → (TAs a).2.1 ≠ (TAs b).2.1 := by decide +kernel
theorem tyAs_ok : ∀ k, k < 11 → parseFieldDescriptor (TAs k).2.2.1 = some (tyAs k) := by decide +kernel
def TMo : u_T := fun k => match k with
  | 0 => ("DrumMachineModel", "code", "I", false)
  | 1 => ("DrumMachineModel", "digits", "[I", true)
  | 2 => ("DrumMachineModel", "minus", "[Z", true)
  | 3 => ("DrumMachineModel", "upper", "J", false)
  | 4 => ("DrumMachineModel", "lower", "J", false)
  | 5 => ("DrumMachineModel", "distributor", "J", false)
  | 6 => ("DrumMachineModel", "negative", "Z", false)
  | 7 => ("DrumMachineModel", "negativeDistributor", "Z", false)
  | 8 => ("DrumMachineModel", "overflow", "Z", false)
  | 9 => ("DrumMachineModel", "next", "I", false)
  | 10 => ("DrumMachineModel", "fault", "I", false)
  | 11 => ("DrumMachineModel", "time", "J", false)
  | 12 => ("DrumMachineModel", "cards", "I", false)
  | 13 => ("DrumMachineModel", "card", "[J", true)
  | 14 => ("DrumMachineModel", "cardMinus", "[Z", true)
  | 15 => ("DrumMachineModel", "outputs", "I", false)
  | 16 => ("DrumMachineModel", "output", "[J", true)
  | 17 => ("DrumMachineModel", "lines", "I", false)
  | 18 => ("DrumMachineModel", "location", "[I", true)
  | 19 => ("DrumMachineModel", "operation", "[I", true)
  | 20 => ("DrumMachineModel", "data", "[I", true)
  | 21 => ("DrumMachineModel", "following", "[I", true)
  | 22 => ("DrumMachineModel", "reserved", "[Z", true)
  | 23 => ("DrumMachineModel", "places", "[I", true)
  | 24 => ("DrumMachineModel", "held", "[Z", true)
  | 25 => ("DrumMachineModel", "at", "[I", true)
  | 26 => ("DrumMachineModel", "written", "[J", true)
  | _ => ("DrumMachineModel", "full", "Z", false)
def tyMo : Nat → FieldType := fun k => match k with
  | 0 => .int
  | 1 => .array .int
  | 2 => .array .boolean
  | 3 => .long
  | 4 => .long
  | 5 => .long
  | 6 => .boolean
  | 7 => .boolean
  | 8 => .boolean
  | 9 => .int
  | 10 => .int
  | 11 => .long
  | 12 => .int
  | 13 => .array .long
  | 14 => .array .boolean
  | 15 => .int
  | 16 => .array .long
  | 17 => .int
  | 18 => .array .int
  | 19 => .array .int
  | 20 => .array .int
  | 21 => .array .int
  | 22 => .array .boolean
  | 23 => .array .int
  | 24 => .array .boolean
  | 25 => .array .int
  | 26 => .array .long
  | _ => .boolean
theorem nmMo : ∀ a, a < 28 → ∀ b, b < 28 → a ≠ b → (TMo a).2.1 ≠ (TMo b).2.1 := by decide +kernel
theorem tyMo_ok : ∀ k, k < 28 → parseFieldDescriptor (TMo k).2.2.1 = some (tyMo k) := by decide +kernel
abbrev clA : List vw_C := [(RDM, TDM, 5), (RDr, TDr, 3), (RCd, TCd, 4), (RPu, TPu, 2), (RPr, TPr, 9), (RAc, TAc, 4), (RAs, TAs, 11), (RMo, TMo, 28)]
abbrev ccDM_init : ByteArray := prog_1_method_1_code
def yDM_init : MethodName := ⟨RDM, "<init>", "()V"⟩
abbrev ccDr_init : ByteArray := prog_6_method_1_code
def yDr_init : MethodName := ⟨RDr, "<init>", "()V"⟩
abbrev ccDr_codeOf : ByteArray := prog_6_method_11_code
def yDr_codeOf : MethodName := ⟨RDr, "codeOf", "(I)I"⟩
abbrev ccAr_fill : ByteArray := prog_21_method_103_code
def yAr_fill : MethodName := ⟨RAr, "fill", "([II)V"⟩
abbrev ccCd_init : ByteArray := prog_4_method_1_code
def yCd_init : MethodName := ⟨RCd, "<init>", "()V"⟩
abbrev ccPu_init : ByteArray := prog_9_method_1_code
def yPu_init : MethodName := ⟨RPu, "<init>", "()V"⟩
abbrev ccPr_init : ByteArray := prog_8_method_1_code
def yPr_init : MethodName := ⟨RPr, "<init>", "(LDrumMachine$Drum;LDrumMachine$CardDeck;LDrumMachine$Punch;)V"⟩
abbrev ccAc_init : ByteArray := prog_2_method_1_code
def yAc_init : MethodName := ⟨RAc, "<init>", "()V"⟩
abbrev ccAs_init : ByteArray := prog_3_method_1_code
def yAs_init : MethodName := ⟨RAs, "<init>", "()V"⟩
abbrev ccDM_clear : ByteArray := prog_1_method_7_code
def yDM_clear : MethodName := ⟨RDM, "clear", "()V"⟩
abbrev ccAs_forgetAll : ByteArray := prog_3_method_10_code
def yAs_forgetAll : MethodName := ⟨RAs, "forgetAll", "()V"⟩
abbrev ccAs_forgetPlaces : ByteArray := prog_3_method_15_code
def yAs_forgetPlaces : MethodName := ⟨RAs, "forgetPlaces", "()V"⟩
abbrev ccDM_fault : ByteArray := prog_1_method_12_code
def yDM_fault : MethodName := ⟨RDM, "fault", "()I"⟩
abbrev ccPr_stopCause : ByteArray := prog_8_method_2_code
def yPr_stopCause : MethodName := ⟨RPr, "stopCause", "()I"⟩
abbrev ccDM_time : ByteArray := prog_1_method_13_code
def yDM_time : MethodName := ⟨RDM, "time", "()J"⟩
abbrev ccPr_wordTimes : ByteArray := prog_8_method_4_code
def yPr_wordTimes : MethodName := ⟨RPr, "wordTimes", "()J"⟩
abbrev ccDM_next : ByteArray := prog_1_method_16_code
def yDM_next : MethodName := ⟨RDM, "next", "()I"⟩
abbrev ccPr_nextAddress : ByteArray := prog_8_method_5_code
def yPr_nextAddress : MethodName := ⟨RPr, "nextAddress", "()I"⟩
abbrev ccDM_outputs : ByteArray := prog_1_method_19_code
def yDM_outputs : MethodName := ⟨RDM, "outputs", "()I"⟩
abbrev ccPu_size : ByteArray := prog_9_method_2_code
def yPu_size : MethodName := ⟨RPu, "size", "()I"⟩
abbrev ccDM_word : ByteArray := prog_1_method_2_code
def yDM_word : MethodName := ⟨RDM, "word", "(IJZ)V"⟩
abbrev ccDr_hasAddress : ByteArray := prog_6_method_2_code
def yDr_hasAddress : MethodName := ⟨RDr, "hasAddress", "(I)Z"⟩
abbrev ccDg_fitWord : ByteArray := prog_5_method_2_code
def yDg_fitWord : MethodName := ⟨RDg, "fitWord", "(J)Z"⟩
abbrev ccDr_store : ByteArray := prog_6_method_5_code
def yDr_store : MethodName := ⟨RDr, "store", "(IJZ)V"⟩
abbrev ccDM_flip : ByteArray := prog_1_method_3_code
def yDM_flip : MethodName := ⟨RDM, "flip", "(III)Z"⟩
abbrev ccDr_hasBit : ByteArray := prog_6_method_3_code
def yDr_hasBit : MethodName := ⟨RDr, "hasBit", "(III)Z"⟩
abbrev ccDr_turnBitOver : ByteArray := prog_6_method_6_code
def yDr_turnBitOver : MethodName := ⟨RDr, "turnBitOver", "(III)V"⟩
abbrev ccDr_valueOfCodes : ByteArray := prog_6_method_10_code
def yDr_valueOfCodes : MethodName := ⟨RDr, "valueOfCodes", "(I)J"⟩
abbrev ccDr_digitOf : ByteArray := prog_6_method_12_code
def yDr_digitOf : MethodName := ⟨RDr, "digitOf", "(I)I"⟩
abbrev ccDr_isValid : ByteArray := prog_6_method_7_code
def yDr_isValid : MethodName := ⟨RDr, "isValid", "(I)Z"⟩
abbrev ccDM_card : ByteArray := prog_1_method_4_code
def yDM_card : MethodName := ⟨RDM, "card", "(JZ)I"⟩
abbrev ccCd_isFull : ByteArray := prog_4_method_3_code
def yCd_isFull : MethodName := ⟨RCd, "isFull", "()Z"⟩
abbrev ccCd_put : ByteArray := prog_4_method_5_code
def yCd_put : MethodName := ⟨RCd, "put", "(JZ)V"⟩
abbrev ccCd_size : ByteArray := prog_4_method_2_code
def yCd_size : MethodName := ⟨RCd, "size", "()I"⟩
abbrev ccDM_line : ByteArray := prog_1_method_5_code
def yDM_line : MethodName := ⟨RDM, "line", "(IIII)I"⟩
abbrev ccOp_exists : ByteArray := prog_7_method_3_code
def yOp_exists : MethodName := ⟨ROp, "exists", "(I)Z"⟩
abbrev ccOp_kindOf : ByteArray := prog_7_method_2_code
def yOp_kindOf : MethodName := ⟨ROp, "kindOf", "(I)I"⟩
abbrev ccOp_branchesOnEight : ByteArray := prog_7_method_8_code
def yOp_branchesOnEight : MethodName := ⟨ROp, "branchesOnEight", "(I)Z"⟩
abbrev ccAs_isPart : ByteArray := prog_3_method_2_code
def yAs_isPart : MethodName := ⟨RAs, "isPart", "(I)Z"⟩
abbrev ccAs_isSymbol : ByteArray := prog_3_method_5_code
def yAs_isSymbol : MethodName := ⟨RAs, "isSymbol", "(I)Z"⟩
abbrev ccAs_isDataPart : ByteArray := prog_3_method_3_code
def yAs_isDataPart : MethodName := ⟨RAs, "isDataPart", "(II)Z"⟩
abbrev ccOp_shifts : ByteArray := prog_7_method_4_code
def yOp_shifts : MethodName := ⟨ROp, "shifts", "(I)Z"⟩
abbrev ccAs_isFull : ByteArray := prog_3_method_6_code
def yAs_isFull : MethodName := ⟨RAs, "isFull", "()Z"⟩
abbrev ccAs_addLine : ByteArray := prog_3_method_8_code
def yAs_addLine : MethodName := ⟨RAs, "addLine", "(IIII)I"⟩
abbrev ccDM_reserve : ByteArray := prog_1_method_6_code
def yDM_reserve : MethodName := ⟨RDM, "reserve", "(I)V"⟩
abbrev ccAs_markReserved : ByteArray := prog_3_method_9_code
def yAs_markReserved : MethodName := ⟨RAs, "markReserved", "(I)V"⟩
abbrev ccDM_assemble : ByteArray := prog_1_method_8_code
def yDM_assemble : MethodName := ⟨RDM, "assemble", "(Z)I"⟩
abbrev ccAs_isEmpty : ByteArray := prog_3_method_7_code
def yAs_isEmpty : MethodName := ⟨RAs, "isEmpty", "()Z"⟩
abbrev ccAs_placeAll : ByteArray := prog_3_method_13_code
def yAs_placeAll : MethodName := ⟨RAs, "placeAll", "(Z)Z"⟩
abbrev ccAs_markTaken : ByteArray := prog_3_method_16_code
def yAs_markTaken : MethodName := ⟨RAs, "markTaken", "()V"⟩
abbrev ccAs_takeIfAddress : ByteArray := prog_3_method_17_code
def yAs_takeIfAddress : MethodName := ⟨RAs, "takeIfAddress", "(I)V"⟩
abbrev ccAs_placeLine : ByteArray := prog_3_method_19_code
def yAs_placeLine : MethodName := ⟨RAs, "placeLine", "(IZ)Z"⟩
abbrev ccAs_placeLocation : ByteArray := prog_3_method_20_code
def yAs_placeLocation : MethodName := ⟨RAs, "placeLocation", "(IZ)I"⟩
abbrev ccAs_placePart : ByteArray := prog_3_method_24_code
def yAs_placePart : MethodName := ⟨RAs, "placePart", "(IIZ)I"⟩
abbrev ccAs_newPlace : ByteArray := prog_3_method_25_code
def yAs_newPlace : MethodName := ⟨RAs, "newPlace", "(IZ)I"⟩
abbrev ccAs_firstFreeFromAngle : ByteArray := prog_3_method_27_code
def yAs_firstFreeFromAngle : MethodName := ⟨RAs, "firstFreeFromAngle", "(I)I"⟩
abbrev ccAs_leastFree : ByteArray := prog_3_method_26_code
def yAs_leastFree : MethodName := ⟨RAs, "leastFree", "()I"⟩
abbrev ccAs_placeData : ByteArray := prog_3_method_21_code
def yAs_placeData : MethodName := ⟨RAs, "placeData", "(IZ)I"⟩
abbrev ccAs_placeNext : ByteArray := prog_3_method_22_code
def yAs_placeNext : MethodName := ⟨RAs, "placeNext", "(IZ)I"⟩
abbrev ccAs_bestForNext : ByteArray := prog_3_method_23_code
def yAs_bestForNext : MethodName := ⟨RAs, "bestForNext", "(I)I"⟩
abbrev ccOp_accessesData : ByteArray := prog_7_method_7_code
def yOp_accessesData : MethodName := ⟨ROp, "accessesData", "(I)Z"⟩
abbrev ccOp_fixedTime : ByteArray := prog_7_method_13_code
def yOp_fixedTime : MethodName := ⟨ROp, "fixedTime", "(II)I"⟩
abbrev ccOp_shiftLength : ByteArray := prog_7_method_12_code
def yOp_shiftLength : MethodName := ⟨ROp, "shiftLength", "(II)I"⟩
abbrev ccAs_isLocationOfEarlierLine : ByteArray := prog_3_method_18_code
def yAs_isLocationOfEarlierLine : MethodName := ⟨RAs, "isLocationOfEarlierLine", "(I)Z"⟩
abbrev ccAs_writeTo : ByteArray := prog_3_method_14_code
def yAs_writeTo : MethodName := ⟨RAs, "writeTo", "(LDrumMachine$Drum;)V"⟩
abbrev ccDg_instruction : ByteArray := prog_5_method_10_code
def yDg_instruction : MethodName := ⟨RDg, "instruction", "(III)J"⟩
abbrev ccAs_firstLocation : ByteArray := prog_3_method_12_code
def yAs_firstLocation : MethodName := ⟨RAs, "firstLocation", "()I"⟩
abbrev ccDM_place : ByteArray := prog_1_method_9_code
def yDM_place : MethodName := ⟨RDM, "place", "(I)I"⟩
abbrev ccAs_hasSymbol : ByteArray := prog_3_method_4_code
def yAs_hasSymbol : MethodName := ⟨RAs, "hasSymbol", "(I)Z"⟩
abbrev ccAs_placeOf : ByteArray := prog_3_method_11_code
def yAs_placeOf : MethodName := ⟨RAs, "placeOf", "(I)I"⟩
abbrev ccDM_start : ByteArray := prog_1_method_10_code
def yDM_start : MethodName := ⟨RDM, "start", "(I)V"⟩
abbrev ccPr_goOnFrom : ByteArray := prog_8_method_12_code
def yPr_goOnFrom : MethodName := ⟨RPr, "goOnFrom", "(I)V"⟩
abbrev ccDM_run : ByteArray := prog_1_method_11_code
def yDM_run : MethodName := ⟨RDM, "run", "(I)I"⟩
abbrev ccPr_isStopped : ByteArray := prog_8_method_3_code
def yPr_isStopped : MethodName := ⟨RPr, "isStopped", "()Z"⟩
abbrev ccPr_doSteps : ByteArray := prog_8_method_13_code
def yPr_doSteps : MethodName := ⟨RPr, "doSteps", "(I)I"⟩
abbrev ccPr_step : ByteArray := prog_8_method_15_code
def yPr_step : MethodName := ⟨RPr, "step", "()I"⟩
abbrev ccPr_waitAndAccess : ByteArray := prog_8_method_16_code
def yPr_waitAndAccess : MethodName := ⟨RPr, "waitAndAccess", "(I)V"⟩
abbrev ccDr_angleOf : ByteArray := prog_6_method_4_code
def yDr_angleOf : MethodName := ⟨RDr, "angleOf", "(I)I"⟩
abbrev ccDr_valueAt : ByteArray := prog_6_method_8_code
def yDr_valueAt : MethodName := ⟨RDr, "valueAt", "(I)J"⟩
abbrev ccDg_operationOf : ByteArray := prog_5_method_7_code
def yDg_operationOf : MethodName := ⟨RDg, "operationOf", "(J)I"⟩
abbrev ccDg_dataAddressOf : ByteArray := prog_5_method_8_code
def yDg_dataAddressOf : MethodName := ⟨RDg, "dataAddressOf", "(J)I"⟩
abbrev ccPr_operate : ByteArray := prog_8_method_17_code
def yPr_operate : MethodName := ⟨RPr, "operate", "(II)I"⟩
abbrev ccPr_shift : ByteArray := prog_8_method_18_code
def yPr_shift : MethodName := ⟨RPr, "shift", "(II)V"⟩
abbrev ccAc_shiftLeft : ByteArray := prog_2_method_14_code
def yAc_shiftLeft : MethodName := ⟨RAc, "shiftLeft", "(I)V"⟩
abbrev ccDg_powerOfTen : ByteArray := prog_5_method_4_code
def yDg_powerOfTen : MethodName := ⟨RDg, "powerOfTen", "(I)J"⟩
abbrev ccAc_shiftRight : ByteArray := prog_2_method_13_code
def yAc_shiftRight : MethodName := ⟨RAc, "shiftRight", "(I)V"⟩
abbrev ccAc_shiftAndRound : ByteArray := prog_2_method_15_code
def yAc_shiftAndRound : MethodName := ⟨RAc, "shiftAndRound", "(I)V"⟩
abbrev ccDg_digitAt : ByteArray := prog_5_method_5_code
def yDg_digitAt : MethodName := ⟨RDg, "digitAt", "(JI)I"⟩
abbrev ccAc_add : ByteArray := prog_2_method_10_code
def yAc_add : MethodName := ⟨RAc, "add", "(JJZ)V"⟩
abbrev ccMa_floorDiv : ByteArray := prog_16_method_49_code
def yMa_floorDiv : MethodName := ⟨RMa, "floorDiv", "(JJ)J"⟩
abbrev ccMa_floorMod : ByteArray := prog_16_method_52_code
def yMa_floorMod : MethodName := ⟨RMa, "floorMod", "(JJ)J"⟩
abbrev ccOp_writes : ByteArray := prog_7_method_6_code
def yOp_writes : MethodName := ⟨ROp, "writes", "(I)Z"⟩
abbrev ccPr_write : ByteArray := prog_8_method_26_code
def yPr_write : MethodName := ⟨RPr, "write", "(II)I"⟩
abbrev ccPr_readCard : ByteArray := prog_8_method_27_code
def yPr_readCard : MethodName := ⟨RPr, "readCard", "(I)I"⟩
abbrev ccCd_isEmpty : ByteArray := prog_4_method_4_code
def yCd_isEmpty : MethodName := ⟨RCd, "isEmpty", "()Z"⟩
abbrev ccCd_firstValue : ByteArray := prog_4_method_6_code
def yCd_firstValue : MethodName := ⟨RCd, "firstValue", "()J"⟩
abbrev ccCd_firstIsMinus : ByteArray := prog_4_method_7_code
def yCd_firstIsMinus : MethodName := ⟨RCd, "firstIsMinus", "()Z"⟩
abbrev ccCd_dropFirst : ByteArray := prog_4_method_8_code
def yCd_dropFirst : MethodName := ⟨RCd, "dropFirst", "()V"⟩
abbrev ccAc_lowerDigits : ByteArray := prog_2_method_3_code
def yAc_lowerDigits : MethodName := ⟨RAc, "lowerDigits", "()J"⟩
abbrev ccAc_isMinus : ByteArray := prog_2_method_4_code
def yAc_isMinus : MethodName := ⟨RAc, "isMinus", "()Z"⟩
abbrev ccPr_setDistributor : ByteArray := prog_8_method_28_code
def yPr_setDistributor : MethodName := ⟨RPr, "setDistributor", "(JZ)V"⟩
abbrev ccAc_upperDigits : ByteArray := prog_2_method_2_code
def yAc_upperDigits : MethodName := ⟨RAc, "upperDigits", "()J"⟩
abbrev ccDg_withDataAddress : ByteArray := prog_5_method_11_code
def yDg_withDataAddress : MethodName := ⟨RDg, "withDataAddress", "(JI)J"⟩
abbrev ccPr_read : ByteArray := prog_8_method_20_code
def yPr_read : MethodName := ⟨RPr, "read", "(II)I"⟩
abbrev ccPr_lookUp : ByteArray := prog_8_method_25_code
def yPr_lookUp : MethodName := ⟨RPr, "lookUp", "(I)I"⟩
abbrev ccAc_putDataAddress : ByteArray := prog_2_method_9_code
def yAc_putDataAddress : MethodName := ⟨RAc, "putDataAddress", "(I)V"⟩
abbrev ccDr_isMinus : ByteArray := prog_6_method_9_code
def yDr_isMinus : MethodName := ⟨RDr, "isMinus", "(I)Z"⟩
abbrev ccPr_divide : ByteArray := prog_8_method_23_code
def yPr_divide : MethodName := ⟨RPr, "divide", "(JZ)I"⟩
abbrev ccAc_divide : ByteArray := prog_2_method_12_code
def yAc_divide : MethodName := ⟨RAc, "divide", "(JZ)Z"⟩
abbrev ccDg_sum : ByteArray := prog_5_method_6_code
def yDg_sum : MethodName := ⟨RDg, "sum", "(J)I"⟩
abbrev ccPr_punchWord : ByteArray := prog_8_method_24_code
def yPr_punchWord : MethodName := ⟨RPr, "punchWord", "(JZ)I"⟩
abbrev ccPu_isFull : ByteArray := prog_9_method_3_code
def yPu_isFull : MethodName := ⟨RPu, "isFull", "()Z"⟩
abbrev ccDg_withSign : ByteArray := prog_5_method_3_code
def yDg_withSign : MethodName := ⟨RDg, "withSign", "(JZ)J"⟩
abbrev ccPu_put : ByteArray := prog_9_method_6_code
def yPu_put : MethodName := ⟨RPu, "put", "(J)V"⟩
abbrev ccPr_multiply : ByteArray := prog_8_method_22_code
def yPr_multiply : MethodName := ⟨RPr, "multiply", "(JZ)V"⟩
abbrev ccAc_multiply : ByteArray := prog_2_method_11_code
def yAc_multiply : MethodName := ⟨RAc, "multiply", "(JZ)V"⟩
abbrev ccOp_adds : ByteArray := prog_7_method_5_code
def yOp_adds : MethodName := ⟨ROp, "adds", "(I)Z"⟩
abbrev ccPr_addWord : ByteArray := prog_8_method_21_code
def yPr_addWord : MethodName := ⟨RPr, "addWord", "(IJZ)V"⟩
abbrev ccOp_resetsFirst : ByteArray := prog_7_method_11_code
def yOp_resetsFirst : MethodName := ⟨ROp, "resetsFirst", "(I)Z"⟩
abbrev ccAc_reset : ByteArray := prog_2_method_8_code
def yAc_reset : MethodName := ⟨RAc, "reset", "()V"⟩
abbrev ccOp_subtracts : ByteArray := prog_7_method_10_code
def yOp_subtracts : MethodName := ⟨ROp, "subtracts", "(I)Z"⟩
abbrev ccOp_addsToUpper : ByteArray := prog_7_method_9_code
def yOp_addsToUpper : MethodName := ⟨ROp, "addsToUpper", "(I)Z"⟩
abbrev ccPr_isFault : ByteArray := prog_8_method_14_code
def yPr_isFault : MethodName := ⟨RPr, "isFault", "(I)Z"⟩
abbrev ccPr_takesBranch : ByteArray := prog_8_method_19_code
def yPr_takesBranch : MethodName := ⟨RPr, "takesBranch", "(I)Z"⟩
abbrev ccAc_isZero : ByteArray := prog_2_method_5_code
def yAc_isZero : MethodName := ⟨RAc, "isZero", "()Z"⟩
abbrev ccAc_takeOverflow : ByteArray := prog_2_method_7_code
def yAc_takeOverflow : MethodName := ⟨RAc, "takeOverflow", "()Z"⟩
abbrev ccDg_nextAddressOf : ByteArray := prog_5_method_9_code
def yDg_nextAddressOf : MethodName := ⟨RDg, "nextAddressOf", "(J)I"⟩
abbrev ccDM_register : ByteArray := prog_1_method_14_code
def yDM_register : MethodName := ⟨RDM, "register", "(I)J"⟩
abbrev ccPr_upperDigits : ByteArray := prog_8_method_6_code
def yPr_upperDigits : MethodName := ⟨RPr, "upperDigits", "()J"⟩
abbrev ccPr_lowerDigits : ByteArray := prog_8_method_7_code
def yPr_lowerDigits : MethodName := ⟨RPr, "lowerDigits", "()J"⟩
abbrev ccPr_distributorDigits : ByteArray := prog_8_method_8_code
def yPr_distributorDigits : MethodName := ⟨RPr, "distributorDigits", "()J"⟩
abbrev ccDM_sign : ByteArray := prog_1_method_15_code
def yDM_sign : MethodName := ⟨RDM, "sign", "(I)Z"⟩
abbrev ccPr_accumulatorIsMinus : ByteArray := prog_8_method_9_code
def yPr_accumulatorIsMinus : MethodName := ⟨RPr, "accumulatorIsMinus", "()Z"⟩
abbrev ccPr_distributorIsMinus : ByteArray := prog_8_method_10_code
def yPr_distributorIsMinus : MethodName := ⟨RPr, "distributorIsMinus", "()Z"⟩
abbrev ccPr_overflowIsOn : ByteArray := prog_8_method_11_code
def yPr_overflowIsOn : MethodName := ⟨RPr, "overflowIsOn", "()Z"⟩
abbrev ccAc_hasOverflow : ByteArray := prog_2_method_6_code
def yAc_hasOverflow : MethodName := ⟨RAc, "hasOverflow", "()Z"⟩
abbrev ccDM_get : ByteArray := prog_1_method_17_code
def yDM_get : MethodName := ⟨RDM, "get", "(I)J"⟩
abbrev ccDM_output : ByteArray := prog_1_method_18_code
def yDM_output : MethodName := ⟨RDM, "output", "(I)J"⟩
abbrev ccPu_hasWord : ByteArray := prog_9_method_4_code
def yPu_hasWord : MethodName := ⟨RPu, "hasWord", "(I)Z"⟩
abbrev ccPu_wordAt : ByteArray := prog_9_method_5_code
def yPu_wordAt : MethodName := ⟨RPu, "wordAt", "(I)J"⟩
abbrev ccMo_init : ByteArray := prog_11_method_1_code
def yMo_init : MethodName := ⟨RMo, "<init>", "()V"⟩
abbrev ccMo_write : ByteArray := prog_11_method_6_code
def yMo_write : MethodName := ⟨RMo, "write", "(IJZ)V"⟩
abbrev ccMo_forgetPlaces : ByteArray := prog_11_method_36_code
def yMo_forgetPlaces : MethodName := ⟨RMo, "forgetPlaces", "()V"⟩
abbrev ccMo_thrown : ByteArray := prog_11_method_2_code
def yMo_thrown : MethodName := ⟨RMo, "thrown", "()I"⟩
abbrev ccMo_word : ByteArray := prog_11_method_9_code
def yMo_word : MethodName := ⟨RMo, "word", "(IJZ)V"⟩
abbrev ccMo_isAddress : ByteArray := prog_11_method_4_code
def yMo_isAddress : MethodName := ⟨RMo, "isAddress", "(I)Z"⟩
abbrev ccMo_isWord : ByteArray := prog_11_method_5_code
def yMo_isWord : MethodName := ⟨RMo, "isWord", "(J)Z"⟩
abbrev ccMo_flip : ByteArray := prog_11_method_10_code
def yMo_flip : MethodName := ⟨RMo, "flip", "(III)Z"⟩
abbrev ccMo_value : ByteArray := prog_11_method_8_code
def yMo_value : MethodName := ⟨RMo, "value", "(I)J"⟩
abbrev ccMo_digitOf : ByteArray := prog_11_method_7_code
def yMo_digitOf : MethodName := ⟨RMo, "digitOf", "(I)I"⟩
abbrev ccMo_card : ByteArray := prog_11_method_11_code
def yMo_card : MethodName := ⟨RMo, "card", "(JZ)I"⟩
abbrev ccMo_start : ByteArray := prog_11_method_31_code
def yMo_start : MethodName := ⟨RMo, "start", "(I)V"⟩
abbrev ccMo_run : ByteArray := prog_11_method_32_code
def yMo_run : MethodName := ⟨RMo, "run", "(I)I"⟩
abbrev ccMo_step : ByteArray := prog_11_method_30_code
def yMo_step : MethodName := ⟨RMo, "step", "()Z"⟩
abbrev ccMo_stop : ByteArray := prog_11_method_18_code
def yMo_stop : MethodName := ⟨RMo, "stop", "(II)Z"⟩
abbrev ccMo_access : ByteArray := prog_11_method_17_code
def yMo_access : MethodName := ⟨RMo, "access", "(I)V"⟩
abbrev ccMo_isOperation : ByteArray := prog_11_method_15_code
def yMo_isOperation : MethodName := ⟨RMo, "isOperation", "(I)Z"⟩
abbrev ccMo_reads : ByteArray := prog_11_method_12_code
def yMo_reads : MethodName := ⟨RMo, "reads", "(I)Z"⟩
abbrev ccMo_writes : ByteArray := prog_11_method_13_code
def yMo_writes : MethodName := ⟨RMo, "writes", "(I)Z"⟩
abbrev ccMo_shifts : ByteArray := prog_11_method_14_code
def yMo_shifts : MethodName := ⟨RMo, "shifts", "(I)Z"⟩
abbrev ccMo_doRead : ByteArray := prog_11_method_26_code
def yMo_doRead : MethodName := ⟨RMo, "doRead", "(IIJZI)Z"⟩
abbrev ccMo_lookUp : ByteArray := prog_11_method_27_code
def yMo_lookUp : MethodName := ⟨RMo, "lookUp", "(II)Z"⟩
abbrev ccMo_fixed : ByteArray := prog_11_method_16_code
def yMo_fixed : MethodName := ⟨RMo, "fixed", "(II)I"⟩
abbrev ccMo_divide : ByteArray := prog_11_method_22_code
def yMo_divide : MethodName := ⟨RMo, "divide", "(JZ)V"⟩
abbrev ccMo_sumOfDigits : ByteArray := prog_11_method_19_code
def yMo_sumOfDigits : MethodName := ⟨RMo, "sumOfDigits", "(J)I"⟩
abbrev ccMo_multiply : ByteArray := prog_11_method_21_code
def yMo_multiply : MethodName := ⟨RMo, "multiply", "(JZ)V"⟩
abbrev ccMo_sum : ByteArray := prog_11_method_25_code
def yMo_sum : MethodName := ⟨RMo, "sum", "(IJZ)V"⟩
abbrev ccMo_add : ByteArray := prog_11_method_20_code
def yMo_add : MethodName := ⟨RMo, "add", "(JJZ)V"⟩
abbrev ccMo_doWrite : ByteArray := prog_11_method_28_code
def yMo_doWrite : MethodName := ⟨RMo, "doWrite", "(III)Z"⟩
abbrev ccMo_branches : ByteArray := prog_11_method_29_code
def yMo_branches : MethodName := ⟨RMo, "branches", "(I)Z"⟩
abbrev ccMo_shiftRight : ByteArray := prog_11_method_23_code
def yMo_shiftRight : MethodName := ⟨RMo, "shiftRight", "(IZ)V"⟩
abbrev ccMo_shiftLeft : ByteArray := prog_11_method_24_code
def yMo_shiftLeft : MethodName := ⟨RMo, "shiftLeft", "(I)V"⟩
abbrev ccMo_line : ByteArray := prog_11_method_34_code
def yMo_line : MethodName := ⟨RMo, "line", "(IIII)I"⟩
abbrev ccMo_isPart : ByteArray := prog_11_method_33_code
def yMo_isPart : MethodName := ⟨RMo, "isPart", "(I)Z"⟩
abbrev ccMo_fail : ByteArray := prog_11_method_3_code
def yMo_fail : MethodName := ⟨RMo, "fail", "(I)I"⟩
abbrev ccMo_reserve : ByteArray := prog_11_method_35_code
def yMo_reserve : MethodName := ⟨RMo, "reserve", "(I)V"⟩
abbrev ccMo_clear : ByteArray := prog_11_method_37_code
def yMo_clear : MethodName := ⟨RMo, "clear", "()V"⟩
abbrev ccMo_assemble : ByteArray := prog_11_method_42_code
def yMo_assemble : MethodName := ⟨RMo, "assemble", "(Z)I"⟩
abbrev ccMo_hold : ByteArray := prog_11_method_40_code
def yMo_hold : MethodName := ⟨RMo, "hold", "(I)V"⟩
abbrev ccMo_settle : ByteArray := prog_11_method_41_code
def yMo_settle : MethodName := ⟨RMo, "settle", "(IIZ)V"⟩
abbrev ccMo_take : ByteArray := prog_11_method_38_code
def yMo_take : MethodName := ⟨RMo, "take", "(ZJ)I"⟩
abbrev ccMo_placeOf : ByteArray := prog_11_method_39_code
def yMo_placeOf : MethodName := ⟨RMo, "placeOf", "(IZJ)I"⟩
abbrev ccMo_place : ByteArray := prog_11_method_43_code
def yMo_place : MethodName := ⟨RMo, "place", "(I)I"⟩
abbrev ccMo_fault : ByteArray := prog_11_method_44_code
def yMo_fault : MethodName := ⟨RMo, "fault", "()I"⟩
abbrev ccMo_time : ByteArray := prog_11_method_45_code
def yMo_time : MethodName := ⟨RMo, "time", "()J"⟩
abbrev ccMo_register : ByteArray := prog_11_method_46_code
def yMo_register : MethodName := ⟨RMo, "register", "(I)J"⟩
abbrev ccMo_sign : ByteArray := prog_11_method_47_code
def yMo_sign : MethodName := ⟨RMo, "sign", "(I)Z"⟩
abbrev ccMo_next : ByteArray := prog_11_method_48_code
def yMo_next : MethodName := ⟨RMo, "next", "()I"⟩
abbrev ccMo_get : ByteArray := prog_11_method_49_code
def yMo_get : MethodName := ⟨RMo, "get", "(I)J"⟩
abbrev ccMo_output : ByteArray := prog_11_method_50_code
def yMo_output : MethodName := ⟨RMo, "output", "(I)J"⟩
abbrev ccMo_outputs : ByteArray := prog_11_method_51_code
def yMo_outputs : MethodName := ⟨RMo, "outputs", "()I"⟩
def wsA : List Cond := lw_tbl.filter goodWord
theorem memA1 {w : Cond} {i : Nat} (h : tables_1_1[i]? = some w) (hg : goodWord w = true) : w ∈ wsA := List.mem_filter.mpr ⟨List.mem_append_right _ (List.mem_append_left _ (List.mem_of_getElem? h)), hg⟩
theorem memA2 {w : Cond} {i : Nat} (h : tables_1_2[i]? = some w) (hg : goodWord w = true) : w ∈ wsA := List.mem_filter.mpr ⟨List.mem_append_right _ (List.mem_append_right _ (List.mem_append_left _ (List.mem_of_getElem? h))), hg⟩
theorem memA3 {w : Cond} {i : Nat} (h : tables_1_3[i]? = some w) (hg : goodWord w = true) : w ∈ wsA := List.mem_filter.mpr ⟨List.mem_append_right _ (List.mem_append_right _ (List.mem_append_right _ (List.mem_append_left _ (List.mem_of_getElem? h)))), hg⟩
theorem memA4 {w : Cond} {i : Nat} (h : tables_1_4[i]? = some w) (hg : goodWord w = true) : w ∈ wsA := List.mem_filter.mpr ⟨List.mem_append_right _ (List.mem_append_right _ (List.mem_append_right _ (List.mem_append_right _ (List.mem_append_left _ (List.mem_of_getElem? h))))), hg⟩
theorem memA5 {w : Cond} {i : Nat} (h : tables_1_5[i]? = some w) (hg : goodWord w = true) : w ∈ wsA := List.mem_filter.mpr ⟨List.mem_append_right _ (List.mem_append_right _ (List.mem_append_right _ (List.mem_append_right _ (List.mem_append_right _ (List.mem_of_getElem? h))))), hg⟩
theorem memS1 {y : MethodName} {i n : Nat} (h : lw_privs_1[i]? = some (y, n)) (hg : goodWord (Cond.selects y.cls y y) = true) : Cond.selects y.cls y y ∈ wsA := List.mem_filter.mpr ⟨List.mem_append_left _ (List.mem_map.mpr ⟨(y, n), List.mem_append_left _ (List.mem_of_getElem? h), rfl⟩), hg⟩
theorem memS2 {y : MethodName} {i n : Nat} (h : lw_privs_2[i]? = some (y, n)) (hg : goodWord (Cond.selects y.cls y y) = true) : Cond.selects y.cls y y ∈ wsA := List.mem_filter.mpr ⟨List.mem_append_left _ (List.mem_map.mpr ⟨(y, n), List.mem_append_right _ (List.mem_append_left _ (List.mem_of_getElem? h)), rfl⟩), hg⟩
theorem memS3 {y : MethodName} {i n : Nat} (h : lw_privs_3[i]? = some (y, n)) (hg : goodWord (Cond.selects y.cls y y) = true) : Cond.selects y.cls y y ∈ wsA := List.mem_filter.mpr ⟨List.mem_append_left _ (List.mem_map.mpr ⟨(y, n), List.mem_append_right _ (List.mem_append_right _ (List.mem_append_left _ (List.mem_of_getElem? h))), rfl⟩), hg⟩
theorem memS4 {y : MethodName} {i n : Nat} (h : lw_privs_4[i]? = some (y, n)) (hg : goodWord (Cond.selects y.cls y y) = true) : Cond.selects y.cls y y ∈ wsA := List.mem_filter.mpr ⟨List.mem_append_left _ (List.mem_map.mpr ⟨(y, n), List.mem_append_right _ (List.mem_append_right _ (List.mem_append_right _ (List.mem_of_getElem? h))), rfl⟩), hg⟩
theorem gA {w0 : Cond} : GoodIn (w0 :: wsA) wsA := fun w h => ⟨List.mem_cons_of_mem _ h, good_of_word (List.mem_filter.mp h).2⟩
theorem g1 {w0 w : Cond} (h : w ∈ wsA) : w ∈ w0 :: wsA ∧ ((w.onTables && w.keeps) = true ∨ ∃ ty, w = .arrayClass ty) := gA w h
theorem gI {w0 w : Cond} (h : w ∈ wsA) : GoodIn (w0 :: wsA) (w :: wsA) := fun v hv => (List.mem_cons.mp hv).elim (fun e => e ▸ g1 h) (fun e => g1 e)
theorem gS {w0 : Cond} {own : String} {idx n : Nat} {y : MethodName} {c : ByteArray} {r : Option FieldType} (h1 : Cond.methodLink own idx y ∈ wsA) (h2 : Cond.static y ∈ wsA) (h3 : Cond.initialized y.cls ∈ wsA) (h5 : Cond.code y c n r ∈ wsA) : GoodIn (w0 :: wsA) (va_wsS own idx y (Cond.code y c n r :: wsA)) := by
  intro w hw
  unfold va_wsS at hw
  simp only [List.cons_append, List.nil_append, List.mem_cons] at hw
  rcases hw with rfl | rfl | rfl | rfl | hw
  · exact g1 h1
  · exact g1 h2
  · exact g1 h3
  · exact g1 h5
  · exact g1 hw
theorem gV {w0 : Cond} {own C : String} {idx n : Nat} {y : MethodName} {c : ByteArray} {r : Option FieldType} (h1 : Cond.methodLink own idx y ∈ wsA) (h2 : Cond.instanceMethod y ∈ wsA) (h3 : Cond.selects C y y ∈ wsA) (h4 : Cond.initialized C ∈ wsA) (h5 : Cond.code y c n r ∈ wsA) : GoodIn (w0 :: wsA) (wsV own idx C y (Cond.code y c n r :: wsA)) := by
  intro w hw
  unfold wsV at hw
  simp only [List.cons_append, List.nil_append, List.mem_cons] at hw
  rcases hw with rfl | rfl | rfl | rfl | rfl | hw
  · exact g1 h1
  · exact g1 h2
  · exact g1 h3
  · exact g1 h4
  · exact g1 h5
  · exact g1 hw
theorem wm1_0 : Cond.initialized RLa ∈ wsA := memA1 (i := 0) rfl rfl
theorem wm1_1 : Cond.initialized RDM ∈ wsA := memA1 (i := 1) rfl rfl
theorem wm1_2 : Cond.initialized RDr ∈ wsA := memA1 (i := 2) rfl rfl
theorem wm1_3 : Cond.initialized RAr ∈ wsA := memA1 (i := 3) rfl rfl
theorem wm1_4 : Cond.initialized RCd ∈ wsA := memA1 (i := 4) rfl rfl
theorem wm1_5 : Cond.initialized RPu ∈ wsA := memA1 (i := 5) rfl rfl
theorem wm1_6 : Cond.initialized RPr ∈ wsA := memA1 (i := 6) rfl rfl
theorem wm1_7 : Cond.initialized RAc ∈ wsA := memA1 (i := 7) rfl rfl
theorem wm1_8 : Cond.initialized RAs ∈ wsA := memA1 (i := 8) rfl rfl
theorem wm1_9 : Cond.initialized RMo ∈ wsA := memA1 (i := 9) rfl rfl
theorem wm1_14 : Cond.initialized RDg ∈ wsA := memA1 (i := 14) rfl rfl
theorem wm1_17 : Cond.initialized ROp ∈ wsA := memA1 (i := 17) rfl rfl
theorem wm1_19 : Cond.initialized RMa ∈ wsA := memA1 (i := 19) rfl rfl
theorem wm1_22 : Cond.methodLink RLa 65 yDM_init ∈ wsA := memA1 (i := 22) rfl rfl
theorem wm1_23 : Cond.instanceMethod yDM_init ∈ wsA := memA1 (i := 23) rfl rfl
theorem wm1_30 : Cond.methodLink RDM 9 yDr_init ∈ wsA := memA1 (i := 30) rfl rfl
theorem wm1_31 : Cond.instanceMethod yDr_init ∈ wsA := memA1 (i := 31) rfl rfl
theorem wm1_34 : Cond.methodLink RDr 23 yDr_codeOf ∈ wsA := memA1 (i := 34) rfl rfl
theorem wm1_35 : Cond.static yDr_codeOf ∈ wsA := memA1 (i := 35) rfl rfl
theorem wm1_37 : Cond.methodLink RDr 27 yAr_fill ∈ wsA := memA1 (i := 37) rfl rfl
theorem wm1_38 : Cond.static yAr_fill ∈ wsA := memA1 (i := 38) rfl rfl
theorem wm1_40 : Cond.fieldLink RDr 11 "DrumMachine$Drum" "codes" "[I" ∈ wsA := memA1 (i := 40) rfl rfl
theorem wm1_41 : Cond.fieldLink RDr 15 "DrumMachine$Drum" "values" "[J" ∈ wsA := memA1 (i := 41) rfl rfl
theorem wm1_42 : Cond.fieldLink RDr 19 "DrumMachine$Drum" "minus" "[Z" ∈ wsA := memA1 (i := 42) rfl rfl
theorem wm1_43 : Cond.laysFinal RDr "DrumMachine$Drum" "codes" "[I" ∈ wsA := memA1 (i := 43) rfl rfl
theorem wm1_45 : Cond.laysFinal RDr "DrumMachine$Drum" "values" "[J" ∈ wsA := memA1 (i := 45) rfl rfl
theorem wm1_47 : Cond.laysFinal RDr "DrumMachine$Drum" "minus" "[Z" ∈ wsA := memA1 (i := 47) rfl rfl
theorem wm1_55 : Cond.methodLink RDM 18 yCd_init ∈ wsA := memA1 (i := 55) rfl rfl
theorem wm1_56 : Cond.instanceMethod yCd_init ∈ wsA := memA1 (i := 56) rfl rfl
theorem wm1_59 : Cond.fieldLink RCd 9 "DrumMachine$CardDeck" "values" "[J" ∈ wsA := memA1 (i := 59) rfl rfl
theorem wm1_60 : Cond.fieldLink RCd 13 "DrumMachine$CardDeck" "minus" "[Z" ∈ wsA := memA1 (i := 60) rfl rfl
theorem wm1_61 : Cond.fieldLink RCd 21 "DrumMachine$CardDeck" "first" "I" ∈ wsA := memA1 (i := 61) rfl rfl
theorem wm1_62 : Cond.fieldLink RCd 17 "DrumMachine$CardDeck" "count" "I" ∈ wsA := memA1 (i := 62) rfl rfl
theorem wm1_63 : Cond.laysFinal RCd "DrumMachine$CardDeck" "values" "[J" ∈ wsA := memA1 (i := 63) rfl rfl
theorem wm1_65 : Cond.laysFinal RCd "DrumMachine$CardDeck" "minus" "[Z" ∈ wsA := memA1 (i := 65) rfl rfl
theorem wm1_67 : Cond.lays RCd "DrumMachine$CardDeck" "first" "I" ∈ wsA := memA1 (i := 67) rfl rfl
theorem wm1_69 : Cond.lays RCd "DrumMachine$CardDeck" "count" "I" ∈ wsA := memA1 (i := 69) rfl rfl
theorem wm1_74 : Cond.methodLink RDM 25 yPu_init ∈ wsA := memA1 (i := 74) rfl rfl
theorem wm1_75 : Cond.instanceMethod yPu_init ∈ wsA := memA1 (i := 75) rfl rfl
theorem wm1_78 : Cond.fieldLink RPu 9 "DrumMachine$Punch" "words" "[J" ∈ wsA := memA1 (i := 78) rfl rfl
theorem wm1_79 : Cond.fieldLink RPu 13 "DrumMachine$Punch" "count" "I" ∈ wsA := memA1 (i := 79) rfl rfl
theorem wm1_80 : Cond.laysFinal RPu "DrumMachine$Punch" "words" "[J" ∈ wsA := memA1 (i := 80) rfl rfl
theorem wm1_82 : Cond.lays RPu "DrumMachine$Punch" "count" "I" ∈ wsA := memA1 (i := 82) rfl rfl
theorem wm1_87 : Cond.methodLink RDM 32 yPr_init ∈ wsA := memA1 (i := 87) rfl rfl
theorem wm1_88 : Cond.instanceMethod yPr_init ∈ wsA := memA1 (i := 88) rfl rfl
theorem wm1_93 : Cond.methodLink RPr 23 yAc_init ∈ wsA := memA1 (i := 93) rfl rfl
theorem wm1_94 : Cond.instanceMethod yAc_init ∈ wsA := memA1 (i := 94) rfl rfl
theorem wm1_97 : Cond.fieldLink RAc 7 "DrumMachine$Accumulator" "upper" "J" ∈ wsA := memA1 (i := 97) rfl rfl
theorem wm1_98 : Cond.fieldLink RAc 13 "DrumMachine$Accumulator" "lower" "J" ∈ wsA := memA1 (i := 98) rfl rfl
theorem wm1_99 : Cond.fieldLink RAc 16 "DrumMachine$Accumulator" "minus" "Z" ∈ wsA := memA1 (i := 99) rfl rfl
theorem wm1_100 : Cond.fieldLink RAc 20 "DrumMachine$Accumulator" "overflow" "Z" ∈ wsA := memA1 (i := 100) rfl rfl
theorem wm1_101 : Cond.lays RAc "DrumMachine$Accumulator" "upper" "J" ∈ wsA := memA1 (i := 101) rfl rfl
theorem wm1_103 : Cond.lays RAc "DrumMachine$Accumulator" "lower" "J" ∈ wsA := memA1 (i := 103) rfl rfl
theorem wm1_105 : Cond.lays RAc "DrumMachine$Accumulator" "minus" "Z" ∈ wsA := memA1 (i := 105) rfl rfl
theorem wm1_107 : Cond.lays RAc "DrumMachine$Accumulator" "overflow" "Z" ∈ wsA := memA1 (i := 107) rfl rfl
theorem wm1_110 : Cond.fieldLink RPr 7 "DrumMachine$Processor" "drum" "LDrumMachine$Drum;" ∈ wsA := memA1 (i := 110) rfl rfl
theorem wm1_111 : Cond.fieldLink RPr 13 "DrumMachine$Processor" "cards" "LDrumMachine$CardDeck;" ∈ wsA := memA1 (i := 111) rfl rfl
theorem wm1_112 : Cond.fieldLink RPr 17 "DrumMachine$Processor" "punch" "LDrumMachine$Punch;" ∈ wsA := memA1 (i := 112) rfl rfl
theorem wm1_113 : Cond.fieldLink RPr 24 "DrumMachine$Processor" "accumulator" "LDrumMachine$Accumulator;" ∈ wsA := memA1 (i := 113) rfl rfl
theorem wm1_114 : Cond.fieldLink RPr 46 "DrumMachine$Processor" "distributor" "J" ∈ wsA := memA1 (i := 114) rfl rfl
theorem wm1_115 : Cond.fieldLink RPr 53 "DrumMachine$Processor" "distributorMinus" "Z" ∈ wsA := memA1 (i := 115) rfl rfl
theorem wm1_116 : Cond.fieldLink RPr 36 "DrumMachine$Processor" "next" "I" ∈ wsA := memA1 (i := 116) rfl rfl
theorem wm1_117 : Cond.fieldLink RPr 28 "DrumMachine$Processor" "cause" "I" ∈ wsA := memA1 (i := 117) rfl rfl
theorem wm1_118 : Cond.fieldLink RPr 32 "DrumMachine$Processor" "time" "J" ∈ wsA := memA1 (i := 118) rfl rfl
theorem wm1_119 : Cond.laysFinal RPr "DrumMachine$Processor" "drum" "LDrumMachine$Drum;" ∈ wsA := memA1 (i := 119) rfl rfl
theorem wm1_121 : Cond.laysFinal RPr "DrumMachine$Processor" "cards" "LDrumMachine$CardDeck;" ∈ wsA := memA1 (i := 121) rfl rfl
theorem wm1_123 : Cond.laysFinal RPr "DrumMachine$Processor" "punch" "LDrumMachine$Punch;" ∈ wsA := memA1 (i := 123) rfl rfl
theorem wm1_125 : Cond.laysFinal RPr "DrumMachine$Processor" "accumulator" "LDrumMachine$Accumulator;" ∈ wsA := memA1 (i := 125) rfl rfl
theorem wm1_127 : Cond.lays RPr "DrumMachine$Processor" "distributor" "J" ∈ wsA := memA1 (i := 127) rfl rfl
theorem wm1_129 : Cond.lays RPr "DrumMachine$Processor" "distributorMinus" "Z" ∈ wsA := memA1 (i := 129) rfl rfl
theorem wm1_131 : Cond.lays RPr "DrumMachine$Processor" "next" "I" ∈ wsA := memA1 (i := 131) rfl rfl
theorem wm1_133 : Cond.lays RPr "DrumMachine$Processor" "cause" "I" ∈ wsA := memA1 (i := 133) rfl rfl
theorem wm1_135 : Cond.lays RPr "DrumMachine$Processor" "time" "J" ∈ wsA := memA1 (i := 135) rfl rfl
theorem wm1_140 : Cond.methodLink RDM 41 yAs_init ∈ wsA := memA1 (i := 140) rfl rfl
theorem wm1_141 : Cond.instanceMethod yAs_init ∈ wsA := memA1 (i := 141) rfl rfl
theorem wm1_144 : Cond.methodLink RAs 43 yAr_fill ∈ wsA := memA1 (i := 144) rfl rfl
theorem wm1_145 : Cond.fieldLink RAs 9 "DrumMachine$Assembler" "locationParts" "[I" ∈ wsA := memA1 (i := 145) rfl rfl
theorem wm1_146 : Cond.fieldLink RAs 13 "DrumMachine$Assembler" "operations" "[I" ∈ wsA := memA1 (i := 146) rfl rfl
theorem wm1_147 : Cond.fieldLink RAs 16 "DrumMachine$Assembler" "dataParts" "[I" ∈ wsA := memA1 (i := 147) rfl rfl
theorem wm1_148 : Cond.fieldLink RAs 19 "DrumMachine$Assembler" "nextParts" "[I" ∈ wsA := memA1 (i := 148) rfl rfl
theorem wm1_149 : Cond.fieldLink RAs 22 "DrumMachine$Assembler" "locations" "[I" ∈ wsA := memA1 (i := 149) rfl rfl
theorem wm1_150 : Cond.fieldLink RAs 25 "DrumMachine$Assembler" "data" "[I" ∈ wsA := memA1 (i := 150) rfl rfl
theorem wm1_151 : Cond.fieldLink RAs 28 "DrumMachine$Assembler" "nexts" "[I" ∈ wsA := memA1 (i := 151) rfl rfl
theorem wm1_152 : Cond.fieldLink RAs 31 "DrumMachine$Assembler" "symbolPlaces" "[I" ∈ wsA := memA1 (i := 152) rfl rfl
theorem wm1_153 : Cond.fieldLink RAs 36 "DrumMachine$Assembler" "reserved" "[Z" ∈ wsA := memA1 (i := 153) rfl rfl
theorem wm1_154 : Cond.fieldLink RAs 40 "DrumMachine$Assembler" "taken" "[Z" ∈ wsA := memA1 (i := 154) rfl rfl
theorem wm1_155 : Cond.fieldLink RAs 64 "DrumMachine$Assembler" "count" "I" ∈ wsA := memA1 (i := 155) rfl rfl
theorem wm1_156 : Cond.laysFinal RAs "DrumMachine$Assembler" "locationParts" "[I" ∈ wsA := memA1 (i := 156) rfl rfl
theorem wm1_158 : Cond.laysFinal RAs "DrumMachine$Assembler" "operations" "[I" ∈ wsA := memA1 (i := 158) rfl rfl
theorem wm1_160 : Cond.laysFinal RAs "DrumMachine$Assembler" "dataParts" "[I" ∈ wsA := memA1 (i := 160) rfl rfl
theorem wm1_162 : Cond.laysFinal RAs "DrumMachine$Assembler" "nextParts" "[I" ∈ wsA := memA1 (i := 162) rfl rfl
theorem wm1_164 : Cond.laysFinal RAs "DrumMachine$Assembler" "locations" "[I" ∈ wsA := memA1 (i := 164) rfl rfl
theorem wm1_166 : Cond.laysFinal RAs "DrumMachine$Assembler" "data" "[I" ∈ wsA := memA1 (i := 166) rfl rfl
theorem wm1_168 : Cond.laysFinal RAs "DrumMachine$Assembler" "nexts" "[I" ∈ wsA := memA1 (i := 168) rfl rfl
theorem wm1_170 : Cond.laysFinal RAs "DrumMachine$Assembler" "symbolPlaces" "[I" ∈ wsA := memA1 (i := 170) rfl rfl
theorem wm1_172 : Cond.laysFinal RAs "DrumMachine$Assembler" "reserved" "[Z" ∈ wsA := memA1 (i := 172) rfl rfl
theorem wm1_174 : Cond.laysFinal RAs "DrumMachine$Assembler" "taken" "[Z" ∈ wsA := memA1 (i := 174) rfl rfl
theorem wm1_176 : Cond.lays RAs "DrumMachine$Assembler" "count" "I" ∈ wsA := memA1 (i := 176) rfl rfl
theorem wm1_179 : Cond.fieldLink RDM 10 "DrumMachine" "drum" "LDrumMachine$Drum;" ∈ wsA := memA1 (i := 179) rfl rfl
theorem wm1_180 : Cond.fieldLink RDM 19 "DrumMachine" "cards" "LDrumMachine$CardDeck;" ∈ wsA := memA1 (i := 180) rfl rfl
theorem wm1_181 : Cond.fieldLink RDM 26 "DrumMachine" "punch" "LDrumMachine$Punch;" ∈ wsA := memA1 (i := 181) rfl rfl
theorem wm1_182 : Cond.fieldLink RDM 35 "DrumMachine" "processor" "LDrumMachine$Processor;" ∈ wsA := memA1 (i := 182) rfl rfl
theorem wm1_183 : Cond.fieldLink RDM 42 "DrumMachine" "assembler" "LDrumMachine$Assembler;" ∈ wsA := memA1 (i := 183) rfl rfl
theorem wm1_184 : Cond.laysFinal RDM "DrumMachine" "drum" "LDrumMachine$Drum;" ∈ wsA := memA1 (i := 184) rfl rfl
theorem wm1_186 : Cond.laysFinal RDM "DrumMachine" "cards" "LDrumMachine$CardDeck;" ∈ wsA := memA1 (i := 186) rfl rfl
theorem wm1_188 : Cond.laysFinal RDM "DrumMachine" "punch" "LDrumMachine$Punch;" ∈ wsA := memA1 (i := 188) rfl rfl
theorem wm1_190 : Cond.laysFinal RDM "DrumMachine" "processor" "LDrumMachine$Processor;" ∈ wsA := memA1 (i := 190) rfl rfl
theorem wm1_192 : Cond.laysFinal RDM "DrumMachine" "assembler" "LDrumMachine$Assembler;" ∈ wsA := memA1 (i := 192) rfl rfl
theorem wm1_195 : Cond.methodLink RLa 97 yDM_clear ∈ wsA := memA1 (i := 195) rfl rfl
theorem wm1_196 : Cond.instanceMethod yDM_clear ∈ wsA := memA1 (i := 196) rfl rfl
theorem wm1_197 : Cond.selects RDM yDM_clear yDM_clear ∈ wsA := memA1 (i := 197) rfl rfl
theorem wm1_199 : Cond.methodLink RDM 131 yAs_forgetAll ∈ wsA := memA1 (i := 199) rfl rfl
theorem wm1_200 : Cond.instanceMethod yAs_forgetAll ∈ wsA := memA1 (i := 200) rfl rfl
theorem wm1_201 : Cond.selects RAs yAs_forgetAll yAs_forgetAll ∈ wsA := memA1 (i := 201) rfl rfl
theorem wm1_203 : Cond.methodLink RAs 68 yAs_forgetPlaces ∈ wsA := memA1 (i := 203) rfl rfl
theorem wm1_205 : Cond.instanceMethod yAs_forgetPlaces ∈ wsA := memA1 (i := 205) rfl rfl
theorem wm1_207 : Cond.methodLink RLa 115 yDM_fault ∈ wsA := memA1 (i := 207) rfl rfl
theorem wm1_208 : Cond.instanceMethod yDM_fault ∈ wsA := memA1 (i := 208) rfl rfl
theorem wm1_209 : Cond.selects RDM yDM_fault yDM_fault ∈ wsA := memA1 (i := 209) rfl rfl
theorem wm1_211 : Cond.methodLink RDM 179 yPr_stopCause ∈ wsA := memA1 (i := 211) rfl rfl
theorem wm1_212 : Cond.instanceMethod yPr_stopCause ∈ wsA := memA1 (i := 212) rfl rfl
theorem wm1_213 : Cond.selects RPr yPr_stopCause yPr_stopCause ∈ wsA := memA1 (i := 213) rfl rfl
theorem wm1_215 : Cond.methodLink RLa 119 yDM_time ∈ wsA := memA1 (i := 215) rfl rfl
theorem wm1_216 : Cond.instanceMethod yDM_time ∈ wsA := memA1 (i := 216) rfl rfl
theorem wm1_217 : Cond.selects RDM yDM_time yDM_time ∈ wsA := memA1 (i := 217) rfl rfl
theorem wm1_219 : Cond.methodLink RDM 182 yPr_wordTimes ∈ wsA := memA1 (i := 219) rfl rfl
theorem wm1_220 : Cond.instanceMethod yPr_wordTimes ∈ wsA := memA1 (i := 220) rfl rfl
theorem wm1_221 : Cond.selects RPr yPr_wordTimes yPr_wordTimes ∈ wsA := memA1 (i := 221) rfl rfl
theorem wm1_223 : Cond.methodLink RLa 130 yDM_next ∈ wsA := memA1 (i := 223) rfl rfl
theorem wm1_224 : Cond.instanceMethod yDM_next ∈ wsA := memA1 (i := 224) rfl rfl
theorem wm1_225 : Cond.selects RDM yDM_next yDM_next ∈ wsA := memA1 (i := 225) rfl rfl
theorem wm1_227 : Cond.methodLink RDM 208 yPr_nextAddress ∈ wsA := memA1 (i := 227) rfl rfl
theorem wm1_228 : Cond.instanceMethod yPr_nextAddress ∈ wsA := memA1 (i := 228) rfl rfl
theorem wm1_229 : Cond.selects RPr yPr_nextAddress yPr_nextAddress ∈ wsA := memA1 (i := 229) rfl rfl
theorem wm1_231 : Cond.methodLink RLa 140 yDM_outputs ∈ wsA := memA1 (i := 231) rfl rfl
theorem wm1_232 : Cond.instanceMethod yDM_outputs ∈ wsA := memA1 (i := 232) rfl rfl
theorem wm1_233 : Cond.selects RDM yDM_outputs yDM_outputs ∈ wsA := memA1 (i := 233) rfl rfl
theorem wm1_235 : Cond.methodLink RDM 232 yPu_size ∈ wsA := memA1 (i := 235) rfl rfl
theorem wm1_236 : Cond.instanceMethod yPu_size ∈ wsA := memA1 (i := 236) rfl rfl
theorem wm1_237 : Cond.selects RPu yPu_size yPu_size ∈ wsA := memA1 (i := 237) rfl rfl
theorem wm2_4 : Cond.methodLink RLa 7 yDM_word ∈ wsA := memA2 (i := 4) rfl rfl
theorem wm2_5 : Cond.instanceMethod yDM_word ∈ wsA := memA2 (i := 5) rfl rfl
theorem wm2_6 : Cond.selects RDM yDM_word yDM_word ∈ wsA := memA2 (i := 6) rfl rfl
theorem wm2_8 : Cond.methodLink RDM 46 yDr_hasAddress ∈ wsA := memA2 (i := 8) rfl rfl
theorem wm2_9 : Cond.static yDr_hasAddress ∈ wsA := memA2 (i := 9) rfl rfl
theorem wm2_80 : Cond.methodLink RDM 57 yDg_fitWord ∈ wsA := memA2 (i := 80) rfl rfl
theorem wm2_81 : Cond.static yDg_fitWord ∈ wsA := memA2 (i := 81) rfl rfl
theorem wm2_83 : Cond.constantLong RDg 9 (10000000000) ∈ wsA := memA2 (i := 83) rfl rfl
theorem wm2_100 : Cond.methodLink RDM 68 yDr_store ∈ wsA := memA2 (i := 100) rfl rfl
theorem wm2_101 : Cond.instanceMethod yDr_store ∈ wsA := memA2 (i := 101) rfl rfl
theorem wm2_102 : Cond.selects RDr yDr_store yDr_store ∈ wsA := memA2 (i := 102) rfl rfl
theorem wm2_104 : Cond.constantLong RDr 37 (10) ∈ wsA := memA2 (i := 104) rfl rfl
theorem wm2_108 : Cond.methodLink RLa 17 yDM_flip ∈ wsA := memA2 (i := 108) rfl rfl
theorem wm2_109 : Cond.instanceMethod yDM_flip ∈ wsA := memA2 (i := 109) rfl rfl
theorem wm2_110 : Cond.selects RDM yDM_flip yDM_flip ∈ wsA := memA2 (i := 110) rfl rfl
theorem wm2_112 : Cond.methodLink RDM 72 yDr_hasBit ∈ wsA := memA2 (i := 112) rfl rfl
theorem wm2_113 : Cond.static yDr_hasBit ∈ wsA := memA2 (i := 113) rfl rfl
theorem wm2_115 : Cond.methodLink RDr 33 yDr_hasAddress ∈ wsA := memA2 (i := 115) rfl rfl
theorem wm2_117 : Cond.methodLink RDM 78 yDr_turnBitOver ∈ wsA := memA2 (i := 117) rfl rfl
theorem wm2_118 : Cond.instanceMethod yDr_turnBitOver ∈ wsA := memA2 (i := 118) rfl rfl
theorem wm2_119 : Cond.selects RDr yDr_turnBitOver yDr_turnBitOver ∈ wsA := memA2 (i := 119) rfl rfl
theorem wm2_121 : Cond.methodLink RDr 39 yDr_valueOfCodes ∈ wsA := memA2 (i := 121) rfl rfl
theorem wm2_123 : Cond.instanceMethod yDr_valueOfCodes ∈ wsA := memA2 (i := 123) rfl rfl
theorem wm2_125 : Cond.methodLink RDr 45 yDr_digitOf ∈ wsA := memA2 (i := 125) rfl rfl
theorem wm2_126 : Cond.static yDr_digitOf ∈ wsA := memA2 (i := 126) rfl rfl
theorem wm2_128 : Cond.constantLong RDr 43 (-1) ∈ wsA := memA2 (i := 128) rfl rfl
theorem wm2_129 : Cond.methodLink RDM 82 yDr_isValid ∈ wsA := memA2 (i := 129) rfl rfl
theorem wm2_130 : Cond.instanceMethod yDr_isValid ∈ wsA := memA2 (i := 130) rfl rfl
theorem wm2_131 : Cond.selects RDr yDr_isValid yDr_isValid ∈ wsA := memA2 (i := 131) rfl rfl
theorem wm2_137 : Cond.methodLink RLa 21 yDM_card ∈ wsA := memA2 (i := 137) rfl rfl
theorem wm2_138 : Cond.instanceMethod yDM_card ∈ wsA := memA2 (i := 138) rfl rfl
theorem wm2_139 : Cond.selects RDM yDM_card yDM_card ∈ wsA := memA2 (i := 139) rfl rfl
theorem wm2_142 : Cond.methodLink RDM 87 yCd_isFull ∈ wsA := memA2 (i := 142) rfl rfl
theorem wm2_143 : Cond.instanceMethod yCd_isFull ∈ wsA := memA2 (i := 143) rfl rfl
theorem wm2_144 : Cond.selects RCd yCd_isFull yCd_isFull ∈ wsA := memA2 (i := 144) rfl rfl
theorem wm2_162 : Cond.methodLink RDM 96 yCd_put ∈ wsA := memA2 (i := 162) rfl rfl
theorem wm2_163 : Cond.instanceMethod yCd_put ∈ wsA := memA2 (i := 163) rfl rfl
theorem wm2_164 : Cond.selects RCd yCd_put yCd_put ∈ wsA := memA2 (i := 164) rfl rfl
theorem wm2_166 : Cond.methodLink RDM 100 yCd_size ∈ wsA := memA2 (i := 166) rfl rfl
theorem wm2_167 : Cond.instanceMethod yCd_size ∈ wsA := memA2 (i := 167) rfl rfl
theorem wm2_168 : Cond.selects RCd yCd_size yCd_size ∈ wsA := memA2 (i := 168) rfl rfl
theorem wm2_173 : Cond.methodLink RLa 27 yDM_line ∈ wsA := memA2 (i := 173) rfl rfl
theorem wm2_174 : Cond.instanceMethod yDM_line ∈ wsA := memA2 (i := 174) rfl rfl
theorem wm2_175 : Cond.selects RDM yDM_line yDM_line ∈ wsA := memA2 (i := 175) rfl rfl
theorem wm2_177 : Cond.methodLink RDM 104 yOp_exists ∈ wsA := memA2 (i := 177) rfl rfl
theorem wm2_178 : Cond.static yOp_exists ∈ wsA := memA2 (i := 178) rfl rfl
theorem wm2_180 : Cond.methodLink ROp 13 yOp_kindOf ∈ wsA := memA2 (i := 180) rfl rfl
theorem wm2_181 : Cond.static yOp_kindOf ∈ wsA := memA2 (i := 181) rfl rfl
theorem wm2_183 : Cond.methodLink ROp 9 yOp_branchesOnEight ∈ wsA := memA2 (i := 183) rfl rfl
theorem wm2_184 : Cond.static yOp_branchesOnEight ∈ wsA := memA2 (i := 184) rfl rfl
theorem wm2_187 : Cond.methodLink RDM 111 yAs_isPart ∈ wsA := memA2 (i := 187) rfl rfl
theorem wm2_188 : Cond.static yAs_isPart ∈ wsA := memA2 (i := 188) rfl rfl
theorem wm2_190 : Cond.methodLink RAs 49 yDr_hasAddress ∈ wsA := memA2 (i := 190) rfl rfl
theorem wm2_191 : Cond.methodLink RAs 53 yAs_isSymbol ∈ wsA := memA2 (i := 191) rfl rfl
theorem wm2_192 : Cond.static yAs_isSymbol ∈ wsA := memA2 (i := 192) rfl rfl
theorem wm2_194 : Cond.methodLink RDM 114 yAs_isDataPart ∈ wsA := memA2 (i := 194) rfl rfl
theorem wm2_195 : Cond.static yAs_isDataPart ∈ wsA := memA2 (i := 195) rfl rfl
theorem wm2_197 : Cond.methodLink RAs 56 yOp_shifts ∈ wsA := memA2 (i := 197) rfl rfl
theorem wm2_198 : Cond.static yOp_shifts ∈ wsA := memA2 (i := 198) rfl rfl
theorem wm2_200 : Cond.methodLink RAs 61 yAs_isPart ∈ wsA := memA2 (i := 200) rfl rfl
theorem wm2_202 : Cond.methodLink RDM 120 yAs_isFull ∈ wsA := memA2 (i := 202) rfl rfl
theorem wm2_203 : Cond.instanceMethod yAs_isFull ∈ wsA := memA2 (i := 203) rfl rfl
theorem wm2_204 : Cond.selects RAs yAs_isFull yAs_isFull ∈ wsA := memA2 (i := 204) rfl rfl
theorem wm2_207 : Cond.methodLink RDM 123 yAs_addLine ∈ wsA := memA2 (i := 207) rfl rfl
theorem wm2_208 : Cond.instanceMethod yAs_addLine ∈ wsA := memA2 (i := 208) rfl rfl
theorem wm2_209 : Cond.selects RAs yAs_addLine yAs_addLine ∈ wsA := memA2 (i := 209) rfl rfl
theorem wm2_214 : Cond.methodLink RLa 31 yDM_reserve ∈ wsA := memA2 (i := 214) rfl rfl
theorem wm2_215 : Cond.instanceMethod yDM_reserve ∈ wsA := memA2 (i := 215) rfl rfl
theorem wm2_216 : Cond.selects RDM yDM_reserve yDM_reserve ∈ wsA := memA2 (i := 216) rfl rfl
theorem wm2_218 : Cond.methodLink RDM 127 yAs_markReserved ∈ wsA := memA2 (i := 218) rfl rfl
theorem wm2_219 : Cond.instanceMethod yAs_markReserved ∈ wsA := memA2 (i := 219) rfl rfl
theorem wm2_220 : Cond.selects RAs yAs_markReserved yAs_markReserved ∈ wsA := memA2 (i := 220) rfl rfl
theorem wm2_226 : Cond.methodLink RLa 35 yDM_assemble ∈ wsA := memA2 (i := 226) rfl rfl
theorem wm2_227 : Cond.instanceMethod yDM_assemble ∈ wsA := memA2 (i := 227) rfl rfl
theorem wm2_228 : Cond.selects RDM yDM_assemble yDM_assemble ∈ wsA := memA2 (i := 228) rfl rfl
theorem wm2_230 : Cond.methodLink RDM 134 yAs_isEmpty ∈ wsA := memA2 (i := 230) rfl rfl
theorem wm2_231 : Cond.instanceMethod yAs_isEmpty ∈ wsA := memA2 (i := 231) rfl rfl
theorem wm2_232 : Cond.selects RAs yAs_isEmpty yAs_isEmpty ∈ wsA := memA2 (i := 232) rfl rfl
theorem wm2_235 : Cond.methodLink RDM 139 yAs_placeAll ∈ wsA := memA2 (i := 235) rfl rfl
theorem wm2_236 : Cond.instanceMethod yAs_placeAll ∈ wsA := memA2 (i := 236) rfl rfl
theorem wm2_237 : Cond.selects RAs yAs_placeAll yAs_placeAll ∈ wsA := memA2 (i := 237) rfl rfl
theorem wm2_239 : Cond.methodLink RAs 71 yAs_markTaken ∈ wsA := memA2 (i := 239) rfl rfl
theorem wm3_1 : Cond.instanceMethod yAs_markTaken ∈ wsA := memA3 (i := 1) rfl rfl
theorem wm3_3 : Cond.methodLink RAs 91 yAs_takeIfAddress ∈ wsA := memA3 (i := 3) rfl rfl
theorem wm3_5 : Cond.instanceMethod yAs_takeIfAddress ∈ wsA := memA3 (i := 5) rfl rfl
theorem wm3_7 : Cond.methodLink RAs 74 yAs_placeLine ∈ wsA := memA3 (i := 7) rfl rfl
theorem wm3_9 : Cond.instanceMethod yAs_placeLine ∈ wsA := memA3 (i := 9) rfl rfl
theorem wm3_11 : Cond.methodLink RAs 95 yAs_placeLocation ∈ wsA := memA3 (i := 11) rfl rfl
theorem wm3_13 : Cond.instanceMethod yAs_placeLocation ∈ wsA := memA3 (i := 13) rfl rfl
theorem wm3_15 : Cond.methodLink RAs 105 yAs_placePart ∈ wsA := memA3 (i := 15) rfl rfl
theorem wm3_17 : Cond.instanceMethod yAs_placePart ∈ wsA := memA3 (i := 17) rfl rfl
theorem wm3_19 : Cond.methodLink RAs 109 yAs_newPlace ∈ wsA := memA3 (i := 19) rfl rfl
theorem wm3_21 : Cond.instanceMethod yAs_newPlace ∈ wsA := memA3 (i := 21) rfl rfl
theorem wm3_23 : Cond.methodLink RAs 123 yAs_firstFreeFromAngle ∈ wsA := memA3 (i := 23) rfl rfl
theorem wm3_25 : Cond.instanceMethod yAs_firstFreeFromAngle ∈ wsA := memA3 (i := 25) rfl rfl
theorem wm3_27 : Cond.methodLink RAs 126 yAs_leastFree ∈ wsA := memA3 (i := 27) rfl rfl
theorem wm3_29 : Cond.instanceMethod yAs_leastFree ∈ wsA := memA3 (i := 29) rfl rfl
theorem wm3_31 : Cond.methodLink RAs 99 yAs_placeData ∈ wsA := memA3 (i := 31) rfl rfl
theorem wm3_33 : Cond.instanceMethod yAs_placeData ∈ wsA := memA3 (i := 33) rfl rfl
theorem wm3_35 : Cond.methodLink RAs 102 yAs_placeNext ∈ wsA := memA3 (i := 35) rfl rfl
theorem wm3_37 : Cond.instanceMethod yAs_placeNext ∈ wsA := memA3 (i := 37) rfl rfl
theorem wm3_39 : Cond.methodLink RAs 112 yAs_bestForNext ∈ wsA := memA3 (i := 39) rfl rfl
theorem wm3_41 : Cond.instanceMethod yAs_bestForNext ∈ wsA := memA3 (i := 41) rfl rfl
theorem wm3_43 : Cond.methodLink RAs 116 yOp_accessesData ∈ wsA := memA3 (i := 43) rfl rfl
theorem wm3_44 : Cond.static yOp_accessesData ∈ wsA := memA3 (i := 44) rfl rfl
theorem wm3_46 : Cond.methodLink RAs 119 yOp_fixedTime ∈ wsA := memA3 (i := 46) rfl rfl
theorem wm3_47 : Cond.static yOp_fixedTime ∈ wsA := memA3 (i := 47) rfl rfl
theorem wm3_49 : Cond.methodLink ROp 17 yOp_shiftLength ∈ wsA := memA3 (i := 49) rfl rfl
theorem wm3_50 : Cond.static yOp_shiftLength ∈ wsA := memA3 (i := 50) rfl rfl
theorem wm3_52 : Cond.methodLink RAs 78 yAs_isLocationOfEarlierLine ∈ wsA := memA3 (i := 52) rfl rfl
theorem wm3_54 : Cond.instanceMethod yAs_isLocationOfEarlierLine ∈ wsA := memA3 (i := 54) rfl rfl
theorem wm3_72 : Cond.methodLink RDM 148 yAs_writeTo ∈ wsA := memA3 (i := 72) rfl rfl
theorem wm3_73 : Cond.instanceMethod yAs_writeTo ∈ wsA := memA3 (i := 73) rfl rfl
theorem wm3_74 : Cond.selects RAs yAs_writeTo yAs_writeTo ∈ wsA := memA3 (i := 74) rfl rfl
theorem wm3_76 : Cond.methodLink RAs 81 yDg_instruction ∈ wsA := memA3 (i := 76) rfl rfl
theorem wm3_77 : Cond.static yDg_instruction ∈ wsA := memA3 (i := 77) rfl rfl
theorem wm3_79 : Cond.constantLong RDg 17 (100000000) ∈ wsA := memA3 (i := 79) rfl rfl
theorem wm3_80 : Cond.constantLong RDg 19 (10000) ∈ wsA := memA3 (i := 80) rfl rfl
theorem wm3_81 : Cond.methodLink RAs 87 yDr_store ∈ wsA := memA3 (i := 81) rfl rfl
theorem wm3_82 : Cond.methodLink RDM 152 yAs_firstLocation ∈ wsA := memA3 (i := 82) rfl rfl
theorem wm3_83 : Cond.instanceMethod yAs_firstLocation ∈ wsA := memA3 (i := 83) rfl rfl
theorem wm3_84 : Cond.selects RAs yAs_firstLocation yAs_firstLocation ∈ wsA := memA3 (i := 84) rfl rfl
theorem wm3_89 : Cond.methodLink RLa 41 yDM_place ∈ wsA := memA3 (i := 89) rfl rfl
theorem wm3_90 : Cond.instanceMethod yDM_place ∈ wsA := memA3 (i := 90) rfl rfl
theorem wm3_91 : Cond.selects RDM yDM_place yDM_place ∈ wsA := memA3 (i := 91) rfl rfl
theorem wm3_93 : Cond.methodLink RDM 155 yAs_hasSymbol ∈ wsA := memA3 (i := 93) rfl rfl
theorem wm3_94 : Cond.static yAs_hasSymbol ∈ wsA := memA3 (i := 94) rfl rfl
theorem wm3_97 : Cond.methodLink RDM 160 yAs_placeOf ∈ wsA := memA3 (i := 97) rfl rfl
theorem wm3_98 : Cond.instanceMethod yAs_placeOf ∈ wsA := memA3 (i := 98) rfl rfl
theorem wm3_99 : Cond.selects RAs yAs_placeOf yAs_placeOf ∈ wsA := memA3 (i := 99) rfl rfl
theorem wm3_104 : Cond.methodLink RLa 45 yDM_start ∈ wsA := memA3 (i := 104) rfl rfl
theorem wm3_105 : Cond.instanceMethod yDM_start ∈ wsA := memA3 (i := 105) rfl rfl
theorem wm3_106 : Cond.selects RDM yDM_start yDM_start ∈ wsA := memA3 (i := 106) rfl rfl
theorem wm3_109 : Cond.methodLink RDM 166 yPr_goOnFrom ∈ wsA := memA3 (i := 109) rfl rfl
theorem wm3_110 : Cond.instanceMethod yPr_goOnFrom ∈ wsA := memA3 (i := 110) rfl rfl
theorem wm3_111 : Cond.selects RPr yPr_goOnFrom yPr_goOnFrom ∈ wsA := memA3 (i := 111) rfl rfl
theorem wm3_116 : Cond.methodLink RLa 48 yDM_run ∈ wsA := memA3 (i := 116) rfl rfl
theorem wm3_117 : Cond.instanceMethod yDM_run ∈ wsA := memA3 (i := 117) rfl rfl
theorem wm3_118 : Cond.selects RDM yDM_run yDM_run ∈ wsA := memA3 (i := 118) rfl rfl
theorem wm3_121 : Cond.methodLink RDM 171 yPr_isStopped ∈ wsA := memA3 (i := 121) rfl rfl
theorem wm3_122 : Cond.instanceMethod yPr_isStopped ∈ wsA := memA3 (i := 122) rfl rfl
theorem wm3_123 : Cond.selects RPr yPr_isStopped yPr_isStopped ∈ wsA := memA3 (i := 123) rfl rfl
theorem wm3_126 : Cond.methodLink RDM 176 yPr_doSteps ∈ wsA := memA3 (i := 126) rfl rfl
theorem wm3_127 : Cond.instanceMethod yPr_doSteps ∈ wsA := memA3 (i := 127) rfl rfl
theorem wm3_128 : Cond.selects RPr yPr_doSteps yPr_doSteps ∈ wsA := memA3 (i := 128) rfl rfl
theorem wm3_130 : Cond.methodLink RPr 60 yPr_isStopped ∈ wsA := memA3 (i := 130) rfl rfl
theorem wm3_131 : Cond.methodLink RPr 63 yPr_step ∈ wsA := memA3 (i := 131) rfl rfl
theorem wm3_133 : Cond.instanceMethod yPr_step ∈ wsA := memA3 (i := 133) rfl rfl
theorem wm3_135 : Cond.methodLink RPr 71 yDr_hasAddress ∈ wsA := memA3 (i := 135) rfl rfl
theorem wm3_136 : Cond.methodLink RPr 76 yPr_waitAndAccess ∈ wsA := memA3 (i := 136) rfl rfl
theorem wm3_138 : Cond.instanceMethod yPr_waitAndAccess ∈ wsA := memA3 (i := 138) rfl rfl
theorem wm3_140 : Cond.constantLong RPr 111 (50) ∈ wsA := memA3 (i := 140) rfl rfl
theorem wm3_141 : Cond.methodLink RPr 113 yDr_angleOf ∈ wsA := memA3 (i := 141) rfl rfl
theorem wm3_142 : Cond.static yDr_angleOf ∈ wsA := memA3 (i := 142) rfl rfl
theorem wm3_144 : Cond.methodLink RPr 80 yDr_isValid ∈ wsA := memA3 (i := 144) rfl rfl
theorem wm3_145 : Cond.methodLink RPr 83 yDr_valueAt ∈ wsA := memA3 (i := 145) rfl rfl
theorem wm3_146 : Cond.instanceMethod yDr_valueAt ∈ wsA := memA3 (i := 146) rfl rfl
theorem wm3_147 : Cond.selects RDr yDr_valueAt yDr_valueAt ∈ wsA := memA3 (i := 147) rfl rfl
theorem wm3_149 : Cond.methodLink RPr 87 yDg_operationOf ∈ wsA := memA3 (i := 149) rfl rfl
theorem wm3_150 : Cond.static yDg_operationOf ∈ wsA := memA3 (i := 150) rfl rfl
theorem wm3_152 : Cond.methodLink RPr 93 yDg_dataAddressOf ∈ wsA := memA3 (i := 152) rfl rfl
theorem wm3_153 : Cond.static yDg_dataAddressOf ∈ wsA := memA3 (i := 153) rfl rfl
theorem wm3_155 : Cond.methodLink RPr 96 yPr_operate ∈ wsA := memA3 (i := 155) rfl rfl
theorem wm3_157 : Cond.instanceMethod yPr_operate ∈ wsA := memA3 (i := 157) rfl rfl
theorem wm3_159 : Cond.methodLink RPr 117 yOp_exists ∈ wsA := memA3 (i := 159) rfl rfl
theorem wm3_160 : Cond.methodLink RPr 120 yOp_shifts ∈ wsA := memA3 (i := 160) rfl rfl
theorem wm3_161 : Cond.methodLink RPr 123 yOp_shiftLength ∈ wsA := memA3 (i := 161) rfl rfl
theorem wm3_162 : Cond.methodLink RPr 126 yPr_shift ∈ wsA := memA3 (i := 162) rfl rfl
theorem wm3_164 : Cond.instanceMethod yPr_shift ∈ wsA := memA3 (i := 164) rfl rfl
theorem wm3_166 : Cond.methodLink RPr 142 yAc_shiftLeft ∈ wsA := memA3 (i := 166) rfl rfl
theorem wm3_167 : Cond.instanceMethod yAc_shiftLeft ∈ wsA := memA3 (i := 167) rfl rfl
theorem wm3_168 : Cond.selects RAc yAc_shiftLeft yAc_shiftLeft ∈ wsA := memA3 (i := 168) rfl rfl
theorem wm3_170 : Cond.methodLink RAc 46 yDg_powerOfTen ∈ wsA := memA3 (i := 170) rfl rfl
theorem wm3_171 : Cond.static yDg_powerOfTen ∈ wsA := memA3 (i := 171) rfl rfl
theorem wm3_173 : Cond.constantLong RDg 11 (10) ∈ wsA := memA3 (i := 173) rfl rfl
theorem wm3_174 : Cond.methodLink RPr 145 yAc_shiftRight ∈ wsA := memA3 (i := 174) rfl rfl
theorem wm3_175 : Cond.instanceMethod yAc_shiftRight ∈ wsA := memA3 (i := 175) rfl rfl
theorem wm3_176 : Cond.selects RAc yAc_shiftRight yAc_shiftRight ∈ wsA := memA3 (i := 176) rfl rfl
theorem wm3_178 : Cond.methodLink RPr 148 yAc_shiftAndRound ∈ wsA := memA3 (i := 178) rfl rfl
theorem wm3_179 : Cond.instanceMethod yAc_shiftAndRound ∈ wsA := memA3 (i := 179) rfl rfl
theorem wm3_180 : Cond.selects RAc yAc_shiftAndRound yAc_shiftAndRound ∈ wsA := memA3 (i := 180) rfl rfl
theorem wm3_182 : Cond.methodLink RAc 50 yDg_digitAt ∈ wsA := memA3 (i := 182) rfl rfl
theorem wm3_183 : Cond.static yDg_digitAt ∈ wsA := memA3 (i := 183) rfl rfl
theorem wm3_185 : Cond.methodLink RDg 13 yDg_powerOfTen ∈ wsA := memA3 (i := 185) rfl rfl
theorem wm3_186 : Cond.methodLink RAc 54 yAc_shiftRight ∈ wsA := memA3 (i := 186) rfl rfl
theorem wm3_187 : Cond.methodLink RAc 58 yAc_add ∈ wsA := memA3 (i := 187) rfl rfl
theorem wm3_188 : Cond.instanceMethod yAc_add ∈ wsA := memA3 (i := 188) rfl rfl
theorem wm3_189 : Cond.selects RAc yAc_add yAc_add ∈ wsA := memA3 (i := 189) rfl rfl
theorem wm3_191 : Cond.constantLong RAc 29 (10000000000) ∈ wsA := memA3 (i := 191) rfl rfl
theorem wm3_192 : Cond.methodLink RAc 31 yMa_floorDiv ∈ wsA := memA3 (i := 192) rfl rfl
theorem wm3_193 : Cond.static yMa_floorDiv ∈ wsA := memA3 (i := 193) rfl rfl
theorem wm3_195 : Cond.methodLink RAc 37 yMa_floorMod ∈ wsA := memA3 (i := 195) rfl rfl
theorem wm3_196 : Cond.static yMa_floorMod ∈ wsA := memA3 (i := 196) rfl rfl
theorem wm3_198 : Cond.methodLink RPr 130 yOp_accessesData ∈ wsA := memA3 (i := 198) rfl rfl
theorem wm3_199 : Cond.methodLink RPr 133 yOp_writes ∈ wsA := memA3 (i := 199) rfl rfl
theorem wm3_200 : Cond.static yOp_writes ∈ wsA := memA3 (i := 200) rfl rfl
theorem wm3_202 : Cond.methodLink RPr 136 yPr_write ∈ wsA := memA3 (i := 202) rfl rfl
theorem wm3_204 : Cond.instanceMethod yPr_write ∈ wsA := memA3 (i := 204) rfl rfl
theorem wm3_206 : Cond.methodLink RPr 229 yPr_readCard ∈ wsA := memA3 (i := 206) rfl rfl
theorem wm3_208 : Cond.instanceMethod yPr_readCard ∈ wsA := memA3 (i := 208) rfl rfl
theorem wm3_210 : Cond.methodLink RPr 239 yCd_isEmpty ∈ wsA := memA3 (i := 210) rfl rfl
theorem wm3_211 : Cond.instanceMethod yCd_isEmpty ∈ wsA := memA3 (i := 211) rfl rfl
theorem wm3_212 : Cond.selects RCd yCd_isEmpty yCd_isEmpty ∈ wsA := memA3 (i := 212) rfl rfl
theorem wm3_214 : Cond.methodLink RPr 244 yCd_firstValue ∈ wsA := memA3 (i := 214) rfl rfl
theorem wm3_215 : Cond.instanceMethod yCd_firstValue ∈ wsA := memA3 (i := 215) rfl rfl
theorem wm3_216 : Cond.selects RCd yCd_firstValue yCd_firstValue ∈ wsA := memA3 (i := 216) rfl rfl
theorem wm3_218 : Cond.methodLink RPr 247 yCd_firstIsMinus ∈ wsA := memA3 (i := 218) rfl rfl
theorem wm3_219 : Cond.instanceMethod yCd_firstIsMinus ∈ wsA := memA3 (i := 219) rfl rfl
theorem wm3_220 : Cond.selects RCd yCd_firstIsMinus yCd_firstIsMinus ∈ wsA := memA3 (i := 220) rfl rfl
theorem wm3_222 : Cond.methodLink RPr 236 yDr_store ∈ wsA := memA3 (i := 222) rfl rfl
theorem wm3_223 : Cond.methodLink RPr 250 yCd_dropFirst ∈ wsA := memA3 (i := 223) rfl rfl
theorem wm3_224 : Cond.instanceMethod yCd_dropFirst ∈ wsA := memA3 (i := 224) rfl rfl
theorem wm3_225 : Cond.selects RCd yCd_dropFirst yCd_dropFirst ∈ wsA := memA3 (i := 225) rfl rfl
theorem wm3_227 : Cond.methodLink RPr 43 yAc_lowerDigits ∈ wsA := memA3 (i := 227) rfl rfl
theorem wm3_228 : Cond.instanceMethod yAc_lowerDigits ∈ wsA := memA3 (i := 228) rfl rfl
theorem wm3_229 : Cond.selects RAc yAc_lowerDigits yAc_lowerDigits ∈ wsA := memA3 (i := 229) rfl rfl
theorem wm3_231 : Cond.methodLink RPr 49 yAc_isMinus ∈ wsA := memA3 (i := 231) rfl rfl
theorem wm3_232 : Cond.instanceMethod yAc_isMinus ∈ wsA := memA3 (i := 232) rfl rfl
theorem wm3_233 : Cond.selects RAc yAc_isMinus yAc_isMinus ∈ wsA := memA3 (i := 233) rfl rfl
theorem wm3_235 : Cond.methodLink RPr 187 yPr_setDistributor ∈ wsA := memA3 (i := 235) rfl rfl
theorem wm3_237 : Cond.instanceMethod yPr_setDistributor ∈ wsA := memA3 (i := 237) rfl rfl
theorem wm3_239 : Cond.methodLink RPr 39 yAc_upperDigits ∈ wsA := memA3 (i := 239) rfl rfl
theorem wm4_0 : Cond.instanceMethod yAc_upperDigits ∈ wsA := memA4 (i := 0) rfl rfl
theorem wm4_1 : Cond.selects RAc yAc_upperDigits yAc_upperDigits ∈ wsA := memA4 (i := 1) rfl rfl
theorem wm4_3 : Cond.methodLink RPr 232 yDg_withDataAddress ∈ wsA := memA4 (i := 3) rfl rfl
theorem wm4_4 : Cond.static yDg_withDataAddress ∈ wsA := memA4 (i := 4) rfl rfl
theorem wm4_6 : Cond.methodLink RPr 139 yPr_read ∈ wsA := memA4 (i := 6) rfl rfl
theorem wm4_8 : Cond.instanceMethod yPr_read ∈ wsA := memA4 (i := 8) rfl rfl
theorem wm4_10 : Cond.methodLink RPr 164 yPr_lookUp ∈ wsA := memA4 (i := 10) rfl rfl
theorem wm4_12 : Cond.instanceMethod yPr_lookUp ∈ wsA := memA4 (i := 12) rfl rfl
theorem wm4_14 : Cond.methodLink RPr 226 yAc_putDataAddress ∈ wsA := memA4 (i := 14) rfl rfl
theorem wm4_15 : Cond.instanceMethod yAc_putDataAddress ∈ wsA := memA4 (i := 15) rfl rfl
theorem wm4_16 : Cond.selects RAc yAc_putDataAddress yAc_putDataAddress ∈ wsA := memA4 (i := 16) rfl rfl
theorem wm4_18 : Cond.methodLink RAc 23 yDg_withDataAddress ∈ wsA := memA4 (i := 18) rfl rfl
theorem wm4_19 : Cond.methodLink RPr 167 yDr_isMinus ∈ wsA := memA4 (i := 19) rfl rfl
theorem wm4_20 : Cond.instanceMethod yDr_isMinus ∈ wsA := memA4 (i := 20) rfl rfl
theorem wm4_21 : Cond.selects RDr yDr_isMinus yDr_isMinus ∈ wsA := memA4 (i := 21) rfl rfl
theorem wm4_23 : Cond.methodLink RPr 169 yPr_divide ∈ wsA := memA4 (i := 23) rfl rfl
theorem wm4_25 : Cond.instanceMethod yPr_divide ∈ wsA := memA4 (i := 25) rfl rfl
theorem wm4_27 : Cond.methodLink RPr 210 yAc_divide ∈ wsA := memA4 (i := 27) rfl rfl
theorem wm4_28 : Cond.instanceMethod yAc_divide ∈ wsA := memA4 (i := 28) rfl rfl
theorem wm4_29 : Cond.selects RAc yAc_divide yAc_divide ∈ wsA := memA4 (i := 29) rfl rfl
theorem wm4_31 : Cond.constantLong RAc 42 (10) ∈ wsA := memA4 (i := 31) rfl rfl
theorem wm4_32 : Cond.constantLong RAc 44 (1000000000) ∈ wsA := memA4 (i := 32) rfl rfl
theorem wm4_33 : Cond.methodLink RPr 206 yDg_sum ∈ wsA := memA4 (i := 33) rfl rfl
theorem wm4_34 : Cond.static yDg_sum ∈ wsA := memA4 (i := 34) rfl rfl
theorem wm4_36 : Cond.methodLink RPr 173 yPr_punchWord ∈ wsA := memA4 (i := 36) rfl rfl
theorem wm4_38 : Cond.instanceMethod yPr_punchWord ∈ wsA := memA4 (i := 38) rfl rfl
theorem wm4_40 : Cond.methodLink RPr 213 yPu_isFull ∈ wsA := memA4 (i := 40) rfl rfl
theorem wm4_41 : Cond.instanceMethod yPu_isFull ∈ wsA := memA4 (i := 41) rfl rfl
theorem wm4_42 : Cond.selects RPu yPu_isFull yPu_isFull ∈ wsA := memA4 (i := 42) rfl rfl
theorem wm4_44 : Cond.methodLink RPr 218 yDg_withSign ∈ wsA := memA4 (i := 44) rfl rfl
theorem wm4_45 : Cond.static yDg_withSign ∈ wsA := memA4 (i := 45) rfl rfl
theorem wm4_47 : Cond.methodLink RPr 222 yPu_put ∈ wsA := memA4 (i := 47) rfl rfl
theorem wm4_48 : Cond.instanceMethod yPu_put ∈ wsA := memA4 (i := 48) rfl rfl
theorem wm4_49 : Cond.selects RPu yPu_put yPu_put ∈ wsA := memA4 (i := 49) rfl rfl
theorem wm4_51 : Cond.methodLink RPr 176 yPr_multiply ∈ wsA := memA4 (i := 51) rfl rfl
theorem wm4_53 : Cond.instanceMethod yPr_multiply ∈ wsA := memA4 (i := 53) rfl rfl
theorem wm4_55 : Cond.methodLink RPr 209 yAc_multiply ∈ wsA := memA4 (i := 55) rfl rfl
theorem wm4_56 : Cond.instanceMethod yAc_multiply ∈ wsA := memA4 (i := 56) rfl rfl
theorem wm4_57 : Cond.selects RAc yAc_multiply yAc_multiply ∈ wsA := memA4 (i := 57) rfl rfl
theorem wm4_59 : Cond.constantLong RAc 40 (100000) ∈ wsA := memA4 (i := 59) rfl rfl
theorem wm4_60 : Cond.methodLink RPr 180 yOp_adds ∈ wsA := memA4 (i := 60) rfl rfl
theorem wm4_61 : Cond.static yOp_adds ∈ wsA := memA4 (i := 61) rfl rfl
theorem wm4_63 : Cond.methodLink RPr 183 yPr_addWord ∈ wsA := memA4 (i := 63) rfl rfl
theorem wm4_65 : Cond.instanceMethod yPr_addWord ∈ wsA := memA4 (i := 65) rfl rfl
theorem wm4_67 : Cond.methodLink RPr 190 yOp_resetsFirst ∈ wsA := memA4 (i := 67) rfl rfl
theorem wm4_68 : Cond.static yOp_resetsFirst ∈ wsA := memA4 (i := 68) rfl rfl
theorem wm4_70 : Cond.methodLink RPr 193 yAc_reset ∈ wsA := memA4 (i := 70) rfl rfl
theorem wm4_71 : Cond.instanceMethod yAc_reset ∈ wsA := memA4 (i := 71) rfl rfl
theorem wm4_72 : Cond.selects RAc yAc_reset yAc_reset ∈ wsA := memA4 (i := 72) rfl rfl
theorem wm4_74 : Cond.methodLink RPr 196 yOp_subtracts ∈ wsA := memA4 (i := 74) rfl rfl
theorem wm4_75 : Cond.static yOp_subtracts ∈ wsA := memA4 (i := 75) rfl rfl
theorem wm4_77 : Cond.methodLink RPr 199 yOp_addsToUpper ∈ wsA := memA4 (i := 77) rfl rfl
theorem wm4_78 : Cond.static yOp_addsToUpper ∈ wsA := memA4 (i := 78) rfl rfl
theorem wm4_80 : Cond.methodLink RPr 202 yAc_add ∈ wsA := memA4 (i := 80) rfl rfl
theorem wm4_81 : Cond.methodLink RPr 67 yPr_isFault ∈ wsA := memA4 (i := 81) rfl rfl
theorem wm4_82 : Cond.static yPr_isFault ∈ wsA := memA4 (i := 82) rfl rfl
theorem wm4_84 : Cond.methodLink RPr 100 yOp_fixedTime ∈ wsA := memA4 (i := 84) rfl rfl
theorem wm4_85 : Cond.methodLink RPr 105 yPr_takesBranch ∈ wsA := memA4 (i := 85) rfl rfl
theorem wm4_87 : Cond.instanceMethod yPr_takesBranch ∈ wsA := memA4 (i := 87) rfl rfl
theorem wm4_89 : Cond.methodLink RPr 151 yOp_branchesOnEight ∈ wsA := memA4 (i := 89) rfl rfl
theorem wm4_90 : Cond.methodLink RPr 154 yDg_digitAt ∈ wsA := memA4 (i := 90) rfl rfl
theorem wm4_91 : Cond.methodLink RPr 158 yAc_isZero ∈ wsA := memA4 (i := 91) rfl rfl
theorem wm4_92 : Cond.instanceMethod yAc_isZero ∈ wsA := memA4 (i := 92) rfl rfl
theorem wm4_93 : Cond.selects RAc yAc_isZero yAc_isZero ∈ wsA := memA4 (i := 93) rfl rfl
theorem wm4_95 : Cond.methodLink RPr 161 yAc_takeOverflow ∈ wsA := memA4 (i := 95) rfl rfl
theorem wm4_96 : Cond.instanceMethod yAc_takeOverflow ∈ wsA := memA4 (i := 96) rfl rfl
theorem wm4_97 : Cond.selects RAc yAc_takeOverflow yAc_takeOverflow ∈ wsA := memA4 (i := 97) rfl rfl
theorem wm4_99 : Cond.methodLink RPr 108 yDg_nextAddressOf ∈ wsA := memA4 (i := 99) rfl rfl
theorem wm4_100 : Cond.static yDg_nextAddressOf ∈ wsA := memA4 (i := 100) rfl rfl
theorem wm4_105 : Cond.methodLink RLa 51 yDM_register ∈ wsA := memA4 (i := 105) rfl rfl
theorem wm4_106 : Cond.instanceMethod yDM_register ∈ wsA := memA4 (i := 106) rfl rfl
theorem wm4_107 : Cond.selects RDM yDM_register yDM_register ∈ wsA := memA4 (i := 107) rfl rfl
theorem wm4_109 : Cond.methodLink RDM 186 yPr_upperDigits ∈ wsA := memA4 (i := 109) rfl rfl
theorem wm4_110 : Cond.instanceMethod yPr_upperDigits ∈ wsA := memA4 (i := 110) rfl rfl
theorem wm4_111 : Cond.selects RPr yPr_upperDigits yPr_upperDigits ∈ wsA := memA4 (i := 111) rfl rfl
theorem wm4_113 : Cond.methodLink RDM 189 yPr_lowerDigits ∈ wsA := memA4 (i := 113) rfl rfl
theorem wm4_114 : Cond.instanceMethod yPr_lowerDigits ∈ wsA := memA4 (i := 114) rfl rfl
theorem wm4_115 : Cond.selects RPr yPr_lowerDigits yPr_lowerDigits ∈ wsA := memA4 (i := 115) rfl rfl
theorem wm4_117 : Cond.methodLink RDM 192 yPr_distributorDigits ∈ wsA := memA4 (i := 117) rfl rfl
theorem wm4_118 : Cond.instanceMethod yPr_distributorDigits ∈ wsA := memA4 (i := 118) rfl rfl
theorem wm4_119 : Cond.selects RPr yPr_distributorDigits yPr_distributorDigits ∈ wsA := memA4 (i := 119) rfl rfl
theorem wm4_125 : Cond.methodLink RLa 55 yDM_sign ∈ wsA := memA4 (i := 125) rfl rfl
theorem wm4_126 : Cond.instanceMethod yDM_sign ∈ wsA := memA4 (i := 126) rfl rfl
theorem wm4_127 : Cond.selects RDM yDM_sign yDM_sign ∈ wsA := memA4 (i := 127) rfl rfl
theorem wm4_129 : Cond.methodLink RDM 197 yPr_accumulatorIsMinus ∈ wsA := memA4 (i := 129) rfl rfl
theorem wm4_130 : Cond.instanceMethod yPr_accumulatorIsMinus ∈ wsA := memA4 (i := 130) rfl rfl
theorem wm4_131 : Cond.selects RPr yPr_accumulatorIsMinus yPr_accumulatorIsMinus ∈ wsA := memA4 (i := 131) rfl rfl
theorem wm4_133 : Cond.methodLink RDM 200 yPr_distributorIsMinus ∈ wsA := memA4 (i := 133) rfl rfl
theorem wm4_134 : Cond.instanceMethod yPr_distributorIsMinus ∈ wsA := memA4 (i := 134) rfl rfl
theorem wm4_135 : Cond.selects RPr yPr_distributorIsMinus yPr_distributorIsMinus ∈ wsA := memA4 (i := 135) rfl rfl
theorem wm4_137 : Cond.methodLink RDM 203 yPr_overflowIsOn ∈ wsA := memA4 (i := 137) rfl rfl
theorem wm4_138 : Cond.instanceMethod yPr_overflowIsOn ∈ wsA := memA4 (i := 138) rfl rfl
theorem wm4_139 : Cond.selects RPr yPr_overflowIsOn yPr_overflowIsOn ∈ wsA := memA4 (i := 139) rfl rfl
theorem wm4_141 : Cond.methodLink RPr 57 yAc_hasOverflow ∈ wsA := memA4 (i := 141) rfl rfl
theorem wm4_142 : Cond.instanceMethod yAc_hasOverflow ∈ wsA := memA4 (i := 142) rfl rfl
theorem wm4_143 : Cond.selects RAc yAc_hasOverflow yAc_hasOverflow ∈ wsA := memA4 (i := 143) rfl rfl
theorem wm4_149 : Cond.methodLink RLa 59 yDM_get ∈ wsA := memA4 (i := 149) rfl rfl
theorem wm4_150 : Cond.instanceMethod yDM_get ∈ wsA := memA4 (i := 150) rfl rfl
theorem wm4_151 : Cond.selects RDM yDM_get yDM_get ∈ wsA := memA4 (i := 151) rfl rfl
theorem wm4_153 : Cond.constantLong RDM 211 (-10000000000) ∈ wsA := memA4 (i := 153) rfl rfl
theorem wm4_154 : Cond.methodLink RDM 213 yDr_valueAt ∈ wsA := memA4 (i := 154) rfl rfl
theorem wm4_155 : Cond.methodLink RDM 217 yDr_isMinus ∈ wsA := memA4 (i := 155) rfl rfl
theorem wm4_156 : Cond.methodLink RDM 220 yDg_withSign ∈ wsA := memA4 (i := 156) rfl rfl
theorem wm4_160 : Cond.methodLink RLa 62 yDM_output ∈ wsA := memA4 (i := 160) rfl rfl
theorem wm4_161 : Cond.instanceMethod yDM_output ∈ wsA := memA4 (i := 161) rfl rfl
theorem wm4_162 : Cond.selects RDM yDM_output yDM_output ∈ wsA := memA4 (i := 162) rfl rfl
theorem wm4_164 : Cond.methodLink RDM 224 yPu_hasWord ∈ wsA := memA4 (i := 164) rfl rfl
theorem wm4_165 : Cond.instanceMethod yPu_hasWord ∈ wsA := memA4 (i := 165) rfl rfl
theorem wm4_166 : Cond.selects RPu yPu_hasWord yPu_hasWord ∈ wsA := memA4 (i := 166) rfl rfl
theorem wm4_169 : Cond.methodLink RDM 229 yPu_wordAt ∈ wsA := memA4 (i := 169) rfl rfl
theorem wm4_170 : Cond.instanceMethod yPu_wordAt ∈ wsA := memA4 (i := 170) rfl rfl
theorem wm4_171 : Cond.selects RPu yPu_wordAt yPu_wordAt ∈ wsA := memA4 (i := 171) rfl rfl
theorem wm4_175 : Cond.methodLink RLa 68 yMo_init ∈ wsA := memA4 (i := 175) rfl rfl
theorem wm4_176 : Cond.instanceMethod yMo_init ∈ wsA := memA4 (i := 176) rfl rfl
theorem wm4_179 : Cond.methodLink RMo 54 yMo_write ∈ wsA := memA4 (i := 179) rfl rfl
theorem wm4_181 : Cond.instanceMethod yMo_write ∈ wsA := memA4 (i := 181) rfl rfl
theorem wm4_183 : Cond.constantLong RMo 67 (10) ∈ wsA := memA4 (i := 183) rfl rfl
theorem wm4_184 : Cond.methodLink RMo 58 yMo_forgetPlaces ∈ wsA := memA4 (i := 184) rfl rfl
theorem wm4_186 : Cond.instanceMethod yMo_forgetPlaces ∈ wsA := memA4 (i := 186) rfl rfl
theorem wm4_188 : Cond.fieldLink RMo 61 "DrumMachineModel" "code" "I" ∈ wsA := memA4 (i := 188) rfl rfl
theorem wm4_189 : Cond.fieldLink RMo 7 "DrumMachineModel" "digits" "[I" ∈ wsA := memA4 (i := 189) rfl rfl
theorem wm4_190 : Cond.fieldLink RMo 13 "DrumMachineModel" "minus" "[Z" ∈ wsA := memA4 (i := 190) rfl rfl
theorem wm4_191 : Cond.fieldLink RMo 118 "DrumMachineModel" "upper" "J" ∈ wsA := memA4 (i := 191) rfl rfl
theorem wm4_192 : Cond.fieldLink RMo 115 "DrumMachineModel" "lower" "J" ∈ wsA := memA4 (i := 192) rfl rfl
theorem wm4_193 : Cond.fieldLink RMo 140 "DrumMachineModel" "distributor" "J" ∈ wsA := memA4 (i := 193) rfl rfl
theorem wm4_194 : Cond.fieldLink RMo 111 "DrumMachineModel" "negative" "Z" ∈ wsA := memA4 (i := 194) rfl rfl
theorem wm4_195 : Cond.fieldLink RMo 143 "DrumMachineModel" "negativeDistributor" "Z" ∈ wsA := memA4 (i := 195) rfl rfl
theorem wm4_196 : Cond.fieldLink RMo 121 "DrumMachineModel" "overflow" "Z" ∈ wsA := memA4 (i := 196) rfl rfl
theorem wm4_197 : Cond.fieldLink RMo 108 "DrumMachineModel" "next" "I" ∈ wsA := memA4 (i := 197) rfl rfl
theorem wm4_198 : Cond.fieldLink RMo 105 "DrumMachineModel" "fault" "I" ∈ wsA := memA4 (i := 198) rfl rfl
theorem wm4_199 : Cond.fieldLink RMo 99 "DrumMachineModel" "time" "J" ∈ wsA := memA4 (i := 199) rfl rfl
theorem wm4_200 : Cond.fieldLink RMo 87 "DrumMachineModel" "cards" "I" ∈ wsA := memA4 (i := 200) rfl rfl
theorem wm4_201 : Cond.fieldLink RMo 17 "DrumMachineModel" "card" "[J" ∈ wsA := memA4 (i := 201) rfl rfl
theorem wm4_202 : Cond.fieldLink RMo 21 "DrumMachineModel" "cardMinus" "[Z" ∈ wsA := memA4 (i := 202) rfl rfl
theorem wm4_203 : Cond.fieldLink RMo 137 "DrumMachineModel" "outputs" "I" ∈ wsA := memA4 (i := 203) rfl rfl
theorem wm4_204 : Cond.fieldLink RMo 24 "DrumMachineModel" "output" "[J" ∈ wsA := memA4 (i := 204) rfl rfl
theorem wm4_205 : Cond.fieldLink RMo 205 "DrumMachineModel" "lines" "I" ∈ wsA := memA4 (i := 205) rfl rfl
theorem wm4_206 : Cond.fieldLink RMo 27 "DrumMachineModel" "location" "[I" ∈ wsA := memA4 (i := 206) rfl rfl
theorem wm4_207 : Cond.fieldLink RMo 30 "DrumMachineModel" "operation" "[I" ∈ wsA := memA4 (i := 207) rfl rfl
theorem wm4_208 : Cond.fieldLink RMo 33 "DrumMachineModel" "data" "[I" ∈ wsA := memA4 (i := 208) rfl rfl
theorem wm4_209 : Cond.fieldLink RMo 36 "DrumMachineModel" "following" "[I" ∈ wsA := memA4 (i := 209) rfl rfl
theorem wm4_210 : Cond.fieldLink RMo 39 "DrumMachineModel" "reserved" "[Z" ∈ wsA := memA4 (i := 210) rfl rfl
theorem wm4_211 : Cond.fieldLink RMo 42 "DrumMachineModel" "places" "[I" ∈ wsA := memA4 (i := 211) rfl rfl
theorem wm4_212 : Cond.fieldLink RMo 45 "DrumMachineModel" "held" "[Z" ∈ wsA := memA4 (i := 212) rfl rfl
theorem wm4_213 : Cond.fieldLink RMo 48 "DrumMachineModel" "at" "[I" ∈ wsA := memA4 (i := 213) rfl rfl
theorem wm4_214 : Cond.fieldLink RMo 51 "DrumMachineModel" "written" "[J" ∈ wsA := memA4 (i := 214) rfl rfl
theorem wm4_215 : Cond.fieldLink RMo 208 "DrumMachineModel" "full" "Z" ∈ wsA := memA4 (i := 215) rfl rfl
theorem wm4_216 : Cond.lays RMo "DrumMachineModel" "code" "I" ∈ wsA := memA4 (i := 216) rfl rfl
theorem wm4_218 : Cond.laysFinal RMo "DrumMachineModel" "digits" "[I" ∈ wsA := memA4 (i := 218) rfl rfl
theorem wm4_220 : Cond.laysFinal RMo "DrumMachineModel" "minus" "[Z" ∈ wsA := memA4 (i := 220) rfl rfl
theorem wm4_222 : Cond.lays RMo "DrumMachineModel" "upper" "J" ∈ wsA := memA4 (i := 222) rfl rfl
theorem wm4_224 : Cond.lays RMo "DrumMachineModel" "lower" "J" ∈ wsA := memA4 (i := 224) rfl rfl
theorem wm4_226 : Cond.lays RMo "DrumMachineModel" "distributor" "J" ∈ wsA := memA4 (i := 226) rfl rfl
theorem wm4_228 : Cond.lays RMo "DrumMachineModel" "negative" "Z" ∈ wsA := memA4 (i := 228) rfl rfl
theorem wm4_230 : Cond.lays RMo "DrumMachineModel" "negativeDistributor" "Z" ∈ wsA := memA4 (i := 230) rfl rfl
theorem wm4_232 : Cond.lays RMo "DrumMachineModel" "overflow" "Z" ∈ wsA := memA4 (i := 232) rfl rfl
theorem wm4_234 : Cond.lays RMo "DrumMachineModel" "next" "I" ∈ wsA := memA4 (i := 234) rfl rfl
theorem wm4_236 : Cond.lays RMo "DrumMachineModel" "fault" "I" ∈ wsA := memA4 (i := 236) rfl rfl
theorem wm4_238 : Cond.lays RMo "DrumMachineModel" "time" "J" ∈ wsA := memA4 (i := 238) rfl rfl
theorem wm5_0 : Cond.lays RMo "DrumMachineModel" "cards" "I" ∈ wsA := memA5 (i := 0) rfl rfl
theorem wm5_2 : Cond.laysFinal RMo "DrumMachineModel" "card" "[J" ∈ wsA := memA5 (i := 2) rfl rfl
theorem wm5_4 : Cond.laysFinal RMo "DrumMachineModel" "cardMinus" "[Z" ∈ wsA := memA5 (i := 4) rfl rfl
theorem wm5_6 : Cond.lays RMo "DrumMachineModel" "outputs" "I" ∈ wsA := memA5 (i := 6) rfl rfl
theorem wm5_8 : Cond.laysFinal RMo "DrumMachineModel" "output" "[J" ∈ wsA := memA5 (i := 8) rfl rfl
theorem wm5_10 : Cond.lays RMo "DrumMachineModel" "lines" "I" ∈ wsA := memA5 (i := 10) rfl rfl
theorem wm5_12 : Cond.laysFinal RMo "DrumMachineModel" "location" "[I" ∈ wsA := memA5 (i := 12) rfl rfl
theorem wm5_14 : Cond.laysFinal RMo "DrumMachineModel" "operation" "[I" ∈ wsA := memA5 (i := 14) rfl rfl
theorem wm5_16 : Cond.laysFinal RMo "DrumMachineModel" "data" "[I" ∈ wsA := memA5 (i := 16) rfl rfl
theorem wm5_18 : Cond.laysFinal RMo "DrumMachineModel" "following" "[I" ∈ wsA := memA5 (i := 18) rfl rfl
theorem wm5_20 : Cond.laysFinal RMo "DrumMachineModel" "reserved" "[Z" ∈ wsA := memA5 (i := 20) rfl rfl
theorem wm5_22 : Cond.laysFinal RMo "DrumMachineModel" "places" "[I" ∈ wsA := memA5 (i := 22) rfl rfl
theorem wm5_24 : Cond.laysFinal RMo "DrumMachineModel" "held" "[Z" ∈ wsA := memA5 (i := 24) rfl rfl
theorem wm5_26 : Cond.laysFinal RMo "DrumMachineModel" "at" "[I" ∈ wsA := memA5 (i := 26) rfl rfl
theorem wm5_28 : Cond.laysFinal RMo "DrumMachineModel" "written" "[J" ∈ wsA := memA5 (i := 28) rfl rfl
theorem wm5_30 : Cond.lays RMo "DrumMachineModel" "full" "Z" ∈ wsA := memA5 (i := 30) rfl rfl
theorem wm5_33 : Cond.methodLink RLa 77 yMo_thrown ∈ wsA := memA5 (i := 33) rfl rfl
theorem wm5_34 : Cond.instanceMethod yMo_thrown ∈ wsA := memA5 (i := 34) rfl rfl
theorem wm5_35 : Cond.selects RMo yMo_thrown yMo_thrown ∈ wsA := memA5 (i := 35) rfl rfl
theorem wm5_37 : Cond.methodLink RLa 76 yMo_word ∈ wsA := memA5 (i := 37) rfl rfl
theorem wm5_38 : Cond.instanceMethod yMo_word ∈ wsA := memA5 (i := 38) rfl rfl
theorem wm5_39 : Cond.selects RMo yMo_word yMo_word ∈ wsA := memA5 (i := 39) rfl rfl
theorem wm5_41 : Cond.methodLink RMo 75 yMo_isAddress ∈ wsA := memA5 (i := 41) rfl rfl
theorem wm5_42 : Cond.static yMo_isAddress ∈ wsA := memA5 (i := 42) rfl rfl
theorem wm5_44 : Cond.methodLink RMo 79 yMo_isWord ∈ wsA := memA5 (i := 44) rfl rfl
theorem wm5_45 : Cond.static yMo_isWord ∈ wsA := memA5 (i := 45) rfl rfl
theorem wm5_47 : Cond.constantLong RMo 65 (10000000000) ∈ wsA := memA5 (i := 47) rfl rfl
theorem wm5_48 : Cond.methodLink RLa 84 yMo_flip ∈ wsA := memA5 (i := 48) rfl rfl
theorem wm5_49 : Cond.instanceMethod yMo_flip ∈ wsA := memA5 (i := 49) rfl rfl
theorem wm5_50 : Cond.selects RMo yMo_flip yMo_flip ∈ wsA := memA5 (i := 50) rfl rfl
theorem wm5_52 : Cond.methodLink RMo 83 yMo_value ∈ wsA := memA5 (i := 52) rfl rfl
theorem wm5_54 : Cond.instanceMethod yMo_value ∈ wsA := memA5 (i := 54) rfl rfl
theorem wm5_56 : Cond.methodLink RMo 69 yMo_digitOf ∈ wsA := memA5 (i := 56) rfl rfl
theorem wm5_57 : Cond.static yMo_digitOf ∈ wsA := memA5 (i := 57) rfl rfl
theorem wm5_59 : Cond.constantLong RMo 73 (-1) ∈ wsA := memA5 (i := 59) rfl rfl
theorem wm5_60 : Cond.methodLink RLa 88 yMo_card ∈ wsA := memA5 (i := 60) rfl rfl
theorem wm5_61 : Cond.instanceMethod yMo_card ∈ wsA := memA5 (i := 61) rfl rfl
theorem wm5_62 : Cond.selects RMo yMo_card yMo_card ∈ wsA := memA5 (i := 62) rfl rfl
theorem wm5_64 : Cond.methodLink RLa 111 yMo_start ∈ wsA := memA5 (i := 64) rfl rfl
theorem wm5_65 : Cond.instanceMethod yMo_start ∈ wsA := memA5 (i := 65) rfl rfl
theorem wm5_66 : Cond.selects RMo yMo_start yMo_start ∈ wsA := memA5 (i := 66) rfl rfl
theorem wm5_68 : Cond.methodLink RLa 114 yMo_run ∈ wsA := memA5 (i := 68) rfl rfl
theorem wm5_69 : Cond.instanceMethod yMo_run ∈ wsA := memA5 (i := 69) rfl rfl
theorem wm5_70 : Cond.selects RMo yMo_run yMo_run ∈ wsA := memA5 (i := 70) rfl rfl
theorem wm5_72 : Cond.methodLink RMo 195 yMo_step ∈ wsA := memA5 (i := 72) rfl rfl
theorem wm5_74 : Cond.instanceMethod yMo_step ∈ wsA := memA5 (i := 74) rfl rfl
theorem wm5_76 : Cond.methodLink RMo 134 yMo_stop ∈ wsA := memA5 (i := 76) rfl rfl
theorem wm5_78 : Cond.instanceMethod yMo_stop ∈ wsA := memA5 (i := 78) rfl rfl
theorem wm5_80 : Cond.methodLink RMo 170 yMo_access ∈ wsA := memA5 (i := 80) rfl rfl
theorem wm5_82 : Cond.instanceMethod yMo_access ∈ wsA := memA5 (i := 82) rfl rfl
theorem wm5_84 : Cond.constantLong RMo 103 (50) ∈ wsA := memA5 (i := 84) rfl rfl
theorem wm5_85 : Cond.constantLong RMo 166 (100000000) ∈ wsA := memA5 (i := 85) rfl rfl
theorem wm5_86 : Cond.constantLong RMo 164 (10000) ∈ wsA := memA5 (i := 86) rfl rfl
theorem wm5_87 : Cond.methodLink RMo 174 yMo_isOperation ∈ wsA := memA5 (i := 87) rfl rfl
theorem wm5_88 : Cond.static yMo_isOperation ∈ wsA := memA5 (i := 88) rfl rfl
theorem wm5_90 : Cond.methodLink RMo 90 yMo_reads ∈ wsA := memA5 (i := 90) rfl rfl
theorem wm5_91 : Cond.static yMo_reads ∈ wsA := memA5 (i := 91) rfl rfl
theorem wm5_93 : Cond.methodLink RMo 93 yMo_writes ∈ wsA := memA5 (i := 93) rfl rfl
theorem wm5_94 : Cond.static yMo_writes ∈ wsA := memA5 (i := 94) rfl rfl
theorem wm5_96 : Cond.methodLink RMo 96 yMo_shifts ∈ wsA := memA5 (i := 96) rfl rfl
theorem wm5_97 : Cond.static yMo_shifts ∈ wsA := memA5 (i := 97) rfl rfl
theorem wm5_99 : Cond.methodLink RMo 177 yMo_doRead ∈ wsA := memA5 (i := 99) rfl rfl
theorem wm5_101 : Cond.instanceMethod yMo_doRead ∈ wsA := memA5 (i := 101) rfl rfl
theorem wm5_103 : Cond.methodLink RMo 130 yMo_lookUp ∈ wsA := memA5 (i := 103) rfl rfl
theorem wm5_105 : Cond.instanceMethod yMo_lookUp ∈ wsA := memA5 (i := 105) rfl rfl
theorem wm5_107 : Cond.methodLink RMo 146 yMo_fixed ∈ wsA := memA5 (i := 107) rfl rfl
theorem wm5_108 : Cond.static yMo_fixed ∈ wsA := memA5 (i := 108) rfl rfl
theorem wm5_110 : Cond.methodLink RMo 150 yMo_divide ∈ wsA := memA5 (i := 110) rfl rfl
theorem wm5_112 : Cond.instanceMethod yMo_divide ∈ wsA := memA5 (i := 112) rfl rfl
theorem wm5_114 : Cond.constantLong RMo 124 (1000000000) ∈ wsA := memA5 (i := 114) rfl rfl
theorem wm5_115 : Cond.methodLink RMo 154 yMo_sumOfDigits ∈ wsA := memA5 (i := 115) rfl rfl
theorem wm5_116 : Cond.static yMo_sumOfDigits ∈ wsA := memA5 (i := 116) rfl rfl
theorem wm5_118 : Cond.methodLink RMo 158 yMo_multiply ∈ wsA := memA5 (i := 118) rfl rfl
theorem wm5_120 : Cond.instanceMethod yMo_multiply ∈ wsA := memA5 (i := 120) rfl rfl
theorem wm5_122 : Cond.methodLink RMo 161 yMo_sum ∈ wsA := memA5 (i := 122) rfl rfl
theorem wm5_124 : Cond.instanceMethod yMo_sum ∈ wsA := memA5 (i := 124) rfl rfl
theorem wm5_126 : Cond.methodLink RMo 126 yMo_add ∈ wsA := memA5 (i := 126) rfl rfl
theorem wm5_128 : Cond.instanceMethod yMo_add ∈ wsA := memA5 (i := 128) rfl rfl
theorem wm5_130 : Cond.methodLink RMo 181 yMo_doWrite ∈ wsA := memA5 (i := 130) rfl rfl
theorem wm5_132 : Cond.instanceMethod yMo_doWrite ∈ wsA := memA5 (i := 132) rfl rfl
theorem wm5_134 : Cond.methodLink RMo 185 yMo_branches ∈ wsA := memA5 (i := 134) rfl rfl
theorem wm5_136 : Cond.instanceMethod yMo_branches ∈ wsA := memA5 (i := 136) rfl rfl
theorem wm5_138 : Cond.constantLong RMo 168 (8) ∈ wsA := memA5 (i := 138) rfl rfl
theorem wm5_139 : Cond.methodLink RMo 188 yMo_shiftRight ∈ wsA := memA5 (i := 139) rfl rfl
theorem wm5_141 : Cond.instanceMethod yMo_shiftRight ∈ wsA := memA5 (i := 141) rfl rfl
theorem wm5_143 : Cond.methodLink RMo 192 yMo_shiftLeft ∈ wsA := memA5 (i := 143) rfl rfl
theorem wm5_145 : Cond.instanceMethod yMo_shiftLeft ∈ wsA := memA5 (i := 145) rfl rfl
theorem wm5_147 : Cond.methodLink RLa 92 yMo_line ∈ wsA := memA5 (i := 147) rfl rfl
theorem wm5_148 : Cond.instanceMethod yMo_line ∈ wsA := memA5 (i := 148) rfl rfl
theorem wm5_149 : Cond.selects RMo yMo_line yMo_line ∈ wsA := memA5 (i := 149) rfl rfl
theorem wm5_151 : Cond.methodLink RMo 199 yMo_isPart ∈ wsA := memA5 (i := 151) rfl rfl
theorem wm5_152 : Cond.static yMo_isPart ∈ wsA := memA5 (i := 152) rfl rfl
theorem wm5_154 : Cond.methodLink RMo 202 yMo_fail ∈ wsA := memA5 (i := 154) rfl rfl
theorem wm5_156 : Cond.instanceMethod yMo_fail ∈ wsA := memA5 (i := 156) rfl rfl
theorem wm5_158 : Cond.methodLink RLa 96 yMo_reserve ∈ wsA := memA5 (i := 158) rfl rfl
theorem wm5_159 : Cond.instanceMethod yMo_reserve ∈ wsA := memA5 (i := 159) rfl rfl
theorem wm5_160 : Cond.selects RMo yMo_reserve yMo_reserve ∈ wsA := memA5 (i := 160) rfl rfl
theorem wm5_162 : Cond.methodLink RLa 100 yMo_clear ∈ wsA := memA5 (i := 162) rfl rfl
theorem wm5_163 : Cond.instanceMethod yMo_clear ∈ wsA := memA5 (i := 163) rfl rfl
theorem wm5_164 : Cond.selects RMo yMo_clear yMo_clear ∈ wsA := memA5 (i := 164) rfl rfl
theorem wm5_166 : Cond.methodLink RLa 104 yMo_assemble ∈ wsA := memA5 (i := 166) rfl rfl
theorem wm5_167 : Cond.instanceMethod yMo_assemble ∈ wsA := memA5 (i := 167) rfl rfl
theorem wm5_168 : Cond.selects RMo yMo_assemble yMo_assemble ∈ wsA := memA5 (i := 168) rfl rfl
theorem wm5_170 : Cond.methodLink RMo 219 yMo_hold ∈ wsA := memA5 (i := 170) rfl rfl
theorem wm5_172 : Cond.instanceMethod yMo_hold ∈ wsA := memA5 (i := 172) rfl rfl
theorem wm5_174 : Cond.methodLink RMo 222 yMo_settle ∈ wsA := memA5 (i := 174) rfl rfl
theorem wm5_176 : Cond.instanceMethod yMo_settle ∈ wsA := memA5 (i := 176) rfl rfl
theorem wm5_178 : Cond.methodLink RMo 211 yMo_take ∈ wsA := memA5 (i := 178) rfl rfl
theorem wm5_180 : Cond.instanceMethod yMo_take ∈ wsA := memA5 (i := 180) rfl rfl
theorem wm5_182 : Cond.methodLink RMo 215 yMo_placeOf ∈ wsA := memA5 (i := 182) rfl rfl
theorem wm5_184 : Cond.instanceMethod yMo_placeOf ∈ wsA := memA5 (i := 184) rfl rfl
theorem wm5_186 : Cond.methodLink RLa 108 yMo_place ∈ wsA := memA5 (i := 186) rfl rfl
theorem wm5_187 : Cond.instanceMethod yMo_place ∈ wsA := memA5 (i := 187) rfl rfl
theorem wm5_188 : Cond.selects RMo yMo_place yMo_place ∈ wsA := memA5 (i := 188) rfl rfl
theorem wm5_190 : Cond.methodLink RLa 118 yMo_fault ∈ wsA := memA5 (i := 190) rfl rfl
theorem wm5_191 : Cond.instanceMethod yMo_fault ∈ wsA := memA5 (i := 191) rfl rfl
theorem wm5_192 : Cond.selects RMo yMo_fault yMo_fault ∈ wsA := memA5 (i := 192) rfl rfl
theorem wm5_194 : Cond.methodLink RLa 123 yMo_time ∈ wsA := memA5 (i := 194) rfl rfl
theorem wm5_195 : Cond.instanceMethod yMo_time ∈ wsA := memA5 (i := 195) rfl rfl
theorem wm5_196 : Cond.selects RMo yMo_time yMo_time ∈ wsA := memA5 (i := 196) rfl rfl
theorem wm5_198 : Cond.methodLink RLa 126 yMo_register ∈ wsA := memA5 (i := 198) rfl rfl
theorem wm5_199 : Cond.instanceMethod yMo_register ∈ wsA := memA5 (i := 199) rfl rfl
theorem wm5_200 : Cond.selects RMo yMo_register yMo_register ∈ wsA := memA5 (i := 200) rfl rfl
theorem wm5_202 : Cond.methodLink RLa 129 yMo_sign ∈ wsA := memA5 (i := 202) rfl rfl
theorem wm5_203 : Cond.instanceMethod yMo_sign ∈ wsA := memA5 (i := 203) rfl rfl
theorem wm5_204 : Cond.selects RMo yMo_sign yMo_sign ∈ wsA := memA5 (i := 204) rfl rfl
theorem wm5_206 : Cond.methodLink RLa 133 yMo_next ∈ wsA := memA5 (i := 206) rfl rfl
theorem wm5_207 : Cond.instanceMethod yMo_next ∈ wsA := memA5 (i := 207) rfl rfl
theorem wm5_208 : Cond.selects RMo yMo_next yMo_next ∈ wsA := memA5 (i := 208) rfl rfl
theorem wm5_210 : Cond.methodLink RLa 136 yMo_get ∈ wsA := memA5 (i := 210) rfl rfl
theorem wm5_211 : Cond.instanceMethod yMo_get ∈ wsA := memA5 (i := 211) rfl rfl
theorem wm5_212 : Cond.selects RMo yMo_get yMo_get ∈ wsA := memA5 (i := 212) rfl rfl
theorem wm5_214 : Cond.constantLong RMo 226 (-10000000000) ∈ wsA := memA5 (i := 214) rfl rfl
theorem wm5_215 : Cond.methodLink RLa 139 yMo_output ∈ wsA := memA5 (i := 215) rfl rfl
theorem wm5_216 : Cond.instanceMethod yMo_output ∈ wsA := memA5 (i := 216) rfl rfl
theorem wm5_217 : Cond.selects RMo yMo_output yMo_output ∈ wsA := memA5 (i := 217) rfl rfl
theorem wm5_219 : Cond.methodLink RLa 143 yMo_outputs ∈ wsA := memA5 (i := 219) rfl rfl
theorem wm5_220 : Cond.instanceMethod yMo_outputs ∈ wsA := memA5 (i := 220) rfl rfl
theorem wm5_221 : Cond.selects RMo yMo_outputs yMo_outputs ∈ wsA := memA5 (i := 221) rfl rfl
theorem wm5_223 : Cond.constantLong RLa 69 (4294967295) ∈ wsA := memA5 (i := 223) rfl rfl
theorem wm1_24 : Cond.code yDM_init ccDM_init 1 none ∈ wsA := memA1 (i := 24) rfl rfl
theorem wm1_32 : Cond.code yDr_init ccDr_init 1 none ∈ wsA := memA1 (i := 32) rfl rfl
theorem wm1_36 : Cond.code yDr_codeOf ccDr_codeOf 1 (some .int) ∈ wsA := memA1 (i := 36) rfl rfl
theorem wm1_39 : Cond.code yAr_fill ccAr_fill 4 none ∈ wsA := memA1 (i := 39) rfl rfl
theorem wm1_57 : Cond.code yCd_init ccCd_init 1 none ∈ wsA := memA1 (i := 57) rfl rfl
theorem wm1_76 : Cond.code yPu_init ccPu_init 1 none ∈ wsA := memA1 (i := 76) rfl rfl
theorem wm1_89 : Cond.code yPr_init ccPr_init 4 none ∈ wsA := memA1 (i := 89) rfl rfl
theorem wm1_95 : Cond.code yAc_init ccAc_init 1 none ∈ wsA := memA1 (i := 95) rfl rfl
theorem wm1_142 : Cond.code yAs_init ccAs_init 1 none ∈ wsA := memA1 (i := 142) rfl rfl
theorem wm1_198 : Cond.code yDM_clear ccDM_clear 1 none ∈ wsA := memA1 (i := 198) rfl rfl
theorem wm1_202 : Cond.code yAs_forgetAll ccAs_forgetAll 2 none ∈ wsA := memA1 (i := 202) rfl rfl
theorem wm1_206 : Cond.code yAs_forgetPlaces ccAs_forgetPlaces 1 none ∈ wsA := memA1 (i := 206) rfl rfl
theorem wm1_210 : Cond.code yDM_fault ccDM_fault 1 (some .int) ∈ wsA := memA1 (i := 210) rfl rfl
theorem wm1_214 : Cond.code yPr_stopCause ccPr_stopCause 1 (some .int) ∈ wsA := memA1 (i := 214) rfl rfl
theorem wm1_218 : Cond.code yDM_time ccDM_time 1 (some .long) ∈ wsA := memA1 (i := 218) rfl rfl
theorem wm1_222 : Cond.code yPr_wordTimes ccPr_wordTimes 1 (some .long) ∈ wsA := memA1 (i := 222) rfl rfl
theorem wm1_226 : Cond.code yDM_next ccDM_next 1 (some .int) ∈ wsA := memA1 (i := 226) rfl rfl
theorem wm1_230 : Cond.code yPr_nextAddress ccPr_nextAddress 1 (some .int) ∈ wsA := memA1 (i := 230) rfl rfl
theorem wm1_234 : Cond.code yDM_outputs ccDM_outputs 1 (some .int) ∈ wsA := memA1 (i := 234) rfl rfl
theorem wm1_238 : Cond.code yPu_size ccPu_size 1 (some .int) ∈ wsA := memA1 (i := 238) rfl rfl
theorem wm2_7 : Cond.code yDM_word ccDM_word 5 none ∈ wsA := memA2 (i := 7) rfl rfl
theorem wm2_10 : Cond.code yDr_hasAddress ccDr_hasAddress 1 (some .boolean) ∈ wsA := memA2 (i := 10) rfl rfl
theorem wm2_82 : Cond.code yDg_fitWord ccDg_fitWord 2 (some .boolean) ∈ wsA := memA2 (i := 82) rfl rfl
theorem wm2_103 : Cond.code yDr_store ccDr_store 8 none ∈ wsA := memA2 (i := 103) rfl rfl
theorem wm2_111 : Cond.code yDM_flip ccDM_flip 4 (some .boolean) ∈ wsA := memA2 (i := 111) rfl rfl
theorem wm2_114 : Cond.code yDr_hasBit ccDr_hasBit 3 (some .boolean) ∈ wsA := memA2 (i := 114) rfl rfl
theorem wm2_120 : Cond.code yDr_turnBitOver ccDr_turnBitOver 4 none ∈ wsA := memA2 (i := 120) rfl rfl
theorem wm2_124 : Cond.code yDr_valueOfCodes ccDr_valueOfCodes 6 (some .long) ∈ wsA := memA2 (i := 124) rfl rfl
theorem wm2_127 : Cond.code yDr_digitOf ccDr_digitOf 2 (some .int) ∈ wsA := memA2 (i := 127) rfl rfl
theorem wm2_132 : Cond.code yDr_isValid ccDr_isValid 2 (some .boolean) ∈ wsA := memA2 (i := 132) rfl rfl
theorem wm2_140 : Cond.code yDM_card ccDM_card 4 (some .int) ∈ wsA := memA2 (i := 140) rfl rfl
theorem wm2_145 : Cond.code yCd_isFull ccCd_isFull 1 (some .boolean) ∈ wsA := memA2 (i := 145) rfl rfl
theorem wm2_165 : Cond.code yCd_put ccCd_put 5 none ∈ wsA := memA2 (i := 165) rfl rfl
theorem wm2_169 : Cond.code yCd_size ccCd_size 1 (some .int) ∈ wsA := memA2 (i := 169) rfl rfl
theorem wm2_176 : Cond.code yDM_line ccDM_line 5 (some .int) ∈ wsA := memA2 (i := 176) rfl rfl
theorem wm2_179 : Cond.code yOp_exists ccOp_exists 1 (some .boolean) ∈ wsA := memA2 (i := 179) rfl rfl
theorem wm2_182 : Cond.code yOp_kindOf ccOp_kindOf 1 (some .int) ∈ wsA := memA2 (i := 182) rfl rfl
theorem wm2_185 : Cond.code yOp_branchesOnEight ccOp_branchesOnEight 1 (some .boolean) ∈ wsA := memA2 (i := 185) rfl rfl
theorem wm2_189 : Cond.code yAs_isPart ccAs_isPart 1 (some .boolean) ∈ wsA := memA2 (i := 189) rfl rfl
theorem wm2_193 : Cond.code yAs_isSymbol ccAs_isSymbol 1 (some .boolean) ∈ wsA := memA2 (i := 193) rfl rfl
theorem wm2_196 : Cond.code yAs_isDataPart ccAs_isDataPart 2 (some .boolean) ∈ wsA := memA2 (i := 196) rfl rfl
theorem wm2_199 : Cond.code yOp_shifts ccOp_shifts 1 (some .boolean) ∈ wsA := memA2 (i := 199) rfl rfl
theorem wm2_205 : Cond.code yAs_isFull ccAs_isFull 1 (some .boolean) ∈ wsA := memA2 (i := 205) rfl rfl
theorem wm2_210 : Cond.code yAs_addLine ccAs_addLine 6 (some .int) ∈ wsA := memA2 (i := 210) rfl rfl
theorem wm2_217 : Cond.code yDM_reserve ccDM_reserve 2 none ∈ wsA := memA2 (i := 217) rfl rfl
theorem wm2_221 : Cond.code yAs_markReserved ccAs_markReserved 2 none ∈ wsA := memA2 (i := 221) rfl rfl
theorem wm2_229 : Cond.code yDM_assemble ccDM_assemble 2 (some .int) ∈ wsA := memA2 (i := 229) rfl rfl
theorem wm2_233 : Cond.code yAs_isEmpty ccAs_isEmpty 1 (some .boolean) ∈ wsA := memA2 (i := 233) rfl rfl
theorem wm2_238 : Cond.code yAs_placeAll ccAs_placeAll 4 (some .boolean) ∈ wsA := memA2 (i := 238) rfl rfl
theorem wm3_2 : Cond.code yAs_markTaken ccAs_markTaken 2 none ∈ wsA := memA3 (i := 2) rfl rfl
theorem wm3_6 : Cond.code yAs_takeIfAddress ccAs_takeIfAddress 2 none ∈ wsA := memA3 (i := 6) rfl rfl
theorem wm3_10 : Cond.code yAs_placeLine ccAs_placeLine 3 (some .boolean) ∈ wsA := memA3 (i := 10) rfl rfl
theorem wm3_14 : Cond.code yAs_placeLocation ccAs_placeLocation 4 (some .int) ∈ wsA := memA3 (i := 14) rfl rfl
theorem wm3_18 : Cond.code yAs_placePart ccAs_placePart 5 (some .int) ∈ wsA := memA3 (i := 18) rfl rfl
theorem wm3_22 : Cond.code yAs_newPlace ccAs_newPlace 4 (some .int) ∈ wsA := memA3 (i := 22) rfl rfl
theorem wm3_26 : Cond.code yAs_firstFreeFromAngle ccAs_firstFreeFromAngle 5 (some .int) ∈ wsA := memA3 (i := 26) rfl rfl
theorem wm3_30 : Cond.code yAs_leastFree ccAs_leastFree 2 (some .int) ∈ wsA := memA3 (i := 30) rfl rfl
theorem wm3_34 : Cond.code yAs_placeData ccAs_placeData 4 (some .int) ∈ wsA := memA3 (i := 34) rfl rfl
theorem wm3_38 : Cond.code yAs_placeNext ccAs_placeNext 5 (some .int) ∈ wsA := memA3 (i := 38) rfl rfl
theorem wm3_42 : Cond.code yAs_bestForNext ccAs_bestForNext 4 (some .int) ∈ wsA := memA3 (i := 42) rfl rfl
theorem wm3_45 : Cond.code yOp_accessesData ccOp_accessesData 2 (some .boolean) ∈ wsA := memA3 (i := 45) rfl rfl
theorem wm3_48 : Cond.code yOp_fixedTime ccOp_fixedTime 4 (some .int) ∈ wsA := memA3 (i := 48) rfl rfl
theorem wm3_51 : Cond.code yOp_shiftLength ccOp_shiftLength 3 (some .int) ∈ wsA := memA3 (i := 51) rfl rfl
theorem wm3_55 : Cond.code yAs_isLocationOfEarlierLine ccAs_isLocationOfEarlierLine 3 (some .boolean) ∈ wsA := memA3 (i := 55) rfl rfl
theorem wm3_75 : Cond.code yAs_writeTo ccAs_writeTo 3 none ∈ wsA := memA3 (i := 75) rfl rfl
theorem wm3_78 : Cond.code yDg_instruction ccDg_instruction 3 (some .long) ∈ wsA := memA3 (i := 78) rfl rfl
theorem wm3_85 : Cond.code yAs_firstLocation ccAs_firstLocation 1 (some .int) ∈ wsA := memA3 (i := 85) rfl rfl
theorem wm3_92 : Cond.code yDM_place ccDM_place 2 (some .int) ∈ wsA := memA3 (i := 92) rfl rfl
theorem wm3_95 : Cond.code yAs_hasSymbol ccAs_hasSymbol 1 (some .boolean) ∈ wsA := memA3 (i := 95) rfl rfl
theorem wm3_100 : Cond.code yAs_placeOf ccAs_placeOf 2 (some .int) ∈ wsA := memA3 (i := 100) rfl rfl
theorem wm3_107 : Cond.code yDM_start ccDM_start 2 none ∈ wsA := memA3 (i := 107) rfl rfl
theorem wm3_112 : Cond.code yPr_goOnFrom ccPr_goOnFrom 2 none ∈ wsA := memA3 (i := 112) rfl rfl
theorem wm3_119 : Cond.code yDM_run ccDM_run 2 (some .int) ∈ wsA := memA3 (i := 119) rfl rfl
theorem wm3_124 : Cond.code yPr_isStopped ccPr_isStopped 1 (some .boolean) ∈ wsA := memA3 (i := 124) rfl rfl
theorem wm3_129 : Cond.code yPr_doSteps ccPr_doSteps 4 (some .int) ∈ wsA := memA3 (i := 129) rfl rfl
theorem wm3_134 : Cond.code yPr_step ccPr_step 6 (some .int) ∈ wsA := memA3 (i := 134) rfl rfl
theorem wm3_139 : Cond.code yPr_waitAndAccess ccPr_waitAndAccess 4 none ∈ wsA := memA3 (i := 139) rfl rfl
theorem wm3_143 : Cond.code yDr_angleOf ccDr_angleOf 1 (some .int) ∈ wsA := memA3 (i := 143) rfl rfl
theorem wm3_148 : Cond.code yDr_valueAt ccDr_valueAt 2 (some .long) ∈ wsA := memA3 (i := 148) rfl rfl
theorem wm3_151 : Cond.code yDg_operationOf ccDg_operationOf 2 (some .int) ∈ wsA := memA3 (i := 151) rfl rfl
theorem wm3_154 : Cond.code yDg_dataAddressOf ccDg_dataAddressOf 2 (some .int) ∈ wsA := memA3 (i := 154) rfl rfl
theorem wm3_158 : Cond.code yPr_operate ccPr_operate 3 (some .int) ∈ wsA := memA3 (i := 158) rfl rfl
theorem wm3_165 : Cond.code yPr_shift ccPr_shift 3 none ∈ wsA := memA3 (i := 165) rfl rfl
theorem wm3_169 : Cond.code yAc_shiftLeft ccAc_shiftLeft 6 none ∈ wsA := memA3 (i := 169) rfl rfl
theorem wm3_172 : Cond.code yDg_powerOfTen ccDg_powerOfTen 4 (some .long) ∈ wsA := memA3 (i := 172) rfl rfl
theorem wm3_177 : Cond.code yAc_shiftRight ccAc_shiftRight 6 none ∈ wsA := memA3 (i := 177) rfl rfl
theorem wm3_181 : Cond.code yAc_shiftAndRound ccAc_shiftAndRound 3 none ∈ wsA := memA3 (i := 181) rfl rfl
theorem wm3_184 : Cond.code yDg_digitAt ccDg_digitAt 3 (some .int) ∈ wsA := memA3 (i := 184) rfl rfl
theorem wm3_190 : Cond.code yAc_add ccAc_add 11 none ∈ wsA := memA3 (i := 190) rfl rfl
theorem wm3_194 : Cond.code yMa_floorDiv ccMa_floorDiv 6 (some .long) ∈ wsA := memA3 (i := 194) rfl rfl
theorem wm3_197 : Cond.code yMa_floorMod ccMa_floorMod 6 (some .long) ∈ wsA := memA3 (i := 197) rfl rfl
theorem wm3_201 : Cond.code yOp_writes ccOp_writes 1 (some .boolean) ∈ wsA := memA3 (i := 201) rfl rfl
theorem wm3_205 : Cond.code yPr_write ccPr_write 4 (some .int) ∈ wsA := memA3 (i := 205) rfl rfl
theorem wm3_209 : Cond.code yPr_readCard ccPr_readCard 2 (some .int) ∈ wsA := memA3 (i := 209) rfl rfl
theorem wm3_213 : Cond.code yCd_isEmpty ccCd_isEmpty 1 (some .boolean) ∈ wsA := memA3 (i := 213) rfl rfl
theorem wm3_217 : Cond.code yCd_firstValue ccCd_firstValue 1 (some .long) ∈ wsA := memA3 (i := 217) rfl rfl
theorem wm3_221 : Cond.code yCd_firstIsMinus ccCd_firstIsMinus 1 (some .boolean) ∈ wsA := memA3 (i := 221) rfl rfl
theorem wm3_226 : Cond.code yCd_dropFirst ccCd_dropFirst 1 none ∈ wsA := memA3 (i := 226) rfl rfl
theorem wm3_230 : Cond.code yAc_lowerDigits ccAc_lowerDigits 1 (some .long) ∈ wsA := memA3 (i := 230) rfl rfl
theorem wm3_234 : Cond.code yAc_isMinus ccAc_isMinus 1 (some .boolean) ∈ wsA := memA3 (i := 234) rfl rfl
theorem wm3_238 : Cond.code yPr_setDistributor ccPr_setDistributor 4 none ∈ wsA := memA3 (i := 238) rfl rfl
theorem wm4_2 : Cond.code yAc_upperDigits ccAc_upperDigits 1 (some .long) ∈ wsA := memA4 (i := 2) rfl rfl
theorem wm4_5 : Cond.code yDg_withDataAddress ccDg_withDataAddress 5 (some .long) ∈ wsA := memA4 (i := 5) rfl rfl
theorem wm4_9 : Cond.code yPr_read ccPr_read 7 (some .int) ∈ wsA := memA4 (i := 9) rfl rfl
theorem wm4_13 : Cond.code yPr_lookUp ccPr_lookUp 4 (some .int) ∈ wsA := memA4 (i := 13) rfl rfl
theorem wm4_17 : Cond.code yAc_putDataAddress ccAc_putDataAddress 2 none ∈ wsA := memA4 (i := 17) rfl rfl
theorem wm4_22 : Cond.code yDr_isMinus ccDr_isMinus 2 (some .boolean) ∈ wsA := memA4 (i := 22) rfl rfl
theorem wm4_26 : Cond.code yPr_divide ccPr_divide 4 (some .int) ∈ wsA := memA4 (i := 26) rfl rfl
theorem wm4_30 : Cond.code yAc_divide ccAc_divide 11 (some .boolean) ∈ wsA := memA4 (i := 30) rfl rfl
theorem wm4_35 : Cond.code yDg_sum ccDg_sum 6 (some .int) ∈ wsA := memA4 (i := 35) rfl rfl
theorem wm4_39 : Cond.code yPr_punchWord ccPr_punchWord 4 (some .int) ∈ wsA := memA4 (i := 39) rfl rfl
theorem wm4_43 : Cond.code yPu_isFull ccPu_isFull 1 (some .boolean) ∈ wsA := memA4 (i := 43) rfl rfl
theorem wm4_46 : Cond.code yDg_withSign ccDg_withSign 3 (some .long) ∈ wsA := memA4 (i := 46) rfl rfl
theorem wm4_50 : Cond.code yPu_put ccPu_put 3 none ∈ wsA := memA4 (i := 50) rfl rfl
theorem wm4_54 : Cond.code yPr_multiply ccPr_multiply 4 none ∈ wsA := memA4 (i := 54) rfl rfl
theorem wm4_58 : Cond.code yAc_multiply ccAc_multiply 10 none ∈ wsA := memA4 (i := 58) rfl rfl
theorem wm4_62 : Cond.code yOp_adds ccOp_adds 1 (some .boolean) ∈ wsA := memA4 (i := 62) rfl rfl
theorem wm4_66 : Cond.code yPr_addWord ccPr_addWord 7 none ∈ wsA := memA4 (i := 66) rfl rfl
theorem wm4_69 : Cond.code yOp_resetsFirst ccOp_resetsFirst 1 (some .boolean) ∈ wsA := memA4 (i := 69) rfl rfl
theorem wm4_73 : Cond.code yAc_reset ccAc_reset 1 none ∈ wsA := memA4 (i := 73) rfl rfl
theorem wm4_76 : Cond.code yOp_subtracts ccOp_subtracts 1 (some .boolean) ∈ wsA := memA4 (i := 76) rfl rfl
theorem wm4_79 : Cond.code yOp_addsToUpper ccOp_addsToUpper 1 (some .boolean) ∈ wsA := memA4 (i := 79) rfl rfl
theorem wm4_83 : Cond.code yPr_isFault ccPr_isFault 1 (some .boolean) ∈ wsA := memA4 (i := 83) rfl rfl
theorem wm4_88 : Cond.code yPr_takesBranch ccPr_takesBranch 2 (some .boolean) ∈ wsA := memA4 (i := 88) rfl rfl
theorem wm4_94 : Cond.code yAc_isZero ccAc_isZero 1 (some .boolean) ∈ wsA := memA4 (i := 94) rfl rfl
theorem wm4_98 : Cond.code yAc_takeOverflow ccAc_takeOverflow 2 (some .boolean) ∈ wsA := memA4 (i := 98) rfl rfl
theorem wm4_101 : Cond.code yDg_nextAddressOf ccDg_nextAddressOf 2 (some .int) ∈ wsA := memA4 (i := 101) rfl rfl
theorem wm4_108 : Cond.code yDM_register ccDM_register 2 (some .long) ∈ wsA := memA4 (i := 108) rfl rfl
theorem wm4_112 : Cond.code yPr_upperDigits ccPr_upperDigits 1 (some .long) ∈ wsA := memA4 (i := 112) rfl rfl
theorem wm4_116 : Cond.code yPr_lowerDigits ccPr_lowerDigits 1 (some .long) ∈ wsA := memA4 (i := 116) rfl rfl
theorem wm4_120 : Cond.code yPr_distributorDigits ccPr_distributorDigits 1 (some .long) ∈ wsA := memA4 (i := 120) rfl rfl
theorem wm4_128 : Cond.code yDM_sign ccDM_sign 2 (some .boolean) ∈ wsA := memA4 (i := 128) rfl rfl
theorem wm4_132 : Cond.code yPr_accumulatorIsMinus ccPr_accumulatorIsMinus 1 (some .boolean) ∈ wsA := memA4 (i := 132) rfl rfl
theorem wm4_136 : Cond.code yPr_distributorIsMinus ccPr_distributorIsMinus 1 (some .boolean) ∈ wsA := memA4 (i := 136) rfl rfl
theorem wm4_140 : Cond.code yPr_overflowIsOn ccPr_overflowIsOn 1 (some .boolean) ∈ wsA := memA4 (i := 140) rfl rfl
theorem wm4_144 : Cond.code yAc_hasOverflow ccAc_hasOverflow 1 (some .boolean) ∈ wsA := memA4 (i := 144) rfl rfl
theorem wm4_152 : Cond.code yDM_get ccDM_get 2 (some .long) ∈ wsA := memA4 (i := 152) rfl rfl
theorem wm4_163 : Cond.code yDM_output ccDM_output 2 (some .long) ∈ wsA := memA4 (i := 163) rfl rfl
theorem wm4_167 : Cond.code yPu_hasWord ccPu_hasWord 2 (some .boolean) ∈ wsA := memA4 (i := 167) rfl rfl
theorem wm4_172 : Cond.code yPu_wordAt ccPu_wordAt 2 (some .long) ∈ wsA := memA4 (i := 172) rfl rfl
theorem wm4_177 : Cond.code yMo_init ccMo_init 2 none ∈ wsA := memA4 (i := 177) rfl rfl
theorem wm4_182 : Cond.code yMo_write ccMo_write 9 none ∈ wsA := memA4 (i := 182) rfl rfl
theorem wm4_187 : Cond.code yMo_forgetPlaces ccMo_forgetPlaces 2 none ∈ wsA := memA4 (i := 187) rfl rfl
theorem wm5_36 : Cond.code yMo_thrown ccMo_thrown 1 (some .int) ∈ wsA := memA5 (i := 36) rfl rfl
theorem wm5_40 : Cond.code yMo_word ccMo_word 5 none ∈ wsA := memA5 (i := 40) rfl rfl
theorem wm5_43 : Cond.code yMo_isAddress ccMo_isAddress 1 (some .boolean) ∈ wsA := memA5 (i := 43) rfl rfl
theorem wm5_46 : Cond.code yMo_isWord ccMo_isWord 2 (some .boolean) ∈ wsA := memA5 (i := 46) rfl rfl
theorem wm5_51 : Cond.code yMo_flip ccMo_flip 4 (some .boolean) ∈ wsA := memA5 (i := 51) rfl rfl
theorem wm5_55 : Cond.code yMo_value ccMo_value 7 (some .long) ∈ wsA := memA5 (i := 55) rfl rfl
theorem wm5_58 : Cond.code yMo_digitOf ccMo_digitOf 4 (some .int) ∈ wsA := memA5 (i := 58) rfl rfl
theorem wm5_63 : Cond.code yMo_card ccMo_card 4 (some .int) ∈ wsA := memA5 (i := 63) rfl rfl
theorem wm5_67 : Cond.code yMo_start ccMo_start 2 none ∈ wsA := memA5 (i := 67) rfl rfl
theorem wm5_71 : Cond.code yMo_run ccMo_run 3 (some .int) ∈ wsA := memA5 (i := 71) rfl rfl
theorem wm5_75 : Cond.code yMo_step ccMo_step 10 (some .boolean) ∈ wsA := memA5 (i := 75) rfl rfl
theorem wm5_79 : Cond.code yMo_stop ccMo_stop 3 (some .boolean) ∈ wsA := memA5 (i := 79) rfl rfl
theorem wm5_83 : Cond.code yMo_access ccMo_access 2 none ∈ wsA := memA5 (i := 83) rfl rfl
theorem wm5_89 : Cond.code yMo_isOperation ccMo_isOperation 1 (some .boolean) ∈ wsA := memA5 (i := 89) rfl rfl
theorem wm5_92 : Cond.code yMo_reads ccMo_reads 1 (some .boolean) ∈ wsA := memA5 (i := 92) rfl rfl
theorem wm5_95 : Cond.code yMo_writes ccMo_writes 1 (some .boolean) ∈ wsA := memA5 (i := 95) rfl rfl
theorem wm5_98 : Cond.code yMo_shifts ccMo_shifts 1 (some .boolean) ∈ wsA := memA5 (i := 98) rfl rfl
theorem wm5_102 : Cond.code yMo_doRead ccMo_doRead 7 (some .boolean) ∈ wsA := memA5 (i := 102) rfl rfl
theorem wm5_106 : Cond.code yMo_lookUp ccMo_lookUp 7 (some .boolean) ∈ wsA := memA5 (i := 106) rfl rfl
theorem wm5_109 : Cond.code yMo_fixed ccMo_fixed 2 (some .int) ∈ wsA := memA5 (i := 109) rfl rfl
theorem wm5_113 : Cond.code yMo_divide ccMo_divide 11 none ∈ wsA := memA5 (i := 113) rfl rfl
theorem wm5_117 : Cond.code yMo_sumOfDigits ccMo_sumOfDigits 5 (some .int) ∈ wsA := memA5 (i := 117) rfl rfl
theorem wm5_121 : Cond.code yMo_multiply ccMo_multiply 14 none ∈ wsA := memA5 (i := 121) rfl rfl
theorem wm5_125 : Cond.code yMo_sum ccMo_sum 7 none ∈ wsA := memA5 (i := 125) rfl rfl
theorem wm5_129 : Cond.code yMo_add ccMo_add 15 none ∈ wsA := memA5 (i := 129) rfl rfl
theorem wm5_133 : Cond.code yMo_doWrite ccMo_doWrite 5 (some .boolean) ∈ wsA := memA5 (i := 133) rfl rfl
theorem wm5_137 : Cond.code yMo_branches ccMo_branches 5 (some .boolean) ∈ wsA := memA5 (i := 137) rfl rfl
theorem wm5_142 : Cond.code yMo_shiftRight ccMo_shiftRight 5 none ∈ wsA := memA5 (i := 142) rfl rfl
theorem wm5_146 : Cond.code yMo_shiftLeft ccMo_shiftLeft 3 none ∈ wsA := memA5 (i := 146) rfl rfl
theorem wm5_150 : Cond.code yMo_line ccMo_line 6 (some .int) ∈ wsA := memA5 (i := 150) rfl rfl
theorem wm5_153 : Cond.code yMo_isPart ccMo_isPart 1 (some .boolean) ∈ wsA := memA5 (i := 153) rfl rfl
theorem wm5_157 : Cond.code yMo_fail ccMo_fail 2 (some .int) ∈ wsA := memA5 (i := 157) rfl rfl
theorem wm5_161 : Cond.code yMo_reserve ccMo_reserve 2 none ∈ wsA := memA5 (i := 161) rfl rfl
theorem wm5_165 : Cond.code yMo_clear ccMo_clear 2 none ∈ wsA := memA5 (i := 165) rfl rfl
theorem wm5_169 : Cond.code yMo_assemble ccMo_assemble 4 (some .int) ∈ wsA := memA5 (i := 169) rfl rfl
theorem wm5_173 : Cond.code yMo_hold ccMo_hold 2 none ∈ wsA := memA5 (i := 173) rfl rfl
theorem wm5_177 : Cond.code yMo_settle ccMo_settle 11 none ∈ wsA := memA5 (i := 177) rfl rfl
theorem wm5_181 : Cond.code yMo_take ccMo_take 7 (some .int) ∈ wsA := memA5 (i := 181) rfl rfl
theorem wm5_185 : Cond.code yMo_placeOf ccMo_placeOf 6 (some .int) ∈ wsA := memA5 (i := 185) rfl rfl
theorem wm5_189 : Cond.code yMo_place ccMo_place 2 (some .int) ∈ wsA := memA5 (i := 189) rfl rfl
theorem wm5_193 : Cond.code yMo_fault ccMo_fault 1 (some .int) ∈ wsA := memA5 (i := 193) rfl rfl
theorem wm5_197 : Cond.code yMo_time ccMo_time 1 (some .long) ∈ wsA := memA5 (i := 197) rfl rfl
theorem wm5_201 : Cond.code yMo_register ccMo_register 2 (some .long) ∈ wsA := memA5 (i := 201) rfl rfl
theorem wm5_205 : Cond.code yMo_sign ccMo_sign 2 (some .boolean) ∈ wsA := memA5 (i := 205) rfl rfl
theorem wm5_209 : Cond.code yMo_next ccMo_next 1 (some .int) ∈ wsA := memA5 (i := 209) rfl rfl
theorem wm5_213 : Cond.code yMo_get ccMo_get 4 (some .long) ∈ wsA := memA5 (i := 213) rfl rfl
theorem wm5_218 : Cond.code yMo_output ccMo_output 2 (some .long) ∈ wsA := memA5 (i := 218) rfl rfl
theorem wm5_222 : Cond.code yMo_outputs ccMo_outputs 1 (some .int) ∈ wsA := memA5 (i := 222) rfl rfl
theorem ws1_0 : Cond.selects RAs yAs_forgetPlaces yAs_forgetPlaces ∈ wsA := memS1 (i := 0) (n := 11) rfl rfl
theorem ws1_2 : Cond.selects RDr yDr_valueOfCodes yDr_valueOfCodes ∈ wsA := memS1 (i := 2) (n := 3) rfl rfl
theorem ws1_3 : Cond.selects RAs yAs_markTaken yAs_markTaken ∈ wsA := memS1 (i := 3) (n := 11) rfl rfl
theorem ws1_4 : Cond.selects RAs yAs_takeIfAddress yAs_takeIfAddress ∈ wsA := memS1 (i := 4) (n := 11) rfl rfl
theorem ws1_5 : Cond.selects RAs yAs_placeLine yAs_placeLine ∈ wsA := memS1 (i := 5) (n := 11) rfl rfl
theorem ws1_6 : Cond.selects RAs yAs_placeLocation yAs_placeLocation ∈ wsA := memS1 (i := 6) (n := 11) rfl rfl
theorem ws1_7 : Cond.selects RAs yAs_placePart yAs_placePart ∈ wsA := memS1 (i := 7) (n := 11) rfl rfl
theorem ws1_8 : Cond.selects RAs yAs_newPlace yAs_newPlace ∈ wsA := memS1 (i := 8) (n := 11) rfl rfl
theorem ws1_9 : Cond.selects RAs yAs_firstFreeFromAngle yAs_firstFreeFromAngle ∈ wsA := memS1 (i := 9) (n := 11) rfl rfl
theorem ws1_10 : Cond.selects RAs yAs_leastFree yAs_leastFree ∈ wsA := memS1 (i := 10) (n := 11) rfl rfl
theorem ws1_11 : Cond.selects RAs yAs_placeData yAs_placeData ∈ wsA := memS1 (i := 11) (n := 11) rfl rfl
theorem ws1_12 : Cond.selects RAs yAs_placeNext yAs_placeNext ∈ wsA := memS1 (i := 12) (n := 11) rfl rfl
theorem ws1_13 : Cond.selects RAs yAs_bestForNext yAs_bestForNext ∈ wsA := memS1 (i := 13) (n := 11) rfl rfl
theorem ws1_14 : Cond.selects RAs yAs_isLocationOfEarlierLine yAs_isLocationOfEarlierLine ∈ wsA := memS1 (i := 14) (n := 11) rfl rfl
theorem ws1_15 : Cond.selects RPr yPr_step yPr_step ∈ wsA := memS1 (i := 15) (n := 9) rfl rfl
theorem ws2_0 : Cond.selects RPr yPr_waitAndAccess yPr_waitAndAccess ∈ wsA := memS2 (i := 0) (n := 9) rfl rfl
theorem ws2_1 : Cond.selects RPr yPr_operate yPr_operate ∈ wsA := memS2 (i := 1) (n := 9) rfl rfl
theorem ws2_2 : Cond.selects RPr yPr_shift yPr_shift ∈ wsA := memS2 (i := 2) (n := 9) rfl rfl
theorem ws2_3 : Cond.selects RPr yPr_write yPr_write ∈ wsA := memS2 (i := 3) (n := 9) rfl rfl
theorem ws2_4 : Cond.selects RPr yPr_readCard yPr_readCard ∈ wsA := memS2 (i := 4) (n := 9) rfl rfl
theorem ws2_5 : Cond.selects RPr yPr_setDistributor yPr_setDistributor ∈ wsA := memS2 (i := 5) (n := 9) rfl rfl
theorem ws2_6 : Cond.selects RPr yPr_read yPr_read ∈ wsA := memS2 (i := 6) (n := 9) rfl rfl
theorem ws2_7 : Cond.selects RPr yPr_lookUp yPr_lookUp ∈ wsA := memS2 (i := 7) (n := 9) rfl rfl
theorem ws2_8 : Cond.selects RPr yPr_divide yPr_divide ∈ wsA := memS2 (i := 8) (n := 9) rfl rfl
theorem ws2_9 : Cond.selects RPr yPr_punchWord yPr_punchWord ∈ wsA := memS2 (i := 9) (n := 9) rfl rfl
theorem ws2_10 : Cond.selects RPr yPr_multiply yPr_multiply ∈ wsA := memS2 (i := 10) (n := 9) rfl rfl
theorem ws2_11 : Cond.selects RPr yPr_addWord yPr_addWord ∈ wsA := memS2 (i := 11) (n := 9) rfl rfl
theorem ws2_12 : Cond.selects RPr yPr_takesBranch yPr_takesBranch ∈ wsA := memS2 (i := 12) (n := 9) rfl rfl
theorem ws2_13 : Cond.selects RMo yMo_write yMo_write ∈ wsA := memS2 (i := 13) (n := 28) rfl rfl
theorem ws2_14 : Cond.selects RMo yMo_forgetPlaces yMo_forgetPlaces ∈ wsA := memS2 (i := 14) (n := 28) rfl rfl
theorem ws2_15 : Cond.selects RMo yMo_value yMo_value ∈ wsA := memS2 (i := 15) (n := 28) rfl rfl
theorem ws3_0 : Cond.selects RMo yMo_step yMo_step ∈ wsA := memS3 (i := 0) (n := 28) rfl rfl
theorem ws3_1 : Cond.selects RMo yMo_stop yMo_stop ∈ wsA := memS3 (i := 1) (n := 28) rfl rfl
theorem ws3_2 : Cond.selects RMo yMo_access yMo_access ∈ wsA := memS3 (i := 2) (n := 28) rfl rfl
theorem ws3_3 : Cond.selects RMo yMo_doRead yMo_doRead ∈ wsA := memS3 (i := 3) (n := 28) rfl rfl
theorem ws3_4 : Cond.selects RMo yMo_lookUp yMo_lookUp ∈ wsA := memS3 (i := 4) (n := 28) rfl rfl
theorem ws3_5 : Cond.selects RMo yMo_divide yMo_divide ∈ wsA := memS3 (i := 5) (n := 28) rfl rfl
theorem ws3_6 : Cond.selects RMo yMo_multiply yMo_multiply ∈ wsA := memS3 (i := 6) (n := 28) rfl rfl
theorem ws3_7 : Cond.selects RMo yMo_sum yMo_sum ∈ wsA := memS3 (i := 7) (n := 28) rfl rfl
theorem ws3_8 : Cond.selects RMo yMo_add yMo_add ∈ wsA := memS3 (i := 8) (n := 28) rfl rfl
theorem ws3_9 : Cond.selects RMo yMo_doWrite yMo_doWrite ∈ wsA := memS3 (i := 9) (n := 28) rfl rfl
theorem ws3_10 : Cond.selects RMo yMo_branches yMo_branches ∈ wsA := memS3 (i := 10) (n := 28) rfl rfl
theorem ws3_11 : Cond.selects RMo yMo_shiftRight yMo_shiftRight ∈ wsA := memS3 (i := 11) (n := 28) rfl rfl
theorem ws3_12 : Cond.selects RMo yMo_shiftLeft yMo_shiftLeft ∈ wsA := memS3 (i := 12) (n := 28) rfl rfl
theorem ws3_13 : Cond.selects RMo yMo_fail yMo_fail ∈ wsA := memS3 (i := 13) (n := 28) rfl rfl
theorem ws3_14 : Cond.selects RMo yMo_hold yMo_hold ∈ wsA := memS3 (i := 14) (n := 28) rfl rfl
theorem ws3_15 : Cond.selects RMo yMo_settle yMo_settle ∈ wsA := memS3 (i := 15) (n := 28) rfl rfl
theorem ws4_0 : Cond.selects RMo yMo_take yMo_take ∈ wsA := memS4 (i := 0) (n := 28) rfl rfl
theorem ws4_1 : Cond.selects RMo yMo_placeOf yMo_placeOf ∈ wsA := memS4 (i := 1) (n := 28) rfl rfl
theorem inADM : ∀ w ∈ u_ws RDM TDM 5, w ∈ wsA := by
  intro w hw
  obtain ⟨k, hk, rfl⟩ := List.mem_map.mp hw
  have hk := List.mem_range.mp hk
  match k, hk with
  | 0, _ => exact wm1_184
  | 1, _ => exact wm1_186
  | 2, _ => exact wm1_188
  | 3, _ => exact wm1_190
  | 4, _ => exact wm1_192
  | k + 5, h => exact absurd h (by omega)
theorem inADr : ∀ w ∈ u_ws RDr TDr 3, w ∈ wsA := by
  intro w hw
  obtain ⟨k, hk, rfl⟩ := List.mem_map.mp hw
  have hk := List.mem_range.mp hk
  match k, hk with
  | 0, _ => exact wm1_43
  | 1, _ => exact wm1_45
  | 2, _ => exact wm1_47
  | k + 3, h => exact absurd h (by omega)
theorem inACd : ∀ w ∈ u_ws RCd TCd 4, w ∈ wsA := by
  intro w hw
  obtain ⟨k, hk, rfl⟩ := List.mem_map.mp hw
  have hk := List.mem_range.mp hk
  match k, hk with
  | 0, _ => exact wm1_63
  | 1, _ => exact wm1_65
  | 2, _ => exact wm1_67
  | 3, _ => exact wm1_69
  | k + 4, h => exact absurd h (by omega)
theorem inAPu : ∀ w ∈ u_ws RPu TPu 2, w ∈ wsA := by
  intro w hw
  obtain ⟨k, hk, rfl⟩ := List.mem_map.mp hw
  have hk := List.mem_range.mp hk
  match k, hk with
  | 0, _ => exact wm1_80
  | 1, _ => exact wm1_82
  | k + 2, h => exact absurd h (by omega)
theorem inAPr : ∀ w ∈ u_ws RPr TPr 9, w ∈ wsA := by
  intro w hw
  obtain ⟨k, hk, rfl⟩ := List.mem_map.mp hw
  have hk := List.mem_range.mp hk
  match k, hk with
  | 0, _ => exact wm1_119
  | 1, _ => exact wm1_121
  | 2, _ => exact wm1_123
  | 3, _ => exact wm1_125
  | 4, _ => exact wm1_127
  | 5, _ => exact wm1_129
  | 6, _ => exact wm1_131
  | 7, _ => exact wm1_133
  | 8, _ => exact wm1_135
  | k + 9, h => exact absurd h (by omega)
theorem inAAc : ∀ w ∈ u_ws RAc TAc 4, w ∈ wsA := by
  intro w hw
  obtain ⟨k, hk, rfl⟩ := List.mem_map.mp hw
  have hk := List.mem_range.mp hk
  match k, hk with
  | 0, _ => exact wm1_101
  | 1, _ => exact wm1_103
  | 2, _ => exact wm1_105
  | 3, _ => exact wm1_107
  | k + 4, h => exact absurd h (by omega)
theorem inAAs : ∀ w ∈ u_ws RAs TAs 11, w ∈ wsA := by
  intro w hw
  obtain ⟨k, hk, rfl⟩ := List.mem_map.mp hw
  have hk := List.mem_range.mp hk
  match k, hk with
  | 0, _ => exact wm1_156
  | 1, _ => exact wm1_158
  | 2, _ => exact wm1_160
  | 3, _ => exact wm1_162
  | 4, _ => exact wm1_164
  | 5, _ => exact wm1_166
  | 6, _ => exact wm1_168
  | 7, _ => exact wm1_170
  | 8, _ => exact wm1_172
  | 9, _ => exact wm1_174
  | 10, _ => exact wm1_176
  | k + 11, h => exact absurd h (by omega)
theorem inAMo : ∀ w ∈ u_ws RMo TMo 28, w ∈ wsA := by
  intro w hw
  obtain ⟨k, hk, rfl⟩ := List.mem_map.mp hw
  have hk := List.mem_range.mp hk
  match k, hk with
  | 0, _ => exact wm4_216
  | 1, _ => exact wm4_218
  | 2, _ => exact wm4_220
  | 3, _ => exact wm4_222
  | 4, _ => exact wm4_224
  | 5, _ => exact wm4_226
  | 6, _ => exact wm4_228
  | 7, _ => exact wm4_230
  | 8, _ => exact wm4_232
  | 9, _ => exact wm4_234
  | 10, _ => exact wm4_236
  | 11, _ => exact wm4_238
  | 12, _ => exact wm5_0
  | 13, _ => exact wm5_2
  | 14, _ => exact wm5_4
  | 15, _ => exact wm5_6
  | 16, _ => exact wm5_8
  | 17, _ => exact wm5_10
  | 18, _ => exact wm5_12
  | 19, _ => exact wm5_14
  | 20, _ => exact wm5_16
  | 21, _ => exact wm5_18
  | 22, _ => exact wm5_20
  | 23, _ => exact wm5_22
  | 24, _ => exact wm5_24
  | 25, _ => exact wm5_26
  | 26, _ => exact wm5_28
  | 27, _ => exact wm5_30
  | k + 28, h => exact absurd h (by omega)
abbrev wsDM_init : List Cond := Cond.code yDM_init ccDM_init 1 none :: wsA
abbrev wsDr_init : List Cond := Cond.code yDr_init ccDr_init 1 none :: wsA
abbrev wsDr_codeOf : List Cond := Cond.code yDr_codeOf ccDr_codeOf 1 (some .int) :: wsA
abbrev wsAr_fill : List Cond := Cond.code yAr_fill ccAr_fill 4 none :: wsA
abbrev wsCd_init : List Cond := Cond.code yCd_init ccCd_init 1 none :: wsA
abbrev wsPu_init : List Cond := Cond.code yPu_init ccPu_init 1 none :: wsA
abbrev wsPr_init : List Cond := Cond.code yPr_init ccPr_init 4 none :: wsA
abbrev wsAc_init : List Cond := Cond.code yAc_init ccAc_init 1 none :: wsA
abbrev wsAs_init : List Cond := Cond.code yAs_init ccAs_init 1 none :: wsA
abbrev wsDM_clear : List Cond := Cond.code yDM_clear ccDM_clear 1 none :: wsA
abbrev wsAs_forgetAll : List Cond := Cond.code yAs_forgetAll ccAs_forgetAll 2 none :: wsA
abbrev wsAs_forgetPlaces : List Cond := Cond.code yAs_forgetPlaces ccAs_forgetPlaces 1 none :: wsA
abbrev wsDM_fault : List Cond := Cond.code yDM_fault ccDM_fault 1 (some .int) :: wsA
abbrev wsPr_stopCause : List Cond := Cond.code yPr_stopCause ccPr_stopCause 1 (some .int) :: wsA
abbrev wsDM_time : List Cond := Cond.code yDM_time ccDM_time 1 (some .long) :: wsA
abbrev wsPr_wordTimes : List Cond := Cond.code yPr_wordTimes ccPr_wordTimes 1 (some .long) :: wsA
abbrev wsDM_next : List Cond := Cond.code yDM_next ccDM_next 1 (some .int) :: wsA
abbrev wsPr_nextAddress : List Cond := Cond.code yPr_nextAddress ccPr_nextAddress 1 (some .int) :: wsA
abbrev wsDM_outputs : List Cond := Cond.code yDM_outputs ccDM_outputs 1 (some .int) :: wsA
abbrev wsPu_size : List Cond := Cond.code yPu_size ccPu_size 1 (some .int) :: wsA
abbrev wsDM_word : List Cond := Cond.code yDM_word ccDM_word 5 none :: wsA
abbrev wsDr_hasAddress : List Cond := Cond.code yDr_hasAddress ccDr_hasAddress 1 (some .boolean) :: wsA
abbrev wsDg_fitWord : List Cond := Cond.code yDg_fitWord ccDg_fitWord 2 (some .boolean) :: wsA
abbrev wsDr_store : List Cond := Cond.code yDr_store ccDr_store 8 none :: wsA
abbrev wsDM_flip : List Cond := Cond.code yDM_flip ccDM_flip 4 (some .boolean) :: wsA
abbrev wsDr_hasBit : List Cond := Cond.code yDr_hasBit ccDr_hasBit 3 (some .boolean) :: wsA
abbrev wsDr_turnBitOver : List Cond := Cond.code yDr_turnBitOver ccDr_turnBitOver 4 none :: wsA
abbrev wsDr_valueOfCodes : List Cond := Cond.code yDr_valueOfCodes ccDr_valueOfCodes 6 (some .long) :: wsA
abbrev wsDr_digitOf : List Cond := Cond.code yDr_digitOf ccDr_digitOf 2 (some .int) :: wsA
abbrev wsDr_isValid : List Cond := Cond.code yDr_isValid ccDr_isValid 2 (some .boolean) :: wsA
abbrev wsDM_card : List Cond := Cond.code yDM_card ccDM_card 4 (some .int) :: wsA
abbrev wsCd_isFull : List Cond := Cond.code yCd_isFull ccCd_isFull 1 (some .boolean) :: wsA
abbrev wsCd_put : List Cond := Cond.code yCd_put ccCd_put 5 none :: wsA
abbrev wsCd_size : List Cond := Cond.code yCd_size ccCd_size 1 (some .int) :: wsA
abbrev wsDM_line : List Cond := Cond.code yDM_line ccDM_line 5 (some .int) :: wsA
abbrev wsOp_exists : List Cond := Cond.code yOp_exists ccOp_exists 1 (some .boolean) :: wsA
abbrev wsOp_kindOf : List Cond := Cond.code yOp_kindOf ccOp_kindOf 1 (some .int) :: wsA
abbrev wsOp_branchesOnEight : List Cond := Cond.code yOp_branchesOnEight ccOp_branchesOnEight 1 (some .boolean) :: wsA
abbrev wsAs_isPart : List Cond := Cond.code yAs_isPart ccAs_isPart 1 (some .boolean) :: wsA
abbrev wsAs_isSymbol : List Cond := Cond.code yAs_isSymbol ccAs_isSymbol 1 (some .boolean) :: wsA
abbrev wsAs_isDataPart : List Cond := Cond.code yAs_isDataPart ccAs_isDataPart 2 (some .boolean) :: wsA
abbrev wsOp_shifts : List Cond := Cond.code yOp_shifts ccOp_shifts 1 (some .boolean) :: wsA
abbrev wsAs_isFull : List Cond := Cond.code yAs_isFull ccAs_isFull 1 (some .boolean) :: wsA
abbrev wsAs_addLine : List Cond := Cond.code yAs_addLine ccAs_addLine 6 (some .int) :: wsA
abbrev wsDM_reserve : List Cond := Cond.code yDM_reserve ccDM_reserve 2 none :: wsA
abbrev wsAs_markReserved : List Cond := Cond.code yAs_markReserved ccAs_markReserved 2 none :: wsA
abbrev wsDM_assemble : List Cond := Cond.code yDM_assemble ccDM_assemble 2 (some .int) :: wsA
abbrev wsAs_isEmpty : List Cond := Cond.code yAs_isEmpty ccAs_isEmpty 1 (some .boolean) :: wsA
abbrev wsAs_placeAll : List Cond := Cond.code yAs_placeAll ccAs_placeAll 4 (some .boolean) :: wsA
abbrev wsAs_markTaken : List Cond := Cond.code yAs_markTaken ccAs_markTaken 2 none :: wsA
abbrev wsAs_takeIfAddress : List Cond := Cond.code yAs_takeIfAddress ccAs_takeIfAddress 2 none :: wsA
abbrev wsAs_placeLine : List Cond := Cond.code yAs_placeLine ccAs_placeLine 3 (some .boolean) :: wsA
abbrev wsAs_placeLocation : List Cond := Cond.code yAs_placeLocation ccAs_placeLocation 4 (some .int) :: wsA
abbrev wsAs_placePart : List Cond := Cond.code yAs_placePart ccAs_placePart 5 (some .int) :: wsA
abbrev wsAs_newPlace : List Cond := Cond.code yAs_newPlace ccAs_newPlace 4 (some .int) :: wsA
abbrev wsAs_firstFreeFromAngle : List Cond := Cond.code yAs_firstFreeFromAngle ccAs_firstFreeFromAngle 5 (some .int) :: wsA
abbrev wsAs_leastFree : List Cond := Cond.code yAs_leastFree ccAs_leastFree 2 (some .int) :: wsA
abbrev wsAs_placeData : List Cond := Cond.code yAs_placeData ccAs_placeData 4 (some .int) :: wsA
abbrev wsAs_placeNext : List Cond := Cond.code yAs_placeNext ccAs_placeNext 5 (some .int) :: wsA
abbrev wsAs_bestForNext : List Cond := Cond.code yAs_bestForNext ccAs_bestForNext 4 (some .int) :: wsA
abbrev wsOp_accessesData : List Cond := Cond.code yOp_accessesData ccOp_accessesData 2 (some .boolean) :: wsA
abbrev wsOp_fixedTime : List Cond := Cond.code yOp_fixedTime ccOp_fixedTime 4 (some .int) :: wsA
abbrev wsOp_shiftLength : List Cond := Cond.code yOp_shiftLength ccOp_shiftLength 3 (some .int) :: wsA
abbrev wsAs_isLocationOfEarlierLine : List Cond := Cond.code yAs_isLocationOfEarlierLine ccAs_isLocationOfEarlierLine 3 (some .boolean) :: wsA
abbrev wsAs_writeTo : List Cond := Cond.code yAs_writeTo ccAs_writeTo 3 none :: wsA
abbrev wsDg_instruction : List Cond := Cond.code yDg_instruction ccDg_instruction 3 (some .long) :: wsA
abbrev wsAs_firstLocation : List Cond := Cond.code yAs_firstLocation ccAs_firstLocation 1 (some .int) :: wsA
abbrev wsDM_place : List Cond := Cond.code yDM_place ccDM_place 2 (some .int) :: wsA
abbrev wsAs_hasSymbol : List Cond := Cond.code yAs_hasSymbol ccAs_hasSymbol 1 (some .boolean) :: wsA
abbrev wsAs_placeOf : List Cond := Cond.code yAs_placeOf ccAs_placeOf 2 (some .int) :: wsA
abbrev wsDM_start : List Cond := Cond.code yDM_start ccDM_start 2 none :: wsA
abbrev wsPr_goOnFrom : List Cond := Cond.code yPr_goOnFrom ccPr_goOnFrom 2 none :: wsA
abbrev wsDM_run : List Cond := Cond.code yDM_run ccDM_run 2 (some .int) :: wsA
abbrev wsPr_isStopped : List Cond := Cond.code yPr_isStopped ccPr_isStopped 1 (some .boolean) :: wsA
abbrev wsPr_doSteps : List Cond := Cond.code yPr_doSteps ccPr_doSteps 4 (some .int) :: wsA
abbrev wsPr_step : List Cond := Cond.code yPr_step ccPr_step 6 (some .int) :: wsA
abbrev wsPr_waitAndAccess : List Cond := Cond.code yPr_waitAndAccess ccPr_waitAndAccess 4 none :: wsA
abbrev wsDr_angleOf : List Cond := Cond.code yDr_angleOf ccDr_angleOf 1 (some .int) :: wsA
abbrev wsDr_valueAt : List Cond := Cond.code yDr_valueAt ccDr_valueAt 2 (some .long) :: wsA
abbrev wsDg_operationOf : List Cond := Cond.code yDg_operationOf ccDg_operationOf 2 (some .int) :: wsA
abbrev wsDg_dataAddressOf : List Cond := Cond.code yDg_dataAddressOf ccDg_dataAddressOf 2 (some .int) :: wsA
abbrev wsPr_operate : List Cond := Cond.code yPr_operate ccPr_operate 3 (some .int) :: wsA
abbrev wsPr_shift : List Cond := Cond.code yPr_shift ccPr_shift 3 none :: wsA
abbrev wsAc_shiftLeft : List Cond := Cond.code yAc_shiftLeft ccAc_shiftLeft 6 none :: wsA
abbrev wsDg_powerOfTen : List Cond := Cond.code yDg_powerOfTen ccDg_powerOfTen 4 (some .long) :: wsA
abbrev wsAc_shiftRight : List Cond := Cond.code yAc_shiftRight ccAc_shiftRight 6 none :: wsA
abbrev wsAc_shiftAndRound : List Cond := Cond.code yAc_shiftAndRound ccAc_shiftAndRound 3 none :: wsA
abbrev wsDg_digitAt : List Cond := Cond.code yDg_digitAt ccDg_digitAt 3 (some .int) :: wsA
abbrev wsAc_add : List Cond := Cond.code yAc_add ccAc_add 11 none :: wsA
abbrev wsMa_floorDiv : List Cond := Cond.code yMa_floorDiv ccMa_floorDiv 6 (some .long) :: wsA
abbrev wsMa_floorMod : List Cond := Cond.code yMa_floorMod ccMa_floorMod 6 (some .long) :: wsA
abbrev wsOp_writes : List Cond := Cond.code yOp_writes ccOp_writes 1 (some .boolean) :: wsA
abbrev wsPr_write : List Cond := Cond.code yPr_write ccPr_write 4 (some .int) :: wsA
abbrev wsPr_readCard : List Cond := Cond.code yPr_readCard ccPr_readCard 2 (some .int) :: wsA
abbrev wsCd_isEmpty : List Cond := Cond.code yCd_isEmpty ccCd_isEmpty 1 (some .boolean) :: wsA
abbrev wsCd_firstValue : List Cond := Cond.code yCd_firstValue ccCd_firstValue 1 (some .long) :: wsA
abbrev wsCd_firstIsMinus : List Cond := Cond.code yCd_firstIsMinus ccCd_firstIsMinus 1 (some .boolean) :: wsA
abbrev wsCd_dropFirst : List Cond := Cond.code yCd_dropFirst ccCd_dropFirst 1 none :: wsA
abbrev wsAc_lowerDigits : List Cond := Cond.code yAc_lowerDigits ccAc_lowerDigits 1 (some .long) :: wsA
abbrev wsAc_isMinus : List Cond := Cond.code yAc_isMinus ccAc_isMinus 1 (some .boolean) :: wsA
abbrev wsPr_setDistributor : List Cond := Cond.code yPr_setDistributor ccPr_setDistributor 4 none :: wsA
abbrev wsAc_upperDigits : List Cond := Cond.code yAc_upperDigits ccAc_upperDigits 1 (some .long) :: wsA
abbrev wsDg_withDataAddress : List Cond := Cond.code yDg_withDataAddress ccDg_withDataAddress 5 (some .long) :: wsA
abbrev wsPr_read : List Cond := Cond.code yPr_read ccPr_read 7 (some .int) :: wsA
abbrev wsPr_lookUp : List Cond := Cond.code yPr_lookUp ccPr_lookUp 4 (some .int) :: wsA
abbrev wsAc_putDataAddress : List Cond := Cond.code yAc_putDataAddress ccAc_putDataAddress 2 none :: wsA
abbrev wsDr_isMinus : List Cond := Cond.code yDr_isMinus ccDr_isMinus 2 (some .boolean) :: wsA
abbrev wsPr_divide : List Cond := Cond.code yPr_divide ccPr_divide 4 (some .int) :: wsA
abbrev wsAc_divide : List Cond := Cond.code yAc_divide ccAc_divide 11 (some .boolean) :: wsA
abbrev wsDg_sum : List Cond := Cond.code yDg_sum ccDg_sum 6 (some .int) :: wsA
abbrev wsPr_punchWord : List Cond := Cond.code yPr_punchWord ccPr_punchWord 4 (some .int) :: wsA
abbrev wsPu_isFull : List Cond := Cond.code yPu_isFull ccPu_isFull 1 (some .boolean) :: wsA
abbrev wsDg_withSign : List Cond := Cond.code yDg_withSign ccDg_withSign 3 (some .long) :: wsA
abbrev wsPu_put : List Cond := Cond.code yPu_put ccPu_put 3 none :: wsA
abbrev wsPr_multiply : List Cond := Cond.code yPr_multiply ccPr_multiply 4 none :: wsA
abbrev wsAc_multiply : List Cond := Cond.code yAc_multiply ccAc_multiply 10 none :: wsA
abbrev wsOp_adds : List Cond := Cond.code yOp_adds ccOp_adds 1 (some .boolean) :: wsA
abbrev wsPr_addWord : List Cond := Cond.code yPr_addWord ccPr_addWord 7 none :: wsA
abbrev wsOp_resetsFirst : List Cond := Cond.code yOp_resetsFirst ccOp_resetsFirst 1 (some .boolean) :: wsA
abbrev wsAc_reset : List Cond := Cond.code yAc_reset ccAc_reset 1 none :: wsA
abbrev wsOp_subtracts : List Cond := Cond.code yOp_subtracts ccOp_subtracts 1 (some .boolean) :: wsA
abbrev wsOp_addsToUpper : List Cond := Cond.code yOp_addsToUpper ccOp_addsToUpper 1 (some .boolean) :: wsA
abbrev wsPr_isFault : List Cond := Cond.code yPr_isFault ccPr_isFault 1 (some .boolean) :: wsA
abbrev wsPr_takesBranch : List Cond := Cond.code yPr_takesBranch ccPr_takesBranch 2 (some .boolean) :: wsA
abbrev wsAc_isZero : List Cond := Cond.code yAc_isZero ccAc_isZero 1 (some .boolean) :: wsA
abbrev wsAc_takeOverflow : List Cond := Cond.code yAc_takeOverflow ccAc_takeOverflow 2 (some .boolean) :: wsA
abbrev wsDg_nextAddressOf : List Cond := Cond.code yDg_nextAddressOf ccDg_nextAddressOf 2 (some .int) :: wsA
abbrev wsDM_register : List Cond := Cond.code yDM_register ccDM_register 2 (some .long) :: wsA
abbrev wsPr_upperDigits : List Cond := Cond.code yPr_upperDigits ccPr_upperDigits 1 (some .long) :: wsA
abbrev wsPr_lowerDigits : List Cond := Cond.code yPr_lowerDigits ccPr_lowerDigits 1 (some .long) :: wsA
abbrev wsPr_distributorDigits : List Cond := Cond.code yPr_distributorDigits ccPr_distributorDigits 1 (some .long) :: wsA
abbrev wsDM_sign : List Cond := Cond.code yDM_sign ccDM_sign 2 (some .boolean) :: wsA
abbrev wsPr_accumulatorIsMinus : List Cond := Cond.code yPr_accumulatorIsMinus ccPr_accumulatorIsMinus 1 (some .boolean) :: wsA
abbrev wsPr_distributorIsMinus : List Cond := Cond.code yPr_distributorIsMinus ccPr_distributorIsMinus 1 (some .boolean) :: wsA
abbrev wsPr_overflowIsOn : List Cond := Cond.code yPr_overflowIsOn ccPr_overflowIsOn 1 (some .boolean) :: wsA
abbrev wsAc_hasOverflow : List Cond := Cond.code yAc_hasOverflow ccAc_hasOverflow 1 (some .boolean) :: wsA
abbrev wsDM_get : List Cond := Cond.code yDM_get ccDM_get 2 (some .long) :: wsA
abbrev wsDM_output : List Cond := Cond.code yDM_output ccDM_output 2 (some .long) :: wsA
abbrev wsPu_hasWord : List Cond := Cond.code yPu_hasWord ccPu_hasWord 2 (some .boolean) :: wsA
abbrev wsPu_wordAt : List Cond := Cond.code yPu_wordAt ccPu_wordAt 2 (some .long) :: wsA
abbrev wsMo_init : List Cond := Cond.code yMo_init ccMo_init 2 none :: wsA
abbrev wsMo_write : List Cond := Cond.code yMo_write ccMo_write 9 none :: wsA
abbrev wsMo_forgetPlaces : List Cond := Cond.code yMo_forgetPlaces ccMo_forgetPlaces 2 none :: wsA
abbrev wsMo_thrown : List Cond := Cond.code yMo_thrown ccMo_thrown 1 (some .int) :: wsA
abbrev wsMo_word : List Cond := Cond.code yMo_word ccMo_word 5 none :: wsA
abbrev wsMo_isAddress : List Cond := Cond.code yMo_isAddress ccMo_isAddress 1 (some .boolean) :: wsA
abbrev wsMo_isWord : List Cond := Cond.code yMo_isWord ccMo_isWord 2 (some .boolean) :: wsA
abbrev wsMo_flip : List Cond := Cond.code yMo_flip ccMo_flip 4 (some .boolean) :: wsA
abbrev wsMo_value : List Cond := Cond.code yMo_value ccMo_value 7 (some .long) :: wsA
abbrev wsMo_digitOf : List Cond := Cond.code yMo_digitOf ccMo_digitOf 4 (some .int) :: wsA
abbrev wsMo_card : List Cond := Cond.code yMo_card ccMo_card 4 (some .int) :: wsA
abbrev wsMo_start : List Cond := Cond.code yMo_start ccMo_start 2 none :: wsA
abbrev wsMo_run : List Cond := Cond.code yMo_run ccMo_run 3 (some .int) :: wsA
abbrev wsMo_step : List Cond := Cond.code yMo_step ccMo_step 10 (some .boolean) :: wsA
abbrev wsMo_stop : List Cond := Cond.code yMo_stop ccMo_stop 3 (some .boolean) :: wsA
abbrev wsMo_access : List Cond := Cond.code yMo_access ccMo_access 2 none :: wsA
abbrev wsMo_isOperation : List Cond := Cond.code yMo_isOperation ccMo_isOperation 1 (some .boolean) :: wsA
abbrev wsMo_reads : List Cond := Cond.code yMo_reads ccMo_reads 1 (some .boolean) :: wsA
abbrev wsMo_writes : List Cond := Cond.code yMo_writes ccMo_writes 1 (some .boolean) :: wsA
abbrev wsMo_shifts : List Cond := Cond.code yMo_shifts ccMo_shifts 1 (some .boolean) :: wsA
abbrev wsMo_doRead : List Cond := Cond.code yMo_doRead ccMo_doRead 7 (some .boolean) :: wsA
abbrev wsMo_lookUp : List Cond := Cond.code yMo_lookUp ccMo_lookUp 7 (some .boolean) :: wsA
abbrev wsMo_fixed : List Cond := Cond.code yMo_fixed ccMo_fixed 2 (some .int) :: wsA
abbrev wsMo_divide : List Cond := Cond.code yMo_divide ccMo_divide 11 none :: wsA
abbrev wsMo_sumOfDigits : List Cond := Cond.code yMo_sumOfDigits ccMo_sumOfDigits 5 (some .int) :: wsA
abbrev wsMo_multiply : List Cond := Cond.code yMo_multiply ccMo_multiply 14 none :: wsA
abbrev wsMo_sum : List Cond := Cond.code yMo_sum ccMo_sum 7 none :: wsA
abbrev wsMo_add : List Cond := Cond.code yMo_add ccMo_add 15 none :: wsA
abbrev wsMo_doWrite : List Cond := Cond.code yMo_doWrite ccMo_doWrite 5 (some .boolean) :: wsA
abbrev wsMo_branches : List Cond := Cond.code yMo_branches ccMo_branches 5 (some .boolean) :: wsA
abbrev wsMo_shiftRight : List Cond := Cond.code yMo_shiftRight ccMo_shiftRight 5 none :: wsA
abbrev wsMo_shiftLeft : List Cond := Cond.code yMo_shiftLeft ccMo_shiftLeft 3 none :: wsA
abbrev wsMo_line : List Cond := Cond.code yMo_line ccMo_line 6 (some .int) :: wsA
abbrev wsMo_isPart : List Cond := Cond.code yMo_isPart ccMo_isPart 1 (some .boolean) :: wsA
abbrev wsMo_fail : List Cond := Cond.code yMo_fail ccMo_fail 2 (some .int) :: wsA
abbrev wsMo_reserve : List Cond := Cond.code yMo_reserve ccMo_reserve 2 none :: wsA
abbrev wsMo_clear : List Cond := Cond.code yMo_clear ccMo_clear 2 none :: wsA
abbrev wsMo_assemble : List Cond := Cond.code yMo_assemble ccMo_assemble 4 (some .int) :: wsA
abbrev wsMo_hold : List Cond := Cond.code yMo_hold ccMo_hold 2 none :: wsA
abbrev wsMo_settle : List Cond := Cond.code yMo_settle ccMo_settle 11 none :: wsA
abbrev wsMo_take : List Cond := Cond.code yMo_take ccMo_take 7 (some .int) :: wsA
abbrev wsMo_placeOf : List Cond := Cond.code yMo_placeOf ccMo_placeOf 6 (some .int) :: wsA
abbrev wsMo_place : List Cond := Cond.code yMo_place ccMo_place 2 (some .int) :: wsA
abbrev wsMo_fault : List Cond := Cond.code yMo_fault ccMo_fault 1 (some .int) :: wsA
abbrev wsMo_time : List Cond := Cond.code yMo_time ccMo_time 1 (some .long) :: wsA
abbrev wsMo_register : List Cond := Cond.code yMo_register ccMo_register 2 (some .long) :: wsA
abbrev wsMo_sign : List Cond := Cond.code yMo_sign ccMo_sign 2 (some .boolean) :: wsA
abbrev wsMo_next : List Cond := Cond.code yMo_next ccMo_next 1 (some .int) :: wsA
abbrev wsMo_get : List Cond := Cond.code yMo_get ccMo_get 4 (some .long) :: wsA
abbrev wsMo_output : List Cond := Cond.code yMo_output ccMo_output 2 (some .long) :: wsA
abbrev wsMo_outputs : List Cond := Cond.code yMo_outputs ccMo_outputs 1 (some .int) :: wsA
