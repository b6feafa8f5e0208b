/-! ===== BEGIN words of one list among another's, by their places ===== -/
theorem goodIn_r {big : List Cond} (ws : List Cond) (ps : List Nat) (hp : ws = ps.filterMap (fun i => big[i]?)) (h : ws.all goodWord = true) : GoodIn big ws := by
  intro w hw
  have h1 := List.all_eq_true.mp h w hw
  rw [hp] at hw
  obtain ⟨i, -, hi⟩ := List.mem_filterMap.mp hw
  have hm : w ∈ big := by first | exact List.mem_of_getElem? hi | exact List.getElem?_mem hi
  exact ⟨hm, good_of_word h1⟩
theorem goodIn_app {big a b : List Cond} (ha : GoodIn big a) (hb : GoodIn big b) : GoodIn big (a ++ b) := fun w h => (List.mem_append.mp h).elim (ha w) (hb w)
theorem goodIn_ca {big a b : List Cond} {c : Cond} (ha : GoodIn big (c :: a)) (hb : GoodIn big b) : GoodIn big (c :: (a ++ b)) := fun w h => (List.mem_cons.mp h).elim (fun e => ha w (List.mem_cons.mpr (Or.inl e))) (fun h => (List.mem_append.mp h).elim (fun h => ha w (List.mem_cons.mpr (Or.inr h))) (hb w))
theorem goodIn_sub {big ws : List Cond} (hm : ∀ w ∈ ws, w ∈ big) (h : ws.all goodWord = true) : GoodIn big ws := fun w hw => ⟨hm w hw, good_of_word (List.all_eq_true.mp h w hw)⟩
/-! ===== END ===== -/

/-! ===== BEGIN printed: names, fields, word lists, decode rows ===== -/
def RX0 : String := "AddressTexts$Address"
def TX0 : u_T := fun k => match k with
  | 0 => ("AddressTexts$Address", "family", "I", false)
  | 1 => ("AddressTexts$Address", "prefixLength", "I", false)
  | 2 => ("AddressTexts$Address", "upper", "J", false)
  | _ => ("AddressTexts$Address", "lower", "J", false)
def tyX0 : Nat → FieldType := fun k => match k with
  | 0 => .int
  | 1 => .int
  | 2 => .long
  | _ => .long
abbrev wsX00 : List Cond := u_ws RX0 TX0 4
theorem nmX0 : ∀ a, a < 4 → ∀ b, b < 4 → a ≠ b → (TX0 a).2.1 ≠ (TX0 b).2.1 := by decide +kernel
theorem tyX0_ok : ∀ k, k < 4 → parseFieldDescriptor (TX0 k).2.2.1 = some (tyX0 k) := by decide +kernel
abbrev cX0_init : ByteArray := prog_2_method_1_code
def yX0_init : MethodName := ⟨RX0, "<init>", "()V"⟩
abbrev cX0_clear : ByteArray := prog_2_method_2_code
def yX0_clear : MethodName := ⟨RX0, "clear", "(I)V"⟩
abbrev cX0_wholeLength : ByteArray := prog_2_method_3_code
def yX0_wholeLength : MethodName := ⟨RX0, "wholeLength", "()I"⟩
abbrev cX0_upperMask : ByteArray := prog_2_method_4_code
def yX0_upperMask : MethodName := ⟨RX0, "upperMask", "()J"⟩
abbrev cX0_lowerMask : ByteArray := prog_2_method_5_code
def yX0_lowerMask : MethodName := ⟨RX0, "lowerMask", "()J"⟩
abbrev cX0_keptOfAll : ByteArray := prog_2_method_6_code
def yX0_keptOfAll : MethodName := ⟨RX0, "keptOfAll", "()I"⟩
abbrev cX0_highestBits : ByteArray := prog_2_method_7_code
def yX0_highestBits : MethodName := ⟨RX0, "highestBits", "(I)J"⟩
abbrev cX0_part : ByteArray := prog_2_method_8_code
def yX0_part : MethodName := ⟨RX0, "part", "(I)I"⟩
abbrev cX0_setPart : ByteArray := prog_2_method_9_code
def yX0_setPart : MethodName := ⟨RX0, "setPart", "(II)V"⟩
abbrev cX0_shiftOf : ByteArray := prog_2_method_10_code
def yX0_shiftOf : MethodName := ⟨RX0, "shiftOf", "(I)I"⟩
abbrev cX0_zerosFrom : ByteArray := prog_2_method_11_code
def yX0_zerosFrom : MethodName := ⟨RX0, "zerosFrom", "(I)I"⟩
abbrev cX0_longestRowOfZeros : ByteArray := prog_2_method_12_code
def yX0_longestRowOfZeros : MethodName := ⟨RX0, "longestRowOfZeros", "()I"⟩
def RX1 : String := "AddressTexts"
def TX1 : u_T := fun k => match k with
  | 0 => ("AddressTexts", "tape", "[B", true)
  | 1 => ("AddressTexts", "tapeCount", "I", false)
  | 2 => ("AddressTexts", "written", "[B", true)
  | 3 => ("AddressTexts", "writtenCount", "I", false)
  | 4 => ("AddressTexts", "one", "LAddressTexts$Address;", false)
  | 5 => ("AddressTexts", "two", "LAddressTexts$Address;", false)
  | _ => ("AddressTexts", "spare", "LAddressTexts$Address;", false)
def tyX1 : Nat → FieldType := fun k => match k with
  | 0 => .array .byte
  | 1 => .int
  | 2 => .array .byte
  | 3 => .int
  | 4 => .object "AddressTexts$Address"
  | 5 => .object "AddressTexts$Address"
  | _ => .object "AddressTexts$Address"
abbrev wsX10 : List Cond := u_ws RX1 TX1 7
theorem nmX1 : ∀ a, a < 7 → ∀ b, b < 7 → a ≠ b → (TX1 a).2.1 ≠ (TX1 b).2.1 := by decide +kernel
theorem tyX1_ok : ∀ k, k < 7 → parseFieldDescriptor (TX1 k).2.2.1 = some (tyX1 k) := by decide +kernel
abbrev cX1_init : ByteArray := prog_1_method_1_code
def yX1_init : MethodName := ⟨RX1, "<init>", "()V"⟩
abbrev cX1_feed : ByteArray := prog_1_method_2_code
def yX1_feed : MethodName := ⟨RX1, "feed", "(IIIII)Z"⟩
abbrev cX1_end : ByteArray := prog_1_method_3_code
def yX1_end : MethodName := ⟨RX1, "end", "(I)Z"⟩
abbrev cX1_read : ByteArray := prog_1_method_4_code
def yX1_read : MethodName := ⟨RX1, "read", "()I"⟩
abbrev cX1_length : ByteArray := prog_1_method_5_code
def yX1_length : MethodName := ⟨RX1, "length", "()I"⟩
abbrev cX1_cut : ByteArray := prog_1_method_6_code
def yX1_cut : MethodName := ⟨RX1, "cut", "()Z"⟩
abbrev cX1_covers : ByteArray := prog_1_method_7_code
def yX1_covers : MethodName := ⟨RX1, "covers", "()Z"⟩
abbrev cX1_order : ByteArray := prog_1_method_8_code
def yX1_order : MethodName := ⟨RX1, "order", "()I"⟩
abbrev cX1_turn : ByteArray := prog_1_method_9_code
def yX1_turn : MethodName := ⟨RX1, "turn", "()V"⟩
abbrev cX1_write : ByteArray := prog_1_method_10_code
def yX1_write : MethodName := ⟨RX1, "write", "()I"⟩
abbrev cX1_writtenAt : ByteArray := prog_1_method_11_code
def yX1_writtenAt : MethodName := ⟨RX1, "writtenAt", "(I)I"⟩
abbrev cX1_bits : ByteArray := prog_1_method_12_code
def yX1_bits : MethodName := ⟨RX1, "bits", "(I)J"⟩
abbrev cX1_tapeNumber : ByteArray := prog_1_method_13_code
def yX1_tapeNumber : MethodName := ⟨RX1, "tapeNumber", "(I)V"⟩
abbrev cX1_tapeByte : ByteArray := prog_1_method_14_code
def yX1_tapeByte : MethodName := ⟨RX1, "tapeByte", "(I)V"⟩
abbrev cX1_tapeAt : ByteArray := prog_1_method_15_code
def yX1_tapeAt : MethodName := ⟨RX1, "tapeAt", "(I)I"⟩
abbrev cX1_placeOf : ByteArray := prog_1_method_16_code
def yX1_placeOf : MethodName := ⟨RX1, "placeOf", "(CI)I"⟩
abbrev cX1_placeOfGap : ByteArray := prog_1_method_17_code
def yX1_placeOfGap : MethodName := ⟨RX1, "placeOfGap", "()I"⟩
abbrev cX1_readText : ByteArray := prog_1_method_18_code
def yX1_readText : MethodName := ⟨RX1, "readText", "()Z"⟩
abbrev cX1_readFour : ByteArray := prog_1_method_19_code
def yX1_readFour : MethodName := ⟨RX1, "readFour", "()Z"⟩
abbrev cX1_readSix : ByteArray := prog_1_method_20_code
def yX1_readSix : MethodName := ⟨RX1, "readSix", "()Z"⟩
abbrev cX1_partsIn : ByteArray := prog_1_method_21_code
def yX1_partsIn : MethodName := ⟨RX1, "partsIn", "(II)I"⟩
abbrev cX1_readParts : ByteArray := prog_1_method_22_code
def yX1_readParts : MethodName := ⟨RX1, "readParts", "(III)Z"⟩
abbrev cX1_decimalIn : ByteArray := prog_1_method_23_code
def yX1_decimalIn : MethodName := ⟨RX1, "decimalIn", "(III)I"⟩
abbrev cX1_hexadecimalIn : ByteArray := prog_1_method_24_code
def yX1_hexadecimalIn : MethodName := ⟨RX1, "hexadecimalIn", "(II)I"⟩
abbrev cX1_digitAt : ByteArray := prog_1_method_25_code
def yX1_digitAt : MethodName := ⟨RX1, "digitAt", "(I)I"⟩
abbrev cX1_writeNumbers : ByteArray := prog_1_method_26_code
def yX1_writeNumbers : MethodName := ⟨RX1, "writeNumbers", "()V"⟩
abbrev cX1_writeParts : ByteArray := prog_1_method_27_code
def yX1_writeParts : MethodName := ⟨RX1, "writeParts", "()V"⟩
abbrev cX1_writeDecimal : ByteArray := prog_1_method_28_code
def yX1_writeDecimal : MethodName := ⟨RX1, "writeDecimal", "(I)V"⟩
abbrev cX1_writeHexadecimal : ByteArray := prog_1_method_29_code
def yX1_writeHexadecimal : MethodName := ⟨RX1, "writeHexadecimal", "(I)V"⟩
abbrev cX1_writeDigit : ByteArray := prog_1_method_30_code
def yX1_writeDigit : MethodName := ⟨RX1, "writeDigit", "(I)V"⟩
abbrev cX1_writeByte : ByteArray := prog_1_method_31_code
def yX1_writeByte : MethodName := ⟨RX1, "writeByte", "(I)V"⟩
abbrev cX1_isBelow : ByteArray := prog_1_method_32_code
def yX1_isBelow : MethodName := ⟨RX1, "isBelow", "(JJ)Z"⟩
def RX2 : String := "AddressTextsModel"
def RL : String := "AddressTextsLaw"
abbrev cL_law : ByteArray := code
def yL_law : MethodName := ⟨RL, "law", "([I)Z"⟩
def wsX0_init : List Cond := .code yX0_init cX0_init 1 none :: ([.methodLink RX0 3 objectInit, .instanceMethod objectInit, .code objectInit ⟨#[0xb1]⟩ 1 none, .fieldLink RX0 9 "AddressTexts$Address" "family" "I", .fieldLink RX0 15 "AddressTexts$Address" "prefixLength" "I", .fieldLink RX0 18 "AddressTexts$Address" "upper" "J", .fieldLink RX0 22 "AddressTexts$Address" "lower" "J"] ++ wsX00)
def wsX0_wholeLength : List Cond := .code yX0_wholeLength cX0_wholeLength 1 (some .int) :: ([.fieldLink RX0 9 "AddressTexts$Address" "family" "I"] ++ wsX00)
def wsX0_clear : List Cond := .code yX0_clear cX0_clear 2 none :: ([.fieldLink RX0 9 "AddressTexts$Address" "family" "I", .fieldLink RX0 15 "AddressTexts$Address" "prefixLength" "I", .fieldLink RX0 18 "AddressTexts$Address" "upper" "J", .fieldLink RX0 22 "AddressTexts$Address" "lower" "J", .methodLink RX0 25 yX0_wholeLength, .instanceMethod yX0_wholeLength, .selects RX0 yX0_wholeLength yX0_wholeLength, .initialized RX0, .code yX0_wholeLength cX0_wholeLength 1 (some .int)] ++ wsX00)
def wsX0_keptOfAll : List Cond := .code yX0_keptOfAll cX0_keptOfAll 1 (some .int) :: ([.fieldLink RX0 15 "AddressTexts$Address" "prefixLength" "I", .methodLink RX0 25 yX0_wholeLength, .instanceMethod yX0_wholeLength, .selects RX0 yX0_wholeLength yX0_wholeLength, .initialized RX0, .code yX0_wholeLength cX0_wholeLength 1 (some .int), .fieldLink RX0 9 "AddressTexts$Address" "family" "I"] ++ wsX00)
def wsX0_highestBits : List Cond := .code yX0_highestBits cX0_highestBits 1 (some .long) :: ([.constantLong RX0 36 (-1)])
def wsX0_upperMask : List Cond := .code yX0_upperMask cX0_upperMask 1 (some .long) :: ([.methodLink RX0 29 yX0_keptOfAll, .instanceMethod yX0_keptOfAll, .selects RX0 yX0_keptOfAll yX0_keptOfAll, .initialized RX0, .code yX0_keptOfAll cX0_keptOfAll 1 (some .int), .fieldLink RX0 15 "AddressTexts$Address" "prefixLength" "I", .methodLink RX0 25 yX0_wholeLength, .instanceMethod yX0_wholeLength, .selects RX0 yX0_wholeLength yX0_wholeLength, .code yX0_wholeLength cX0_wholeLength 1 (some .int), .fieldLink RX0 9 "AddressTexts$Address" "family" "I", .methodLink RX0 32 yX0_highestBits, .static yX0_highestBits, .code yX0_highestBits cX0_highestBits 1 (some .long), .constantLong RX0 36 (-1)] ++ wsX00)
def wsX0_lowerMask : List Cond := .code yX0_lowerMask cX0_lowerMask 1 (some .long) :: ([.methodLink RX0 29 yX0_keptOfAll, .instanceMethod yX0_keptOfAll, .selects RX0 yX0_keptOfAll yX0_keptOfAll, .initialized RX0, .code yX0_keptOfAll cX0_keptOfAll 1 (some .int), .fieldLink RX0 15 "AddressTexts$Address" "prefixLength" "I", .methodLink RX0 25 yX0_wholeLength, .instanceMethod yX0_wholeLength, .selects RX0 yX0_wholeLength yX0_wholeLength, .code yX0_wholeLength cX0_wholeLength 1 (some .int), .fieldLink RX0 9 "AddressTexts$Address" "family" "I", .methodLink RX0 32 yX0_highestBits, .static yX0_highestBits, .code yX0_highestBits cX0_highestBits 1 (some .long), .constantLong RX0 36 (-1)] ++ wsX00)
def wsX0_shiftOf : List Cond := .code yX0_shiftOf cX0_shiftOf 1 (some .int) :: ([])
def wsX0_part : List Cond := .code yX0_part cX0_part 4 (some .int) :: ([.fieldLink RX0 18 "AddressTexts$Address" "upper" "J", .fieldLink RX0 22 "AddressTexts$Address" "lower" "J", .constant RX0 42 (65535), .methodLink RX0 38 yX0_shiftOf, .static yX0_shiftOf, .initialized RX0, .code yX0_shiftOf cX0_shiftOf 1 (some .int)] ++ wsX00)
def wsX0_setPart : List Cond := .code yX0_setPart cX0_setPart 5 none :: ([.fieldLink RX0 18 "AddressTexts$Address" "upper" "J", .fieldLink RX0 22 "AddressTexts$Address" "lower" "J", .methodLink RX0 38 yX0_shiftOf, .static yX0_shiftOf, .initialized RX0, .code yX0_shiftOf cX0_shiftOf 1 (some .int)] ++ wsX00)
def wsX0_zerosFrom : List Cond := .code yX0_zerosFrom cX0_zerosFrom 3 (some .int) :: ([.methodLink RX0 43 yX0_part, .instanceMethod yX0_part, .selects RX0 yX0_part yX0_part, .initialized RX0, .code yX0_part cX0_part 4 (some .int), .fieldLink RX0 18 "AddressTexts$Address" "upper" "J", .fieldLink RX0 22 "AddressTexts$Address" "lower" "J", .constant RX0 42 (65535), .methodLink RX0 38 yX0_shiftOf, .static yX0_shiftOf, .code yX0_shiftOf cX0_shiftOf 1 (some .int)] ++ wsX00)
def wsX0_longestRowOfZeros : List Cond := .code yX0_longestRowOfZeros cX0_longestRowOfZeros 5 (some .int) :: ([.methodLink RX0 46 yX0_zerosFrom, .instanceMethod yX0_zerosFrom, .selects RX0 yX0_zerosFrom yX0_zerosFrom, .initialized RX0, .code yX0_zerosFrom cX0_zerosFrom 3 (some .int), .methodLink RX0 43 yX0_part, .instanceMethod yX0_part, .selects RX0 yX0_part yX0_part, .code yX0_part cX0_part 4 (some .int), .fieldLink RX0 18 "AddressTexts$Address" "upper" "J", .fieldLink RX0 22 "AddressTexts$Address" "lower" "J", .constant RX0 42 (65535), .methodLink RX0 38 yX0_shiftOf, .static yX0_shiftOf, .code yX0_shiftOf cX0_shiftOf 1 (some .int)] ++ wsX00)
def wsX1_init : List Cond := .code yX1_init cX1_init 1 none :: ([.methodLink RX1 1 objectInit, .instanceMethod objectInit, .code objectInit ⟨#[0xb1]⟩ 1 none, .arrayClass .byte, .fieldLink RX1 9 "AddressTexts" "tape" "[B", .fieldLink RX1 13 "AddressTexts" "tapeCount" "I", .fieldLink RX1 17 "AddressTexts" "written" "[B", .fieldLink RX1 20 "AddressTexts" "writtenCount" "I", .classLink RX1 23 RX0, .instantiable RX0 4, .initialized RX0, .fieldLink RX1 26 "AddressTexts" "one" "LAddressTexts$Address;", .fieldLink RX1 30 "AddressTexts" "two" "LAddressTexts$Address;", .fieldLink RX1 33 "AddressTexts" "spare" "LAddressTexts$Address;", .methodLink RX1 25 yX0_init, .instanceMethod yX0_init, .code yX0_init cX0_init 1 none, .methodLink RX0 3 objectInit, .fieldLink RX0 9 "AddressTexts$Address" "family" "I", .fieldLink RX0 15 "AddressTexts$Address" "prefixLength" "I", .fieldLink RX0 18 "AddressTexts$Address" "upper" "J", .fieldLink RX0 22 "AddressTexts$Address" "lower" "J"] ++ wsX10 ++ wsX00)
def wsX1_tapeByte : List Cond := .code yX1_tapeByte cX1_tapeByte 2 none :: ([.fieldLink RX1 13 "AddressTexts" "tapeCount" "I", .fieldLink RX1 9 "AddressTexts" "tape" "[B"] ++ wsX10)
def wsX1_tapeNumber : List Cond := .code yX1_tapeNumber cX1_tapeNumber 3 none :: ([.methodLink RX1 82 yX1_tapeByte, .instanceMethod yX1_tapeByte, .selects RX1 yX1_tapeByte yX1_tapeByte, .initialized RX1, .code yX1_tapeByte cX1_tapeByte 2 none, .fieldLink RX1 13 "AddressTexts" "tapeCount" "I", .fieldLink RX1 9 "AddressTexts" "tape" "[B"] ++ wsX10)
def wsX1_feed : List Cond := .code yX1_feed cX1_feed 6 (some .boolean) :: ([.fieldLink RX1 13 "AddressTexts" "tapeCount" "I", .methodLink RX1 36 yX1_tapeNumber, .instanceMethod yX1_tapeNumber, .selects RX1 yX1_tapeNumber yX1_tapeNumber, .initialized RX1, .code yX1_tapeNumber cX1_tapeNumber 3 none, .methodLink RX1 82 yX1_tapeByte, .instanceMethod yX1_tapeByte, .selects RX1 yX1_tapeByte yX1_tapeByte, .code yX1_tapeByte cX1_tapeByte 2 none, .fieldLink RX1 9 "AddressTexts" "tape" "[B"] ++ wsX10)
def wsX1_end : List Cond := .code yX1_end cX1_end 2 (some .boolean) :: ([.fieldLink RX1 13 "AddressTexts" "tapeCount" "I"] ++ wsX10)
def wsX1_tapeAt : List Cond := .code yX1_tapeAt cX1_tapeAt 2 (some .int) :: ([.fieldLink RX1 13 "AddressTexts" "tapeCount" "I", .fieldLink RX1 9 "AddressTexts" "tape" "[B"] ++ wsX10)
def wsX1_placeOf : List Cond := .code yX1_placeOf cX1_placeOf 4 (some .int) :: ([.fieldLink RX1 13 "AddressTexts" "tapeCount" "I", .methodLink RX1 85 yX1_tapeAt, .instanceMethod yX1_tapeAt, .selects RX1 yX1_tapeAt yX1_tapeAt, .initialized RX1, .code yX1_tapeAt cX1_tapeAt 2 (some .int), .fieldLink RX1 9 "AddressTexts" "tape" "[B"] ++ wsX10)
def wsX1_placeOfGap : List Cond := .code yX1_placeOfGap cX1_placeOfGap 2 (some .int) :: ([.fieldLink RX1 13 "AddressTexts" "tapeCount" "I", .methodLink RX1 85 yX1_tapeAt, .instanceMethod yX1_tapeAt, .selects RX1 yX1_tapeAt yX1_tapeAt, .initialized RX1, .code yX1_tapeAt cX1_tapeAt 2 (some .int), .fieldLink RX1 9 "AddressTexts" "tape" "[B"] ++ wsX10)
def wsX1_partsIn : List Cond := .code yX1_partsIn cX1_partsIn 5 (some .int) :: ([.methodLink RX1 85 yX1_tapeAt, .instanceMethod yX1_tapeAt, .selects RX1 yX1_tapeAt yX1_tapeAt, .initialized RX1, .code yX1_tapeAt cX1_tapeAt 2 (some .int), .fieldLink RX1 13 "AddressTexts" "tapeCount" "I", .fieldLink RX1 9 "AddressTexts" "tape" "[B"] ++ wsX10)
def wsX1_digitAt : List Cond := .code yX1_digitAt cX1_digitAt 3 (some .int) :: ([.methodLink RX1 85 yX1_tapeAt, .instanceMethod yX1_tapeAt, .selects RX1 yX1_tapeAt yX1_tapeAt, .initialized RX1, .code yX1_tapeAt cX1_tapeAt 2 (some .int), .fieldLink RX1 13 "AddressTexts" "tapeCount" "I", .fieldLink RX1 9 "AddressTexts" "tape" "[B"] ++ wsX10)
def wsX1_hexadecimalIn : List Cond := .code yX1_hexadecimalIn cX1_hexadecimalIn 6 (some .int) :: ([.methodLink RX1 125 yX1_digitAt, .instanceMethod yX1_digitAt, .selects RX1 yX1_digitAt yX1_digitAt, .initialized RX1, .code yX1_digitAt cX1_digitAt 3 (some .int), .methodLink RX1 85 yX1_tapeAt, .instanceMethod yX1_tapeAt, .selects RX1 yX1_tapeAt yX1_tapeAt, .code yX1_tapeAt cX1_tapeAt 2 (some .int), .fieldLink RX1 13 "AddressTexts" "tapeCount" "I", .fieldLink RX1 9 "AddressTexts" "tape" "[B"] ++ wsX10)
def wsX1_readParts_r1 : List Cond := [Cond.methodLink RX1 113 Lib.Math.min.name, Cond.static Lib.Math.min.name, Cond.initialized "java/lang/Math", Cond.code Lib.Math.min.name Lib.Math.min.code 2 (some .int), Cond.fieldLink RX1 33 "AddressTexts" "spare" "LAddressTexts$Address;", Cond.methodLink RX1 105 yX1_partsIn, Cond.instanceMethod yX1_partsIn, Cond.selects RX1 yX1_partsIn yX1_partsIn, Cond.initialized RX1, Cond.code yX1_partsIn cX1_partsIn 5 (some .int), Cond.methodLink RX1 85 yX1_tapeAt, Cond.instanceMethod yX1_tapeAt, Cond.selects RX1 yX1_tapeAt yX1_tapeAt, Cond.code yX1_tapeAt cX1_tapeAt 2 (some .int), Cond.fieldLink RX1 13 "AddressTexts" "tapeCount" "I", Cond.fieldLink RX1 9 "AddressTexts" "tape" "[B", Cond.methodLink RX1 89 yX1_placeOf, Cond.instanceMethod yX1_placeOf, Cond.selects RX1 yX1_placeOf yX1_placeOf, Cond.code yX1_placeOf cX1_placeOf 4 (some .int), Cond.methodLink RX1 118 yX1_hexadecimalIn, Cond.instanceMethod yX1_hexadecimalIn, Cond.selects RX1 yX1_hexadecimalIn yX1_hexadecimalIn, Cond.code yX1_hexadecimalIn cX1_hexadecimalIn 6 (some .int)]
def wsX1_readParts_r2 : List Cond := [Cond.methodLink RX1 125 yX1_digitAt, Cond.instanceMethod yX1_digitAt, Cond.selects RX1 yX1_digitAt yX1_digitAt, Cond.code yX1_digitAt cX1_digitAt 3 (some .int), Cond.methodLink RX1 121 yX0_setPart, Cond.instanceMethod yX0_setPart, Cond.selects RX0 yX0_setPart yX0_setPart, Cond.initialized RX0, Cond.code yX0_setPart cX0_setPart 5 none, Cond.fieldLink RX0 18 "AddressTexts$Address" "upper" "J", Cond.fieldLink RX0 22 "AddressTexts$Address" "lower" "J", Cond.methodLink RX0 38 yX0_shiftOf, Cond.static yX0_shiftOf, Cond.code yX0_shiftOf cX0_shiftOf 1 (some .int)]
def wsX1_readParts : List Cond := .code yX1_readParts cX1_readParts 9 (some .boolean) :: ((wsX1_readParts_r1 ++ wsX1_readParts_r2) ++ wsX10 ++ wsX00)
def wsX1_readSix_r1 : List Cond := [Cond.fieldLink RX1 33 "AddressTexts" "spare" "LAddressTexts$Address;", Cond.fieldLink RX1 13 "AddressTexts" "tapeCount" "I", Cond.methodLink RX1 99 yX0_clear, Cond.instanceMethod yX0_clear, Cond.selects RX0 yX0_clear yX0_clear, Cond.initialized RX0, Cond.code yX0_clear cX0_clear 2 none, Cond.fieldLink RX0 9 "AddressTexts$Address" "family" "I", Cond.fieldLink RX0 15 "AddressTexts$Address" "prefixLength" "I", Cond.fieldLink RX0 18 "AddressTexts$Address" "upper" "J", Cond.fieldLink RX0 22 "AddressTexts$Address" "lower" "J", Cond.methodLink RX0 25 yX0_wholeLength, Cond.instanceMethod yX0_wholeLength, Cond.selects RX0 yX0_wholeLength yX0_wholeLength, Cond.code yX0_wholeLength cX0_wholeLength 1 (some .int), Cond.methodLink RX1 102 yX1_placeOfGap, Cond.instanceMethod yX1_placeOfGap, Cond.selects RX1 yX1_placeOfGap yX1_placeOfGap, Cond.initialized RX1, Cond.code yX1_placeOfGap cX1_placeOfGap 2 (some .int), Cond.methodLink RX1 85 yX1_tapeAt, Cond.instanceMethod yX1_tapeAt, Cond.selects RX1 yX1_tapeAt yX1_tapeAt, Cond.code yX1_tapeAt cX1_tapeAt 2 (some .int)]
def wsX1_readSix_r2 : List Cond := [Cond.fieldLink RX1 9 "AddressTexts" "tape" "[B", Cond.methodLink RX1 105 yX1_partsIn, Cond.instanceMethod yX1_partsIn, Cond.selects RX1 yX1_partsIn yX1_partsIn, Cond.code yX1_partsIn cX1_partsIn 5 (some .int), Cond.methodLink RX1 109 yX1_readParts, Cond.instanceMethod yX1_readParts, Cond.selects RX1 yX1_readParts yX1_readParts, Cond.code yX1_readParts cX1_readParts 9 (some .boolean), Cond.methodLink RX1 113 Lib.Math.min.name, Cond.static Lib.Math.min.name, Cond.initialized "java/lang/Math", Cond.code Lib.Math.min.name Lib.Math.min.code 2 (some .int), Cond.methodLink RX1 89 yX1_placeOf, Cond.instanceMethod yX1_placeOf, Cond.selects RX1 yX1_placeOf yX1_placeOf, Cond.code yX1_placeOf cX1_placeOf 4 (some .int), Cond.methodLink RX1 118 yX1_hexadecimalIn, Cond.instanceMethod yX1_hexadecimalIn, Cond.selects RX1 yX1_hexadecimalIn yX1_hexadecimalIn, Cond.code yX1_hexadecimalIn cX1_hexadecimalIn 6 (some .int), Cond.methodLink RX1 125 yX1_digitAt, Cond.instanceMethod yX1_digitAt, Cond.selects RX1 yX1_digitAt yX1_digitAt]
def wsX1_readSix_r3 : List Cond := [Cond.code yX1_digitAt cX1_digitAt 3 (some .int), Cond.methodLink RX1 121 yX0_setPart, Cond.instanceMethod yX0_setPart, Cond.selects RX0 yX0_setPart yX0_setPart, Cond.code yX0_setPart cX0_setPart 5 none, Cond.methodLink RX0 38 yX0_shiftOf, Cond.static yX0_shiftOf, Cond.code yX0_shiftOf cX0_shiftOf 1 (some .int)]
def wsX1_readSix : List Cond := .code yX1_readSix cX1_readSix 5 (some .boolean) :: ((wsX1_readSix_r1 ++ (wsX1_readSix_r2 ++ wsX1_readSix_r3)) ++ wsX10 ++ wsX00)
def wsX1_decimalIn : List Cond := .code yX1_decimalIn cX1_decimalIn 8 (some .int) :: ([.methodLink RX1 85 yX1_tapeAt, .instanceMethod yX1_tapeAt, .selects RX1 yX1_tapeAt yX1_tapeAt, .initialized RX1, .code yX1_tapeAt cX1_tapeAt 2 (some .int), .fieldLink RX1 13 "AddressTexts" "tapeCount" "I", .fieldLink RX1 9 "AddressTexts" "tape" "[B", .methodLink RX1 125 yX1_digitAt, .instanceMethod yX1_digitAt, .selects RX1 yX1_digitAt yX1_digitAt, .code yX1_digitAt cX1_digitAt 3 (some .int)] ++ wsX10)
def wsX1_readFour_r1 : List Cond := [Cond.fieldLink RX1 33 "AddressTexts" "spare" "LAddressTexts$Address;", Cond.fieldLink RX1 66 "AddressTexts$Address" "lower" "J", Cond.fieldLink RX1 13 "AddressTexts" "tapeCount" "I", Cond.methodLink RX1 99 yX0_clear, Cond.instanceMethod yX0_clear, Cond.selects RX0 yX0_clear yX0_clear, Cond.initialized RX0, Cond.code yX0_clear cX0_clear 2 none, Cond.fieldLink RX0 9 "AddressTexts$Address" "family" "I", Cond.fieldLink RX0 15 "AddressTexts$Address" "prefixLength" "I", Cond.fieldLink RX0 18 "AddressTexts$Address" "upper" "J", Cond.fieldLink RX0 22 "AddressTexts$Address" "lower" "J", Cond.methodLink RX0 25 yX0_wholeLength, Cond.instanceMethod yX0_wholeLength, Cond.selects RX0 yX0_wholeLength yX0_wholeLength, Cond.code yX0_wholeLength cX0_wholeLength 1 (some .int), Cond.methodLink RX1 89 yX1_placeOf, Cond.instanceMethod yX1_placeOf, Cond.selects RX1 yX1_placeOf yX1_placeOf, Cond.initialized RX1, Cond.code yX1_placeOf cX1_placeOf 4 (some .int), Cond.methodLink RX1 85 yX1_tapeAt, Cond.instanceMethod yX1_tapeAt, Cond.selects RX1 yX1_tapeAt yX1_tapeAt]
def wsX1_readFour_r2 : List Cond := [Cond.code yX1_tapeAt cX1_tapeAt 2 (some .int), Cond.fieldLink RX1 9 "AddressTexts" "tape" "[B", Cond.methodLink RX1 51 yX1_decimalIn, Cond.instanceMethod yX1_decimalIn, Cond.selects RX1 yX1_decimalIn yX1_decimalIn, Cond.code yX1_decimalIn cX1_decimalIn 8 (some .int), Cond.methodLink RX1 125 yX1_digitAt, Cond.instanceMethod yX1_digitAt, Cond.selects RX1 yX1_digitAt yX1_digitAt, Cond.code yX1_digitAt cX1_digitAt 3 (some .int)]
def wsX1_readFour : List Cond := .code yX1_readFour cX1_readFour 5 (some .boolean) :: ((wsX1_readFour_r1 ++ wsX1_readFour_r2) ++ wsX10 ++ wsX00)
def wsX1_readText_r1 : List Cond := [Cond.fieldLink RX1 13 "AddressTexts" "tapeCount" "I", Cond.methodLink RX1 89 yX1_placeOf, Cond.instanceMethod yX1_placeOf, Cond.selects RX1 yX1_placeOf yX1_placeOf, Cond.initialized RX1, Cond.code yX1_placeOf cX1_placeOf 4 (some .int), Cond.methodLink RX1 85 yX1_tapeAt, Cond.instanceMethod yX1_tapeAt, Cond.selects RX1 yX1_tapeAt yX1_tapeAt, Cond.code yX1_tapeAt cX1_tapeAt 2 (some .int), Cond.fieldLink RX1 9 "AddressTexts" "tape" "[B", Cond.methodLink RX1 93 yX1_readSix, Cond.instanceMethod yX1_readSix, Cond.selects RX1 yX1_readSix yX1_readSix, Cond.code yX1_readSix cX1_readSix 5 (some .boolean), Cond.fieldLink RX1 33 "AddressTexts" "spare" "LAddressTexts$Address;", Cond.methodLink RX1 99 yX0_clear, Cond.instanceMethod yX0_clear, Cond.selects RX0 yX0_clear yX0_clear, Cond.initialized RX0, Cond.code yX0_clear cX0_clear 2 none, Cond.fieldLink RX0 9 "AddressTexts$Address" "family" "I", Cond.fieldLink RX0 15 "AddressTexts$Address" "prefixLength" "I", Cond.fieldLink RX0 18 "AddressTexts$Address" "upper" "J"]
def wsX1_readText_r2 : List Cond := [Cond.fieldLink RX0 22 "AddressTexts$Address" "lower" "J", Cond.methodLink RX0 25 yX0_wholeLength, Cond.instanceMethod yX0_wholeLength, Cond.selects RX0 yX0_wholeLength yX0_wholeLength, Cond.code yX0_wholeLength cX0_wholeLength 1 (some .int), Cond.methodLink RX1 102 yX1_placeOfGap, Cond.instanceMethod yX1_placeOfGap, Cond.selects RX1 yX1_placeOfGap yX1_placeOfGap, Cond.code yX1_placeOfGap cX1_placeOfGap 2 (some .int), Cond.methodLink RX1 105 yX1_partsIn, Cond.instanceMethod yX1_partsIn, Cond.selects RX1 yX1_partsIn yX1_partsIn, Cond.code yX1_partsIn cX1_partsIn 5 (some .int), Cond.methodLink RX1 109 yX1_readParts, Cond.instanceMethod yX1_readParts, Cond.selects RX1 yX1_readParts yX1_readParts, Cond.code yX1_readParts cX1_readParts 9 (some .boolean), Cond.methodLink RX1 113 Lib.Math.min.name, Cond.static Lib.Math.min.name, Cond.initialized "java/lang/Math", Cond.code Lib.Math.min.name Lib.Math.min.code 2 (some .int), Cond.methodLink RX1 118 yX1_hexadecimalIn, Cond.instanceMethod yX1_hexadecimalIn, Cond.selects RX1 yX1_hexadecimalIn yX1_hexadecimalIn]
def wsX1_readText_r3 : List Cond := [Cond.code yX1_hexadecimalIn cX1_hexadecimalIn 6 (some .int), Cond.methodLink RX1 125 yX1_digitAt, Cond.instanceMethod yX1_digitAt, Cond.selects RX1 yX1_digitAt yX1_digitAt, Cond.code yX1_digitAt cX1_digitAt 3 (some .int), Cond.methodLink RX1 121 yX0_setPart, Cond.instanceMethod yX0_setPart, Cond.selects RX0 yX0_setPart yX0_setPart, Cond.code yX0_setPart cX0_setPart 5 none, Cond.methodLink RX0 38 yX0_shiftOf, Cond.static yX0_shiftOf, Cond.code yX0_shiftOf cX0_shiftOf 1 (some .int), Cond.methodLink RX1 96 yX1_readFour, Cond.instanceMethod yX1_readFour, Cond.selects RX1 yX1_readFour yX1_readFour, Cond.code yX1_readFour cX1_readFour 5 (some .boolean), Cond.fieldLink RX1 66 "AddressTexts$Address" "lower" "J", Cond.methodLink RX1 51 yX1_decimalIn, Cond.instanceMethod yX1_decimalIn, Cond.selects RX1 yX1_decimalIn yX1_decimalIn, Cond.code yX1_decimalIn cX1_decimalIn 8 (some .int)]
def wsX1_readText : List Cond := .code yX1_readText cX1_readText 1 (some .boolean) :: ((wsX1_readText_r1 ++ (wsX1_readText_r2 ++ wsX1_readText_r3)) ++ wsX10 ++ wsX00)
def wsX1_read_r1 : List Cond := [Cond.fieldLink RX1 13 "AddressTexts" "tapeCount" "I", Cond.fieldLink RX1 30 "AddressTexts" "two" "LAddressTexts$Address;", Cond.fieldLink RX1 26 "AddressTexts" "one" "LAddressTexts$Address;", Cond.fieldLink RX1 33 "AddressTexts" "spare" "LAddressTexts$Address;", Cond.fieldLink RX1 44 "AddressTexts$Address" "family" "I", Cond.methodLink RX1 40 yX1_readText, Cond.instanceMethod yX1_readText, Cond.selects RX1 yX1_readText yX1_readText, Cond.initialized RX1, Cond.code yX1_readText cX1_readText 1 (some .boolean), Cond.methodLink RX1 89 yX1_placeOf, Cond.instanceMethod yX1_placeOf, Cond.selects RX1 yX1_placeOf yX1_placeOf, Cond.code yX1_placeOf cX1_placeOf 4 (some .int), Cond.methodLink RX1 85 yX1_tapeAt, Cond.instanceMethod yX1_tapeAt, Cond.selects RX1 yX1_tapeAt yX1_tapeAt, Cond.code yX1_tapeAt cX1_tapeAt 2 (some .int), Cond.fieldLink RX1 9 "AddressTexts" "tape" "[B", Cond.methodLink RX1 93 yX1_readSix, Cond.instanceMethod yX1_readSix, Cond.selects RX1 yX1_readSix yX1_readSix, Cond.code yX1_readSix cX1_readSix 5 (some .boolean), Cond.methodLink RX1 99 yX0_clear]
def wsX1_read_r2 : List Cond := [Cond.instanceMethod yX0_clear, Cond.selects RX0 yX0_clear yX0_clear, Cond.initialized RX0, Cond.code yX0_clear cX0_clear 2 none, Cond.fieldLink RX0 9 "AddressTexts$Address" "family" "I", Cond.fieldLink RX0 15 "AddressTexts$Address" "prefixLength" "I", Cond.fieldLink RX0 18 "AddressTexts$Address" "upper" "J", Cond.fieldLink RX0 22 "AddressTexts$Address" "lower" "J", Cond.methodLink RX0 25 yX0_wholeLength, Cond.instanceMethod yX0_wholeLength, Cond.selects RX0 yX0_wholeLength yX0_wholeLength, Cond.code yX0_wholeLength cX0_wholeLength 1 (some .int), Cond.methodLink RX1 102 yX1_placeOfGap, Cond.instanceMethod yX1_placeOfGap, Cond.selects RX1 yX1_placeOfGap yX1_placeOfGap, Cond.code yX1_placeOfGap cX1_placeOfGap 2 (some .int), Cond.methodLink RX1 105 yX1_partsIn, Cond.instanceMethod yX1_partsIn, Cond.selects RX1 yX1_partsIn yX1_partsIn, Cond.code yX1_partsIn cX1_partsIn 5 (some .int), Cond.methodLink RX1 109 yX1_readParts, Cond.instanceMethod yX1_readParts, Cond.selects RX1 yX1_readParts yX1_readParts, Cond.code yX1_readParts cX1_readParts 9 (some .boolean)]
def wsX1_read_r3 : List Cond := [Cond.methodLink RX1 113 Lib.Math.min.name, Cond.static Lib.Math.min.name, Cond.initialized "java/lang/Math", Cond.code Lib.Math.min.name Lib.Math.min.code 2 (some .int), Cond.methodLink RX1 118 yX1_hexadecimalIn, Cond.instanceMethod yX1_hexadecimalIn, Cond.selects RX1 yX1_hexadecimalIn yX1_hexadecimalIn, Cond.code yX1_hexadecimalIn cX1_hexadecimalIn 6 (some .int), Cond.methodLink RX1 125 yX1_digitAt, Cond.instanceMethod yX1_digitAt, Cond.selects RX1 yX1_digitAt yX1_digitAt, Cond.code yX1_digitAt cX1_digitAt 3 (some .int), Cond.methodLink RX1 121 yX0_setPart, Cond.instanceMethod yX0_setPart, Cond.selects RX0 yX0_setPart yX0_setPart, Cond.code yX0_setPart cX0_setPart 5 none, Cond.methodLink RX0 38 yX0_shiftOf, Cond.static yX0_shiftOf, Cond.code yX0_shiftOf cX0_shiftOf 1 (some .int), Cond.methodLink RX1 96 yX1_readFour, Cond.instanceMethod yX1_readFour, Cond.selects RX1 yX1_readFour yX1_readFour, Cond.code yX1_readFour cX1_readFour 5 (some .boolean), Cond.fieldLink RX1 66 "AddressTexts$Address" "lower" "J"]
def wsX1_read_r4 : List Cond := [Cond.methodLink RX1 51 yX1_decimalIn, Cond.instanceMethod yX1_decimalIn, Cond.selects RX1 yX1_decimalIn yX1_decimalIn, Cond.code yX1_decimalIn cX1_decimalIn 8 (some .int)]
def wsX1_read : List Cond := .code yX1_read cX1_read 3 (some .int) :: ((wsX1_read_r1 ++ (wsX1_read_r2 ++ (wsX1_read_r3 ++ wsX1_read_r4))) ++ wsX10 ++ wsX00)
def wsX1_length : List Cond := .code yX1_length cX1_length 2 (some .int) :: ([.fieldLink RX1 13 "AddressTexts" "tapeCount" "I", .fieldLink RX1 26 "AddressTexts" "one" "LAddressTexts$Address;", .fieldLink RX1 55 "AddressTexts$Address" "prefixLength" "I", .methodLink RX1 47 yX0_wholeLength, .instanceMethod yX0_wholeLength, .selects RX0 yX0_wholeLength yX0_wholeLength, .initialized RX0, .code yX0_wholeLength cX0_wholeLength 1 (some .int), .fieldLink RX0 9 "AddressTexts$Address" "family" "I", .methodLink RX1 51 yX1_decimalIn, .instanceMethod yX1_decimalIn, .selects RX1 yX1_decimalIn yX1_decimalIn, .initialized RX1, .code yX1_decimalIn cX1_decimalIn 8 (some .int), .methodLink RX1 85 yX1_tapeAt, .instanceMethod yX1_tapeAt, .selects RX1 yX1_tapeAt yX1_tapeAt, .code yX1_tapeAt cX1_tapeAt 2 (some .int), .fieldLink RX1 9 "AddressTexts" "tape" "[B", .methodLink RX1 125 yX1_digitAt, .instanceMethod yX1_digitAt, .selects RX1 yX1_digitAt yX1_digitAt, .code yX1_digitAt cX1_digitAt 3 (some .int)] ++ wsX10 ++ wsX00)
def wsX1_cut_r1 : List Cond := [Cond.fieldLink RX1 26 "AddressTexts" "one" "LAddressTexts$Address;", Cond.fieldLink RX1 58 "AddressTexts$Address" "upper" "J", Cond.fieldLink RX1 66 "AddressTexts$Address" "lower" "J", Cond.methodLink RX1 62 yX0_upperMask, Cond.instanceMethod yX0_upperMask, Cond.selects RX0 yX0_upperMask yX0_upperMask, Cond.initialized RX0, Cond.code yX0_upperMask cX0_upperMask 1 (some .long), Cond.methodLink RX0 29 yX0_keptOfAll, Cond.instanceMethod yX0_keptOfAll, Cond.selects RX0 yX0_keptOfAll yX0_keptOfAll, Cond.code yX0_keptOfAll cX0_keptOfAll 1 (some .int), Cond.fieldLink RX0 15 "AddressTexts$Address" "prefixLength" "I", Cond.methodLink RX0 25 yX0_wholeLength, Cond.instanceMethod yX0_wholeLength, Cond.selects RX0 yX0_wholeLength yX0_wholeLength, Cond.code yX0_wholeLength cX0_wholeLength 1 (some .int), Cond.fieldLink RX0 9 "AddressTexts$Address" "family" "I", Cond.methodLink RX0 32 yX0_highestBits, Cond.static yX0_highestBits, Cond.code yX0_highestBits cX0_highestBits 1 (some .long), Cond.constantLong RX0 36 (-1), Cond.methodLink RX1 69 yX0_lowerMask, Cond.instanceMethod yX0_lowerMask]
def wsX1_cut_r2 : List Cond := [Cond.selects RX0 yX0_lowerMask yX0_lowerMask, Cond.code yX0_lowerMask cX0_lowerMask 1 (some .long)]
def wsX1_cut : List Cond := .code yX1_cut cX1_cut 6 (some .boolean) :: ((wsX1_cut_r1 ++ wsX1_cut_r2) ++ wsX10 ++ wsX00)
def wsX1_covers_r1 : List Cond := [Cond.fieldLink RX1 26 "AddressTexts" "one" "LAddressTexts$Address;", Cond.fieldLink RX1 44 "AddressTexts$Address" "family" "I", Cond.fieldLink RX1 30 "AddressTexts" "two" "LAddressTexts$Address;", Cond.fieldLink RX1 55 "AddressTexts$Address" "prefixLength" "I", Cond.fieldLink RX1 58 "AddressTexts$Address" "upper" "J", Cond.fieldLink RX1 66 "AddressTexts$Address" "lower" "J", Cond.methodLink RX1 62 yX0_upperMask, Cond.instanceMethod yX0_upperMask, Cond.selects RX0 yX0_upperMask yX0_upperMask, Cond.initialized RX0, Cond.code yX0_upperMask cX0_upperMask 1 (some .long), Cond.methodLink RX0 29 yX0_keptOfAll, Cond.instanceMethod yX0_keptOfAll, Cond.selects RX0 yX0_keptOfAll yX0_keptOfAll, Cond.code yX0_keptOfAll cX0_keptOfAll 1 (some .int), Cond.fieldLink RX0 15 "AddressTexts$Address" "prefixLength" "I", Cond.methodLink RX0 25 yX0_wholeLength, Cond.instanceMethod yX0_wholeLength, Cond.selects RX0 yX0_wholeLength yX0_wholeLength, Cond.code yX0_wholeLength cX0_wholeLength 1 (some .int), Cond.fieldLink RX0 9 "AddressTexts$Address" "family" "I", Cond.methodLink RX0 32 yX0_highestBits, Cond.static yX0_highestBits, Cond.code yX0_highestBits cX0_highestBits 1 (some .long)]
def wsX1_covers_r2 : List Cond := [Cond.constantLong RX0 36 (-1), Cond.methodLink RX1 69 yX0_lowerMask, Cond.instanceMethod yX0_lowerMask, Cond.selects RX0 yX0_lowerMask yX0_lowerMask, Cond.code yX0_lowerMask cX0_lowerMask 1 (some .long)]
def wsX1_covers : List Cond := .code yX1_covers cX1_covers 1 (some .boolean) :: ((wsX1_covers_r1 ++ wsX1_covers_r2) ++ wsX10 ++ wsX00)
def wsX1_isBelow : List Cond := .code yX1_isBelow cX1_isBelow 4 (some .boolean) :: ([.constantLong RX1 149 (-9223372036854775808)])
def wsX1_order : List Cond := .code yX1_order cX1_order 1 (some .int) :: ([.fieldLink RX1 26 "AddressTexts" "one" "LAddressTexts$Address;", .fieldLink RX1 44 "AddressTexts$Address" "family" "I", .fieldLink RX1 30 "AddressTexts" "two" "LAddressTexts$Address;", .fieldLink RX1 58 "AddressTexts$Address" "upper" "J", .fieldLink RX1 66 "AddressTexts$Address" "lower" "J", .fieldLink RX1 55 "AddressTexts$Address" "prefixLength" "I", .methodLink RX1 72 yX1_isBelow, .static yX1_isBelow, .initialized RX1, .code yX1_isBelow cX1_isBelow 4 (some .boolean), .constantLong RX1 149 (-9223372036854775808)] ++ wsX10 ++ wsX00)
def wsX1_turn : List Cond := .code yX1_turn cX1_turn 2 none :: ([.fieldLink RX1 26 "AddressTexts" "one" "LAddressTexts$Address;", .fieldLink RX1 30 "AddressTexts" "two" "LAddressTexts$Address;"] ++ wsX10)
def wsX1_writeByte : List Cond := .code yX1_writeByte cX1_writeByte 2 none :: ([.fieldLink RX1 20 "AddressTexts" "writtenCount" "I", .fieldLink RX1 17 "AddressTexts" "written" "[B"] ++ wsX10)
def wsX1_writeDigit : List Cond := .code yX1_writeDigit cX1_writeDigit 2 none :: ([.methodLink RX1 128 yX1_writeByte, .instanceMethod yX1_writeByte, .selects RX1 yX1_writeByte yX1_writeByte, .initialized RX1, .code yX1_writeByte cX1_writeByte 2 none, .fieldLink RX1 20 "AddressTexts" "writtenCount" "I", .fieldLink RX1 17 "AddressTexts" "written" "[B"] ++ wsX10)
def wsX1_writeDecimal : List Cond := .code yX1_writeDecimal cX1_writeDecimal 2 none :: ([.methodLink RX1 146 yX1_writeDigit, .instanceMethod yX1_writeDigit, .selects RX1 yX1_writeDigit yX1_writeDigit, .initialized RX1, .code yX1_writeDigit cX1_writeDigit 2 none, .methodLink RX1 128 yX1_writeByte, .instanceMethod yX1_writeByte, .selects RX1 yX1_writeByte yX1_writeByte, .code yX1_writeByte cX1_writeByte 2 none, .fieldLink RX1 20 "AddressTexts" "writtenCount" "I", .fieldLink RX1 17 "AddressTexts" "written" "[B"] ++ wsX10)
def wsX1_writeNumbers : List Cond := .code yX1_writeNumbers cX1_writeNumbers 2 none :: ([.fieldLink RX1 26 "AddressTexts" "one" "LAddressTexts$Address;", .fieldLink RX1 66 "AddressTexts$Address" "lower" "J", .methodLink RX1 128 yX1_writeByte, .instanceMethod yX1_writeByte, .selects RX1 yX1_writeByte yX1_writeByte, .initialized RX1, .code yX1_writeByte cX1_writeByte 2 none, .fieldLink RX1 20 "AddressTexts" "writtenCount" "I", .fieldLink RX1 17 "AddressTexts" "written" "[B", .methodLink RX1 131 yX1_writeDecimal, .instanceMethod yX1_writeDecimal, .selects RX1 yX1_writeDecimal yX1_writeDecimal, .code yX1_writeDecimal cX1_writeDecimal 2 none, .methodLink RX1 146 yX1_writeDigit, .instanceMethod yX1_writeDigit, .selects RX1 yX1_writeDigit yX1_writeDigit, .code yX1_writeDigit cX1_writeDigit 2 none] ++ wsX10 ++ wsX00)
def wsX1_writeHexadecimal : List Cond := .code yX1_writeHexadecimal cX1_writeHexadecimal 3 none :: ([.methodLink RX1 146 yX1_writeDigit, .instanceMethod yX1_writeDigit, .selects RX1 yX1_writeDigit yX1_writeDigit, .initialized RX1, .code yX1_writeDigit cX1_writeDigit 2 none, .methodLink RX1 128 yX1_writeByte, .instanceMethod yX1_writeByte, .selects RX1 yX1_writeByte yX1_writeByte, .code yX1_writeByte cX1_writeByte 2 none, .fieldLink RX1 20 "AddressTexts" "writtenCount" "I", .fieldLink RX1 17 "AddressTexts" "written" "[B"] ++ wsX10)
def wsX1_writeParts_r1 : List Cond := [Cond.fieldLink RX1 26 "AddressTexts" "one" "LAddressTexts$Address;", Cond.methodLink RX1 134 yX0_longestRowOfZeros, Cond.instanceMethod yX0_longestRowOfZeros, Cond.selects RX0 yX0_longestRowOfZeros yX0_longestRowOfZeros, Cond.initialized RX0, Cond.code yX0_longestRowOfZeros cX0_longestRowOfZeros 5 (some .int), Cond.methodLink RX0 46 yX0_zerosFrom, Cond.instanceMethod yX0_zerosFrom, Cond.selects RX0 yX0_zerosFrom yX0_zerosFrom, Cond.code yX0_zerosFrom cX0_zerosFrom 3 (some .int), Cond.methodLink RX0 43 yX0_part, Cond.instanceMethod yX0_part, Cond.selects RX0 yX0_part yX0_part, Cond.code yX0_part cX0_part 4 (some .int), Cond.fieldLink RX0 18 "AddressTexts$Address" "upper" "J", Cond.fieldLink RX0 22 "AddressTexts$Address" "lower" "J", Cond.constant RX0 42 (65535), Cond.methodLink RX0 38 yX0_shiftOf, Cond.static yX0_shiftOf, Cond.code yX0_shiftOf cX0_shiftOf 1 (some .int), Cond.methodLink RX1 137 yX0_zerosFrom, Cond.methodLink RX1 128 yX1_writeByte, Cond.instanceMethod yX1_writeByte, Cond.selects RX1 yX1_writeByte yX1_writeByte]
def wsX1_writeParts_r2 : List Cond := [Cond.initialized RX1, Cond.code yX1_writeByte cX1_writeByte 2 none, Cond.fieldLink RX1 20 "AddressTexts" "writtenCount" "I", Cond.fieldLink RX1 17 "AddressTexts" "written" "[B", Cond.methodLink RX1 140 yX0_part, Cond.methodLink RX1 143 yX1_writeHexadecimal, Cond.instanceMethod yX1_writeHexadecimal, Cond.selects RX1 yX1_writeHexadecimal yX1_writeHexadecimal, Cond.code yX1_writeHexadecimal cX1_writeHexadecimal 3 none, Cond.methodLink RX1 146 yX1_writeDigit, Cond.instanceMethod yX1_writeDigit, Cond.selects RX1 yX1_writeDigit yX1_writeDigit, Cond.code yX1_writeDigit cX1_writeDigit 2 none]
def wsX1_writeParts : List Cond := .code yX1_writeParts cX1_writeParts 4 none :: ((wsX1_writeParts_r1 ++ wsX1_writeParts_r2) ++ wsX10 ++ wsX00)
def wsX1_write_r1 : List Cond := [Cond.fieldLink RX1 20 "AddressTexts" "writtenCount" "I", Cond.fieldLink RX1 26 "AddressTexts" "one" "LAddressTexts$Address;", Cond.fieldLink RX1 44 "AddressTexts$Address" "family" "I", Cond.methodLink RX1 76 yX1_writeNumbers, Cond.instanceMethod yX1_writeNumbers, Cond.selects RX1 yX1_writeNumbers yX1_writeNumbers, Cond.initialized RX1, Cond.code yX1_writeNumbers cX1_writeNumbers 2 none, Cond.fieldLink RX1 66 "AddressTexts$Address" "lower" "J", Cond.methodLink RX1 128 yX1_writeByte, Cond.instanceMethod yX1_writeByte, Cond.selects RX1 yX1_writeByte yX1_writeByte, Cond.code yX1_writeByte cX1_writeByte 2 none, Cond.fieldLink RX1 17 "AddressTexts" "written" "[B", Cond.methodLink RX1 131 yX1_writeDecimal, Cond.instanceMethod yX1_writeDecimal, Cond.selects RX1 yX1_writeDecimal yX1_writeDecimal, Cond.code yX1_writeDecimal cX1_writeDecimal 2 none, Cond.methodLink RX1 146 yX1_writeDigit, Cond.instanceMethod yX1_writeDigit, Cond.selects RX1 yX1_writeDigit yX1_writeDigit, Cond.code yX1_writeDigit cX1_writeDigit 2 none, Cond.methodLink RX1 79 yX1_writeParts, Cond.instanceMethod yX1_writeParts]
def wsX1_write_r2 : List Cond := [Cond.selects RX1 yX1_writeParts yX1_writeParts, Cond.code yX1_writeParts cX1_writeParts 4 none, Cond.methodLink RX1 134 yX0_longestRowOfZeros, Cond.instanceMethod yX0_longestRowOfZeros, Cond.selects RX0 yX0_longestRowOfZeros yX0_longestRowOfZeros, Cond.initialized RX0, Cond.code yX0_longestRowOfZeros cX0_longestRowOfZeros 5 (some .int), Cond.methodLink RX0 46 yX0_zerosFrom, Cond.instanceMethod yX0_zerosFrom, Cond.selects RX0 yX0_zerosFrom yX0_zerosFrom, Cond.code yX0_zerosFrom cX0_zerosFrom 3 (some .int), Cond.methodLink RX0 43 yX0_part, Cond.instanceMethod yX0_part, Cond.selects RX0 yX0_part yX0_part, Cond.code yX0_part cX0_part 4 (some .int), Cond.fieldLink RX0 18 "AddressTexts$Address" "upper" "J", Cond.fieldLink RX0 22 "AddressTexts$Address" "lower" "J", Cond.constant RX0 42 (65535), Cond.methodLink RX0 38 yX0_shiftOf, Cond.static yX0_shiftOf, Cond.code yX0_shiftOf cX0_shiftOf 1 (some .int), Cond.methodLink RX1 137 yX0_zerosFrom, Cond.methodLink RX1 140 yX0_part, Cond.methodLink RX1 143 yX1_writeHexadecimal]
def wsX1_write_r3 : List Cond := [Cond.instanceMethod yX1_writeHexadecimal, Cond.selects RX1 yX1_writeHexadecimal yX1_writeHexadecimal, Cond.code yX1_writeHexadecimal cX1_writeHexadecimal 3 none]
def wsX1_write : List Cond := .code yX1_write cX1_write 1 (some .int) :: ((wsX1_write_r1 ++ (wsX1_write_r2 ++ wsX1_write_r3)) ++ wsX10 ++ wsX00)
def wsX1_writtenAt : List Cond := .code yX1_writtenAt cX1_writtenAt 2 (some .int) :: ([.fieldLink RX1 20 "AddressTexts" "writtenCount" "I", .fieldLink RX1 17 "AddressTexts" "written" "[B"] ++ wsX10)
def wsX1_bits : List Cond := .code yX1_bits cX1_bits 2 (some .long) :: ([.fieldLink RX1 26 "AddressTexts" "one" "LAddressTexts$Address;", .fieldLink RX1 58 "AddressTexts$Address" "upper" "J", .fieldLink RX1 66 "AddressTexts$Address" "lower" "J"] ++ wsX10 ++ wsX00)
theorem dX0_init_0 : decode cX0_init 0 = .ok (.aload_n 0, 1) := by decide +kernel
theorem dX0_init_1 : decode cX0_init 1 = .ok (.invokespecial 3, 3) := by decide +kernel
theorem dX0_init_4 : decode cX0_init 4 = .ok (.aload_n 0, 1) := by decide +kernel
theorem dX0_init_5 : decode cX0_init 5 = .ok (.iconst 4, 1) := by decide +kernel
theorem dX0_init_6 : decode cX0_init 6 = .ok (.putfield 9, 3) := by decide +kernel
theorem dX0_init_9 : decode cX0_init 9 = .ok (.aload_n 0, 1) := by decide +kernel
theorem dX0_init_10 : decode cX0_init 10 = .ok (.bipush 32, 2) := by decide +kernel
theorem dX0_init_12 : decode cX0_init 12 = .ok (.putfield 15, 3) := by decide +kernel
theorem dX0_init_15 : decode cX0_init 15 = .ok (.aload_n 0, 1) := by decide +kernel
theorem dX0_init_16 : decode cX0_init 16 = .ok (.lconst 0, 1) := by decide +kernel
theorem dX0_init_17 : decode cX0_init 17 = .ok (.putfield 18, 3) := by decide +kernel
theorem dX0_init_20 : decode cX0_init 20 = .ok (.aload_n 0, 1) := by decide +kernel
theorem dX0_init_21 : decode cX0_init 21 = .ok (.lconst 0, 1) := by decide +kernel
theorem dX0_init_22 : decode cX0_init 22 = .ok (.putfield 22, 3) := by decide +kernel
theorem dX0_init_25 : decode cX0_init 25 = .ok (.return_, 1) := by decide +kernel
set_option maxRecDepth 20000 in
theorem ggX0_clear_X0_wholeLength : GoodIn wsX0_clear wsX0_wholeLength := goodIn_r _ [9, 1, 10, 11, 12, 13] (by decide +kernel) (by decide +kernel)
set_option maxRecDepth 20000 in
theorem gX0_clear_X0_wholeLength : GoodIn wsX0_clear (wsV RX0 25 RX0 yX0_wholeLength wsX0_wholeLength) := goodIn_app (goodIn_of _ (by decide +kernel)) ggX0_clear_X0_wholeLength
theorem dX0_clear_0 : decode cX0_clear 0 = .ok (.aload_n 0, 1) := by decide +kernel
theorem dX0_clear_1 : decode cX0_clear 1 = .ok (.iload_n 1, 1) := by decide +kernel
theorem dX0_clear_2 : decode cX0_clear 2 = .ok (.putfield 9, 3) := by decide +kernel
theorem dX0_clear_5 : decode cX0_clear 5 = .ok (.aload_n 0, 1) := by decide +kernel
theorem dX0_clear_6 : decode cX0_clear 6 = .ok (.aload_n 0, 1) := by decide +kernel
theorem dX0_clear_7 : decode cX0_clear 7 = .ok (.invokevirtual 25, 3) := by decide +kernel
theorem dX0_clear_10 : decode cX0_clear 10 = .ok (.putfield 15, 3) := by decide +kernel
theorem dX0_clear_13 : decode cX0_clear 13 = .ok (.aload_n 0, 1) := by decide +kernel
theorem dX0_clear_14 : decode cX0_clear 14 = .ok (.lconst 0, 1) := by decide +kernel
theorem dX0_clear_15 : decode cX0_clear 15 = .ok (.putfield 18, 3) := by decide +kernel
theorem dX0_clear_18 : decode cX0_clear 18 = .ok (.aload_n 0, 1) := by decide +kernel
theorem dX0_clear_19 : decode cX0_clear 19 = .ok (.lconst 0, 1) := by decide +kernel
theorem dX0_clear_20 : decode cX0_clear 20 = .ok (.putfield 22, 3) := by decide +kernel
theorem dX0_clear_23 : decode cX0_clear 23 = .ok (.return_, 1) := by decide +kernel
theorem dX0_wholeLength_0 : decode cX0_wholeLength 0 = .ok (.aload_n 0, 1) := by decide +kernel
theorem dX0_wholeLength_1 : decode cX0_wholeLength 1 = .ok (.getfield 9, 3) := by decide +kernel
theorem dX0_wholeLength_4 : decode cX0_wholeLength 4 = .ok (.iconst 4, 1) := by decide +kernel
theorem dX0_wholeLength_5 : decode cX0_wholeLength 5 = .ok (.if_icmp .ne 8, 3) := by decide +kernel
theorem dX0_wholeLength_8 : decode cX0_wholeLength 8 = .ok (.bipush 32, 2) := by decide +kernel
theorem dX0_wholeLength_10 : decode cX0_wholeLength 10 = .ok (.goto 6, 3) := by decide +kernel
theorem dX0_wholeLength_13 : decode cX0_wholeLength 13 = .ok (.sipush 128, 3) := by decide +kernel
theorem dX0_wholeLength_16 : decode cX0_wholeLength 16 = .ok (.ireturn, 1) := by decide +kernel
set_option maxRecDepth 20000 in
theorem ggX0_upperMask_X0_keptOfAll : GoodIn wsX0_upperMask wsX0_keptOfAll := goodIn_r _ [5, 6, 7, 8, 9, 4, 10, 11, 16, 17, 18, 19] (by decide +kernel) (by decide +kernel)
set_option maxRecDepth 20000 in
theorem gX0_upperMask_X0_keptOfAll : GoodIn wsX0_upperMask (wsV RX0 29 RX0 yX0_keptOfAll wsX0_keptOfAll) := goodIn_app (goodIn_of _ (by decide +kernel)) ggX0_upperMask_X0_keptOfAll
set_option maxRecDepth 20000 in
theorem ggX0_upperMask_X0_highestBits : GoodIn wsX0_upperMask wsX0_highestBits := goodIn_r _ [14, 15] (by decide +kernel) (by decide +kernel)
set_option maxRecDepth 20000 in
theorem gX0_upperMask_X0_highestBits : GoodIn wsX0_upperMask (va_wsS RX0 32 yX0_highestBits wsX0_highestBits) := goodIn_app (goodIn_of _ (by decide +kernel)) ggX0_upperMask_X0_highestBits
theorem dX0_upperMask_0 : decode cX0_upperMask 0 = .ok (.aload_n 0, 1) := by decide +kernel
theorem dX0_upperMask_1 : decode cX0_upperMask 1 = .ok (.invokevirtual 29, 3) := by decide +kernel
theorem dX0_upperMask_4 : decode cX0_upperMask 4 = .ok (.invokestatic 32, 3) := by decide +kernel
theorem dX0_upperMask_7 : decode cX0_upperMask 7 = .ok (.lreturn, 1) := by decide +kernel
set_option maxRecDepth 20000 in
theorem ggX0_lowerMask_X0_keptOfAll : GoodIn wsX0_lowerMask wsX0_keptOfAll := goodIn_r _ [5, 6, 7, 8, 9, 4, 10, 11, 16, 17, 18, 19] (by decide +kernel) (by decide +kernel)
set_option maxRecDepth 20000 in
theorem gX0_lowerMask_X0_keptOfAll : GoodIn wsX0_lowerMask (wsV RX0 29 RX0 yX0_keptOfAll wsX0_keptOfAll) := goodIn_app (goodIn_of _ (by decide +kernel)) ggX0_lowerMask_X0_keptOfAll
set_option maxRecDepth 20000 in
theorem ggX0_lowerMask_X0_highestBits : GoodIn wsX0_lowerMask wsX0_highestBits := goodIn_r _ [14, 15] (by decide +kernel) (by decide +kernel)
set_option maxRecDepth 20000 in
theorem gX0_lowerMask_X0_highestBits : GoodIn wsX0_lowerMask (va_wsS RX0 32 yX0_highestBits wsX0_highestBits) := goodIn_app (goodIn_of _ (by decide +kernel)) ggX0_lowerMask_X0_highestBits
theorem dX0_lowerMask_0 : decode cX0_lowerMask 0 = .ok (.aload_n 0, 1) := by decide +kernel
theorem dX0_lowerMask_1 : decode cX0_lowerMask 1 = .ok (.invokevirtual 29, 3) := by decide +kernel
theorem dX0_lowerMask_4 : decode cX0_lowerMask 4 = .ok (.bipush 64, 2) := by decide +kernel
theorem dX0_lowerMask_6 : decode cX0_lowerMask 6 = .ok (.isub, 1) := by decide +kernel
theorem dX0_lowerMask_7 : decode cX0_lowerMask 7 = .ok (.invokestatic 32, 3) := by decide +kernel
theorem dX0_lowerMask_10 : decode cX0_lowerMask 10 = .ok (.lreturn, 1) := by decide +kernel
set_option maxRecDepth 20000 in
theorem ggX0_keptOfAll_X0_wholeLength : GoodIn wsX0_keptOfAll wsX0_wholeLength := goodIn_r _ [6, 7, 8, 9, 10, 11] (by decide +kernel) (by decide +kernel)
set_option maxRecDepth 20000 in
theorem gX0_keptOfAll_X0_wholeLength : GoodIn wsX0_keptOfAll (wsV RX0 25 RX0 yX0_wholeLength wsX0_wholeLength) := goodIn_app (goodIn_of _ (by decide +kernel)) ggX0_keptOfAll_X0_wholeLength
theorem dX0_keptOfAll_0 : decode cX0_keptOfAll 0 = .ok (.sipush 128, 3) := by decide +kernel
theorem dX0_keptOfAll_3 : decode cX0_keptOfAll 3 = .ok (.aload_n 0, 1) := by decide +kernel
theorem dX0_keptOfAll_4 : decode cX0_keptOfAll 4 = .ok (.invokevirtual 25, 3) := by decide +kernel
theorem dX0_keptOfAll_7 : decode cX0_keptOfAll 7 = .ok (.isub, 1) := by decide +kernel
theorem dX0_keptOfAll_8 : decode cX0_keptOfAll 8 = .ok (.aload_n 0, 1) := by decide +kernel
theorem dX0_keptOfAll_9 : decode cX0_keptOfAll 9 = .ok (.getfield 15, 3) := by decide +kernel
theorem dX0_keptOfAll_12 : decode cX0_keptOfAll 12 = .ok (.iadd, 1) := by decide +kernel
theorem dX0_keptOfAll_13 : decode cX0_keptOfAll 13 = .ok (.ireturn, 1) := by decide +kernel
theorem dX0_highestBits_0 : decode cX0_highestBits 0 = .ok (.iload_n 0, 1) := by decide +kernel
theorem dX0_highestBits_1 : decode cX0_highestBits 1 = .ok (.ifCond .gt 5, 3) := by decide +kernel
theorem dX0_highestBits_4 : decode cX0_highestBits 4 = .ok (.lconst 0, 1) := by decide +kernel
theorem dX0_highestBits_5 : decode cX0_highestBits 5 = .ok (.lreturn, 1) := by decide +kernel
theorem dX0_highestBits_6 : decode cX0_highestBits 6 = .ok (.iload_n 0, 1) := by decide +kernel
theorem dX0_highestBits_7 : decode cX0_highestBits 7 = .ok (.bipush 64, 2) := by decide +kernel
theorem dX0_highestBits_9 : decode cX0_highestBits 9 = .ok (.if_icmp .lt 9, 3) := by decide +kernel
theorem dX0_highestBits_12 : decode cX0_highestBits 12 = .ok (.ldc2_w 36, 3) := by decide +kernel
theorem dX0_highestBits_15 : decode cX0_highestBits 15 = .ok (.goto 11, 3) := by decide +kernel
theorem dX0_highestBits_18 : decode cX0_highestBits 18 = .ok (.ldc2_w 36, 3) := by decide +kernel
theorem dX0_highestBits_21 : decode cX0_highestBits 21 = .ok (.bipush 64, 2) := by decide +kernel
theorem dX0_highestBits_23 : decode cX0_highestBits 23 = .ok (.iload_n 0, 1) := by decide +kernel
theorem dX0_highestBits_24 : decode cX0_highestBits 24 = .ok (.isub, 1) := by decide +kernel
theorem dX0_highestBits_25 : decode cX0_highestBits 25 = .ok (.lshl, 1) := by decide +kernel
theorem dX0_highestBits_26 : decode cX0_highestBits 26 = .ok (.lreturn, 1) := by decide +kernel
set_option maxRecDepth 20000 in
theorem ggX0_part_X0_shiftOf : GoodIn wsX0_part wsX0_shiftOf := goodIn_r _ [7] (by decide +kernel) (by decide +kernel)
set_option maxRecDepth 20000 in
theorem gX0_part_X0_shiftOf : GoodIn wsX0_part (va_wsS RX0 38 yX0_shiftOf wsX0_shiftOf) := goodIn_app (goodIn_of _ (by decide +kernel)) ggX0_part_X0_shiftOf
theorem dX0_part_0 : decode cX0_part 0 = .ok (.iload_n 1, 1) := by decide +kernel
theorem dX0_part_1 : decode cX0_part 1 = .ok (.iconst 4, 1) := by decide +kernel
theorem dX0_part_2 : decode cX0_part 2 = .ok (.if_icmp .ge 10, 3) := by decide +kernel
theorem dX0_part_5 : decode cX0_part 5 = .ok (.aload_n 0, 1) := by decide +kernel
theorem dX0_part_6 : decode cX0_part 6 = .ok (.getfield 18, 3) := by decide +kernel
theorem dX0_part_9 : decode cX0_part 9 = .ok (.goto 7, 3) := by decide +kernel
theorem dX0_part_12 : decode cX0_part 12 = .ok (.aload_n 0, 1) := by decide +kernel
theorem dX0_part_13 : decode cX0_part 13 = .ok (.getfield 22, 3) := by decide +kernel
theorem dX0_part_16 : decode cX0_part 16 = .ok (.lstore_n 2, 1) := by decide +kernel
theorem dX0_part_17 : decode cX0_part 17 = .ok (.lload_n 2, 1) := by decide +kernel
theorem dX0_part_18 : decode cX0_part 18 = .ok (.iload_n 1, 1) := by decide +kernel
theorem dX0_part_19 : decode cX0_part 19 = .ok (.invokestatic 38, 3) := by decide +kernel
theorem dX0_part_22 : decode cX0_part 22 = .ok (.lushr, 1) := by decide +kernel
theorem dX0_part_23 : decode cX0_part 23 = .ok (.l2i, 1) := by decide +kernel
theorem dX0_part_24 : decode cX0_part 24 = .ok (.ldc 42, 2) := by decide +kernel
theorem dX0_part_26 : decode cX0_part 26 = .ok (.iand, 1) := by decide +kernel
theorem dX0_part_27 : decode cX0_part 27 = .ok (.ireturn, 1) := by decide +kernel
set_option maxRecDepth 20000 in
theorem ggX0_setPart_X0_shiftOf : GoodIn wsX0_setPart wsX0_shiftOf := goodIn_r _ [6] (by decide +kernel) (by decide +kernel)
set_option maxRecDepth 20000 in
theorem gX0_setPart_X0_shiftOf : GoodIn wsX0_setPart (va_wsS RX0 38 yX0_shiftOf wsX0_shiftOf) := goodIn_app (goodIn_of _ (by decide +kernel)) ggX0_setPart_X0_shiftOf
theorem dX0_setPart_0 : decode cX0_setPart 0 = .ok (.iload_n 2, 1) := by decide +kernel
theorem dX0_setPart_1 : decode cX0_setPart 1 = .ok (.i2l, 1) := by decide +kernel
theorem dX0_setPart_2 : decode cX0_setPart 2 = .ok (.iload_n 1, 1) := by decide +kernel
theorem dX0_setPart_3 : decode cX0_setPart 3 = .ok (.invokestatic 38, 3) := by decide +kernel
theorem dX0_setPart_6 : decode cX0_setPart 6 = .ok (.lshl, 1) := by decide +kernel
theorem dX0_setPart_7 : decode cX0_setPart 7 = .ok (.lstore_n 3, 1) := by decide +kernel
theorem dX0_setPart_8 : decode cX0_setPart 8 = .ok (.iload_n 1, 1) := by decide +kernel
theorem dX0_setPart_9 : decode cX0_setPart 9 = .ok (.iconst 4, 1) := by decide +kernel
theorem dX0_setPart_10 : decode cX0_setPart 10 = .ok (.if_icmp .ge 16, 3) := by decide +kernel
theorem dX0_setPart_13 : decode cX0_setPart 13 = .ok (.aload_n 0, 1) := by decide +kernel
theorem dX0_setPart_14 : decode cX0_setPart 14 = .ok (.dup, 1) := by decide +kernel
theorem dX0_setPart_15 : decode cX0_setPart 15 = .ok (.getfield 18, 3) := by decide +kernel
theorem dX0_setPart_18 : decode cX0_setPart 18 = .ok (.lload_n 3, 1) := by decide +kernel
theorem dX0_setPart_19 : decode cX0_setPart 19 = .ok (.lor, 1) := by decide +kernel
theorem dX0_setPart_20 : decode cX0_setPart 20 = .ok (.putfield 18, 3) := by decide +kernel
theorem dX0_setPart_23 : decode cX0_setPart 23 = .ok (.goto 13, 3) := by decide +kernel
theorem dX0_setPart_26 : decode cX0_setPart 26 = .ok (.aload_n 0, 1) := by decide +kernel
theorem dX0_setPart_27 : decode cX0_setPart 27 = .ok (.dup, 1) := by decide +kernel
theorem dX0_setPart_28 : decode cX0_setPart 28 = .ok (.getfield 22, 3) := by decide +kernel
theorem dX0_setPart_31 : decode cX0_setPart 31 = .ok (.lload_n 3, 1) := by decide +kernel
theorem dX0_setPart_32 : decode cX0_setPart 32 = .ok (.lor, 1) := by decide +kernel
theorem dX0_setPart_33 : decode cX0_setPart 33 = .ok (.putfield 22, 3) := by decide +kernel
theorem dX0_setPart_36 : decode cX0_setPart 36 = .ok (.return_, 1) := by decide +kernel
theorem dX0_shiftOf_0 : decode cX0_shiftOf 0 = .ok (.bipush 48, 2) := by decide +kernel
theorem dX0_shiftOf_2 : decode cX0_shiftOf 2 = .ok (.bipush 16, 2) := by decide +kernel
theorem dX0_shiftOf_4 : decode cX0_shiftOf 4 = .ok (.iload_n 0, 1) := by decide +kernel
theorem dX0_shiftOf_5 : decode cX0_shiftOf 5 = .ok (.iconst 3, 1) := by decide +kernel
theorem dX0_shiftOf_6 : decode cX0_shiftOf 6 = .ok (.iand, 1) := by decide +kernel
theorem dX0_shiftOf_7 : decode cX0_shiftOf 7 = .ok (.imul, 1) := by decide +kernel
theorem dX0_shiftOf_8 : decode cX0_shiftOf 8 = .ok (.isub, 1) := by decide +kernel
theorem dX0_shiftOf_9 : decode cX0_shiftOf 9 = .ok (.ireturn, 1) := by decide +kernel
set_option maxRecDepth 20000 in
theorem ggX0_zerosFrom_X0_part : GoodIn wsX0_zerosFrom wsX0_part := goodIn_r _ [5, 6, 7, 8, 9, 10, 4, 11, 12, 13, 14, 15] (by decide +kernel) (by decide +kernel)
set_option maxRecDepth 20000 in
theorem gX0_zerosFrom_X0_part : GoodIn wsX0_zerosFrom (wsV RX0 43 RX0 yX0_part wsX0_part) := goodIn_app (goodIn_of _ (by decide +kernel)) ggX0_zerosFrom_X0_part
theorem dX0_zerosFrom_0 : decode cX0_zerosFrom 0 = .ok (.iload_n 1, 1) := by decide +kernel
theorem dX0_zerosFrom_1 : decode cX0_zerosFrom 1 = .ok (.istore_n 2, 1) := by decide +kernel
theorem dX0_zerosFrom_2 : decode cX0_zerosFrom 2 = .ok (.iload_n 2, 1) := by decide +kernel
theorem dX0_zerosFrom_3 : decode cX0_zerosFrom 3 = .ok (.bipush 8, 2) := by decide +kernel
theorem dX0_zerosFrom_5 : decode cX0_zerosFrom 5 = .ok (.if_icmp .ge 17, 3) := by decide +kernel
theorem dX0_zerosFrom_8 : decode cX0_zerosFrom 8 = .ok (.aload_n 0, 1) := by decide +kernel
theorem dX0_zerosFrom_9 : decode cX0_zerosFrom 9 = .ok (.iload_n 2, 1) := by decide +kernel
theorem dX0_zerosFrom_10 : decode cX0_zerosFrom 10 = .ok (.invokevirtual 43, 3) := by decide +kernel
theorem dX0_zerosFrom_13 : decode cX0_zerosFrom 13 = .ok (.ifCond .ne 9, 3) := by decide +kernel
theorem dX0_zerosFrom_16 : decode cX0_zerosFrom 16 = .ok (.iinc 2 1, 3) := by decide +kernel
theorem dX0_zerosFrom_19 : decode cX0_zerosFrom 19 = .ok (.goto (-17), 3) := by decide +kernel
theorem dX0_zerosFrom_22 : decode cX0_zerosFrom 22 = .ok (.iload_n 2, 1) := by decide +kernel
theorem dX0_zerosFrom_23 : decode cX0_zerosFrom 23 = .ok (.iload_n 1, 1) := by decide +kernel
theorem dX0_zerosFrom_24 : decode cX0_zerosFrom 24 = .ok (.isub, 1) := by decide +kernel
theorem dX0_zerosFrom_25 : decode cX0_zerosFrom 25 = .ok (.ireturn, 1) := by decide +kernel
set_option maxRecDepth 20000 in
theorem ggX0_longestRowOfZeros_X0_zerosFrom : GoodIn wsX0_longestRowOfZeros wsX0_zerosFrom := goodIn_r _ [5, 6, 7, 8, 4, 9, 10, 11, 12, 13, 14, 15, 16, 17, 18, 19] (by decide +kernel) (by decide +kernel)
set_option maxRecDepth 20000 in
theorem gX0_longestRowOfZeros_X0_zerosFrom : GoodIn wsX0_longestRowOfZeros (wsV RX0 46 RX0 yX0_zerosFrom wsX0_zerosFrom) := goodIn_app (goodIn_of _ (by decide +kernel)) ggX0_longestRowOfZeros_X0_zerosFrom
theorem dX0_longestRowOfZeros_0 : decode cX0_longestRowOfZeros 0 = .ok (.bipush 8, 2) := by decide +kernel
theorem dX0_longestRowOfZeros_2 : decode cX0_longestRowOfZeros 2 = .ok (.istore_n 1, 1) := by decide +kernel
theorem dX0_longestRowOfZeros_3 : decode cX0_longestRowOfZeros 3 = .ok (.iconst 1, 1) := by decide +kernel
theorem dX0_longestRowOfZeros_4 : decode cX0_longestRowOfZeros 4 = .ok (.istore_n 2, 1) := by decide +kernel
theorem dX0_longestRowOfZeros_5 : decode cX0_longestRowOfZeros 5 = .ok (.iconst 0, 1) := by decide +kernel
theorem dX0_longestRowOfZeros_6 : decode cX0_longestRowOfZeros 6 = .ok (.istore_n 3, 1) := by decide +kernel
theorem dX0_longestRowOfZeros_7 : decode cX0_longestRowOfZeros 7 = .ok (.iload_n 3, 1) := by decide +kernel
theorem dX0_longestRowOfZeros_8 : decode cX0_longestRowOfZeros 8 = .ok (.bipush 8, 2) := by decide +kernel
theorem dX0_longestRowOfZeros_10 : decode cX0_longestRowOfZeros 10 = .ok (.if_icmp .ge 27, 3) := by decide +kernel
theorem dX0_longestRowOfZeros_13 : decode cX0_longestRowOfZeros 13 = .ok (.aload_n 0, 1) := by decide +kernel
theorem dX0_longestRowOfZeros_14 : decode cX0_longestRowOfZeros 14 = .ok (.iload_n 3, 1) := by decide +kernel
theorem dX0_longestRowOfZeros_15 : decode cX0_longestRowOfZeros 15 = .ok (.invokevirtual 46, 3) := by decide +kernel
theorem dX0_longestRowOfZeros_18 : decode cX0_longestRowOfZeros 18 = .ok (.istore 4, 2) := by decide +kernel
theorem dX0_longestRowOfZeros_20 : decode cX0_longestRowOfZeros 20 = .ok (.iload 4, 2) := by decide +kernel
theorem dX0_longestRowOfZeros_22 : decode cX0_longestRowOfZeros 22 = .ok (.iload_n 2, 1) := by decide +kernel
theorem dX0_longestRowOfZeros_23 : decode cX0_longestRowOfZeros 23 = .ok (.if_icmp .le 8, 3) := by decide +kernel
theorem dX0_longestRowOfZeros_26 : decode cX0_longestRowOfZeros 26 = .ok (.iload_n 3, 1) := by decide +kernel
theorem dX0_longestRowOfZeros_27 : decode cX0_longestRowOfZeros 27 = .ok (.istore_n 1, 1) := by decide +kernel
theorem dX0_longestRowOfZeros_28 : decode cX0_longestRowOfZeros 28 = .ok (.iload 4, 2) := by decide +kernel
theorem dX0_longestRowOfZeros_30 : decode cX0_longestRowOfZeros 30 = .ok (.istore_n 2, 1) := by decide +kernel
theorem dX0_longestRowOfZeros_31 : decode cX0_longestRowOfZeros 31 = .ok (.iinc 3 1, 3) := by decide +kernel
theorem dX0_longestRowOfZeros_34 : decode cX0_longestRowOfZeros 34 = .ok (.goto (-27), 3) := by decide +kernel
theorem dX0_longestRowOfZeros_37 : decode cX0_longestRowOfZeros 37 = .ok (.iload_n 1, 1) := by decide +kernel
theorem dX0_longestRowOfZeros_38 : decode cX0_longestRowOfZeros 38 = .ok (.ireturn, 1) := by decide +kernel
set_option maxRecDepth 20000 in
theorem ggX1_init_X0_init : GoodIn wsX1_init wsX0_init := goodIn_r _ [17, 18, 2, 3, 19, 20, 21, 22, 30, 31, 32, 33] (by decide +kernel) (by decide +kernel)
set_option maxRecDepth 20000 in
theorem gX1_init_X0_init : GoodIn wsX1_init (wsX0_init) := ggX1_init_X0_init
theorem dX1_init_0 : decode cX1_init 0 = .ok (.aload_n 0, 1) := by decide +kernel
theorem dX1_init_1 : decode cX1_init 1 = .ok (.invokespecial 1, 3) := by decide +kernel
theorem dX1_init_4 : decode cX1_init 4 = .ok (.aload_n 0, 1) := by decide +kernel
theorem dX1_init_5 : decode cX1_init 5 = .ok (.bipush 60, 2) := by decide +kernel
theorem dX1_init_7 : decode cX1_init 7 = .ok (.newarray .byte, 2) := by decide +kernel
theorem dX1_init_9 : decode cX1_init 9 = .ok (.putfield 9, 3) := by decide +kernel
theorem dX1_init_12 : decode cX1_init 12 = .ok (.aload_n 0, 1) := by decide +kernel
theorem dX1_init_13 : decode cX1_init 13 = .ok (.iconst 0, 1) := by decide +kernel
theorem dX1_init_14 : decode cX1_init 14 = .ok (.putfield 13, 3) := by decide +kernel
theorem dX1_init_17 : decode cX1_init 17 = .ok (.aload_n 0, 1) := by decide +kernel
theorem dX1_init_18 : decode cX1_init 18 = .ok (.bipush 39, 2) := by decide +kernel
theorem dX1_init_20 : decode cX1_init 20 = .ok (.newarray .byte, 2) := by decide +kernel
theorem dX1_init_22 : decode cX1_init 22 = .ok (.putfield 17, 3) := by decide +kernel
theorem dX1_init_25 : decode cX1_init 25 = .ok (.aload_n 0, 1) := by decide +kernel
theorem dX1_init_26 : decode cX1_init 26 = .ok (.iconst 0, 1) := by decide +kernel
theorem dX1_init_27 : decode cX1_init 27 = .ok (.putfield 20, 3) := by decide +kernel
theorem dX1_init_30 : decode cX1_init 30 = .ok (.aload_n 0, 1) := by decide +kernel
theorem dX1_init_31 : decode cX1_init 31 = .ok (.new 23, 3) := by decide +kernel
theorem dX1_init_34 : decode cX1_init 34 = .ok (.dup, 1) := by decide +kernel
theorem dX1_init_35 : decode cX1_init 35 = .ok (.invokespecial 25, 3) := by decide +kernel
theorem dX1_init_38 : decode cX1_init 38 = .ok (.putfield 26, 3) := by decide +kernel
theorem dX1_init_41 : decode cX1_init 41 = .ok (.aload_n 0, 1) := by decide +kernel
theorem dX1_init_42 : decode cX1_init 42 = .ok (.new 23, 3) := by decide +kernel
theorem dX1_init_45 : decode cX1_init 45 = .ok (.dup, 1) := by decide +kernel
theorem dX1_init_46 : decode cX1_init 46 = .ok (.invokespecial 25, 3) := by decide +kernel
theorem dX1_init_49 : decode cX1_init 49 = .ok (.putfield 30, 3) := by decide +kernel
theorem dX1_init_52 : decode cX1_init 52 = .ok (.aload_n 0, 1) := by decide +kernel
theorem dX1_init_53 : decode cX1_init 53 = .ok (.new 23, 3) := by decide +kernel
theorem dX1_init_56 : decode cX1_init 56 = .ok (.dup, 1) := by decide +kernel
theorem dX1_init_57 : decode cX1_init 57 = .ok (.invokespecial 25, 3) := by decide +kernel
theorem dX1_init_60 : decode cX1_init 60 = .ok (.putfield 33, 3) := by decide +kernel
theorem dX1_init_63 : decode cX1_init 63 = .ok (.return_, 1) := by decide +kernel
set_option maxRecDepth 20000 in
theorem ggX1_feed_X1_tapeNumber : GoodIn wsX1_feed wsX1_tapeNumber := goodIn_r _ [6, 7, 8, 9, 5, 10, 1, 11, 12, 13, 14, 15, 16, 17, 18] (by decide +kernel) (by decide +kernel)
set_option maxRecDepth 20000 in
theorem gX1_feed_X1_tapeNumber : GoodIn wsX1_feed (wsV RX1 36 RX1 yX1_tapeNumber wsX1_tapeNumber) := goodIn_app (goodIn_of _ (by decide +kernel)) ggX1_feed_X1_tapeNumber
theorem dX1_feed_0 : decode cX1_feed 0 = .ok (.aload_n 0, 1) := by decide +kernel
theorem dX1_feed_1 : decode cX1_feed 1 = .ok (.getfield 13, 3) := by decide +kernel
theorem dX1_feed_4 : decode cX1_feed 4 = .ok (.bipush 20, 2) := by decide +kernel
theorem dX1_feed_6 : decode cX1_feed 6 = .ok (.iadd, 1) := by decide +kernel
theorem dX1_feed_7 : decode cX1_feed 7 = .ok (.bipush 60, 2) := by decide +kernel
theorem dX1_feed_9 : decode cX1_feed 9 = .ok (.if_icmp .le 5, 3) := by decide +kernel
theorem dX1_feed_12 : decode cX1_feed 12 = .ok (.iconst 0, 1) := by decide +kernel
theorem dX1_feed_13 : decode cX1_feed 13 = .ok (.ireturn, 1) := by decide +kernel
theorem dX1_feed_14 : decode cX1_feed 14 = .ok (.aload_n 0, 1) := by decide +kernel
theorem dX1_feed_15 : decode cX1_feed 15 = .ok (.iload_n 1, 1) := by decide +kernel
theorem dX1_feed_16 : decode cX1_feed 16 = .ok (.invokevirtual 36, 3) := by decide +kernel
theorem dX1_feed_19 : decode cX1_feed 19 = .ok (.aload_n 0, 1) := by decide +kernel
theorem dX1_feed_20 : decode cX1_feed 20 = .ok (.iload_n 2, 1) := by decide +kernel
theorem dX1_feed_21 : decode cX1_feed 21 = .ok (.invokevirtual 36, 3) := by decide +kernel
theorem dX1_feed_24 : decode cX1_feed 24 = .ok (.aload_n 0, 1) := by decide +kernel
theorem dX1_feed_25 : decode cX1_feed 25 = .ok (.iload_n 3, 1) := by decide +kernel
theorem dX1_feed_26 : decode cX1_feed 26 = .ok (.invokevirtual 36, 3) := by decide +kernel
theorem dX1_feed_29 : decode cX1_feed 29 = .ok (.aload_n 0, 1) := by decide +kernel
theorem dX1_feed_30 : decode cX1_feed 30 = .ok (.iload 4, 2) := by decide +kernel
theorem dX1_feed_32 : decode cX1_feed 32 = .ok (.invokevirtual 36, 3) := by decide +kernel
theorem dX1_feed_35 : decode cX1_feed 35 = .ok (.aload_n 0, 1) := by decide +kernel
theorem dX1_feed_36 : decode cX1_feed 36 = .ok (.iload 5, 2) := by decide +kernel
theorem dX1_feed_38 : decode cX1_feed 38 = .ok (.invokevirtual 36, 3) := by decide +kernel
theorem dX1_feed_41 : decode cX1_feed 41 = .ok (.iconst 1, 1) := by decide +kernel
theorem dX1_feed_42 : decode cX1_feed 42 = .ok (.ireturn, 1) := by decide +kernel
theorem dX1_end_0 : decode cX1_end 0 = .ok (.iload_n 1, 1) := by decide +kernel
theorem dX1_end_1 : decode cX1_end 1 = .ok (.ifCond .lt 11, 3) := by decide +kernel
theorem dX1_end_4 : decode cX1_end 4 = .ok (.iload_n 1, 1) := by decide +kernel
theorem dX1_end_5 : decode cX1_end 5 = .ok (.aload_n 0, 1) := by decide +kernel
theorem dX1_end_6 : decode cX1_end 6 = .ok (.getfield 13, 3) := by decide +kernel
theorem dX1_end_9 : decode cX1_end 9 = .ok (.if_icmp .le 5, 3) := by decide +kernel
theorem dX1_end_12 : decode cX1_end 12 = .ok (.iconst 0, 1) := by decide +kernel
theorem dX1_end_13 : decode cX1_end 13 = .ok (.ireturn, 1) := by decide +kernel
theorem dX1_end_14 : decode cX1_end 14 = .ok (.aload_n 0, 1) := by decide +kernel
theorem dX1_end_15 : decode cX1_end 15 = .ok (.iload_n 1, 1) := by decide +kernel
theorem dX1_end_16 : decode cX1_end 16 = .ok (.putfield 13, 3) := by decide +kernel
theorem dX1_end_19 : decode cX1_end 19 = .ok (.iconst 1, 1) := by decide +kernel
theorem dX1_end_20 : decode cX1_end 20 = .ok (.ireturn, 1) := by decide +kernel
set_option maxRecDepth 20000 in
theorem ggX1_read_X1_readText : GoodIn wsX1_read wsX1_readText := goodIn_r _ [10, 1, 11, 12, 13, 9, 14, 15, 16, 17, 18, 19, 20, 21, 22, 23, 4, 24, 25, 26, 27, 28, 29, 30, 31, 32, 33, 34, 35, 36, 37, 38, 39, 40, 41, 42, 43, 44, 45, 46, 47, 48, 49, 50, 51, 52, 53, 54, 55, 56, 57, 58, 59, 60, 61, 62, 63, 64, 65, 66, 67, 68, 69, 70, 71, 72, 73, 74, 75, 76, 77, 78, 79, 80, 81, 82, 83, 84, 85, 86, 87] (by decide +kernel) (by decide +kernel)
set_option maxRecDepth 20000 in
theorem gX1_read_X1_readText : GoodIn wsX1_read (wsV RX1 40 RX1 yX1_readText wsX1_readText) := goodIn_app (goodIn_of _ (by decide +kernel)) ggX1_read_X1_readText
theorem dX1_read_0 : decode cX1_read 0 = .ok (.aload_n 0, 1) := by decide +kernel
theorem dX1_read_1 : decode cX1_read 1 = .ok (.invokevirtual 40, 3) := by decide +kernel
theorem dX1_read_4 : decode cX1_read 4 = .ok (.istore_n 1, 1) := by decide +kernel
theorem dX1_read_5 : decode cX1_read 5 = .ok (.aload_n 0, 1) := by decide +kernel
theorem dX1_read_6 : decode cX1_read 6 = .ok (.iconst 0, 1) := by decide +kernel
theorem dX1_read_7 : decode cX1_read 7 = .ok (.putfield 13, 3) := by decide +kernel
theorem dX1_read_10 : decode cX1_read 10 = .ok (.iload_n 1, 1) := by decide +kernel
theorem dX1_read_11 : decode cX1_read 11 = .ok (.ifCond .ne 5, 3) := by decide +kernel
theorem dX1_read_14 : decode cX1_read 14 = .ok (.iconst (-1), 1) := by decide +kernel
theorem dX1_read_15 : decode cX1_read 15 = .ok (.ireturn, 1) := by decide +kernel
theorem dX1_read_16 : decode cX1_read 16 = .ok (.aload_n 0, 1) := by decide +kernel
theorem dX1_read_17 : decode cX1_read 17 = .ok (.getfield 30, 3) := by decide +kernel
theorem dX1_read_20 : decode cX1_read 20 = .ok (.astore_n 2, 1) := by decide +kernel
theorem dX1_read_21 : decode cX1_read 21 = .ok (.aload_n 0, 1) := by decide +kernel
theorem dX1_read_22 : decode cX1_read 22 = .ok (.aload_n 0, 1) := by decide +kernel
theorem dX1_read_23 : decode cX1_read 23 = .ok (.getfield 26, 3) := by decide +kernel
theorem dX1_read_26 : decode cX1_read 26 = .ok (.putfield 30, 3) := by decide +kernel
theorem dX1_read_29 : decode cX1_read 29 = .ok (.aload_n 0, 1) := by decide +kernel
theorem dX1_read_30 : decode cX1_read 30 = .ok (.aload_n 0, 1) := by decide +kernel
theorem dX1_read_31 : decode cX1_read 31 = .ok (.getfield 33, 3) := by decide +kernel
theorem dX1_read_34 : decode cX1_read 34 = .ok (.putfield 26, 3) := by decide +kernel
theorem dX1_read_37 : decode cX1_read 37 = .ok (.aload_n 0, 1) := by decide +kernel
theorem dX1_read_38 : decode cX1_read 38 = .ok (.aload_n 2, 1) := by decide +kernel
theorem dX1_read_39 : decode cX1_read 39 = .ok (.putfield 33, 3) := by decide +kernel
theorem dX1_read_42 : decode cX1_read 42 = .ok (.aload_n 0, 1) := by decide +kernel
theorem dX1_read_43 : decode cX1_read 43 = .ok (.getfield 26, 3) := by decide +kernel
theorem dX1_read_46 : decode cX1_read 46 = .ok (.getfield 44, 3) := by decide +kernel
theorem dX1_read_49 : decode cX1_read 49 = .ok (.ireturn, 1) := by decide +kernel
set_option maxRecDepth 20000 in
theorem ggX1_length_X0_wholeLength : GoodIn wsX1_length wsX0_wholeLength := goodIn_r _ [8, 9, 31, 32, 33, 34] (by decide +kernel) (by decide +kernel)
set_option maxRecDepth 20000 in
theorem gX1_length_X0_wholeLength : GoodIn wsX1_length (wsV RX1 47 RX0 yX0_wholeLength wsX0_wholeLength) := goodIn_app (goodIn_of _ (by decide +kernel)) ggX1_length_X0_wholeLength
set_option maxRecDepth 20000 in
theorem ggX1_length_X1_decimalIn : GoodIn wsX1_length wsX1_decimalIn := goodIn_r _ [14, 15, 16, 17, 13, 18, 1, 19, 20, 21, 22, 23, 24, 25, 26, 27, 28, 29, 30] (by decide +kernel) (by decide +kernel)
set_option maxRecDepth 20000 in
theorem gX1_length_X1_decimalIn : GoodIn wsX1_length (wsV RX1 51 RX1 yX1_decimalIn wsX1_decimalIn) := goodIn_app (goodIn_of _ (by decide +kernel)) ggX1_length_X1_decimalIn
theorem dX1_length_0 : decode cX1_length 0 = .ok (.aload_n 0, 1) := by decide +kernel
theorem dX1_length_1 : decode cX1_length 1 = .ok (.iconst 0, 1) := by decide +kernel
theorem dX1_length_2 : decode cX1_length 2 = .ok (.aload_n 0, 1) := by decide +kernel
theorem dX1_length_3 : decode cX1_length 3 = .ok (.getfield 13, 3) := by decide +kernel
theorem dX1_length_6 : decode cX1_length 6 = .ok (.aload_n 0, 1) := by decide +kernel
theorem dX1_length_7 : decode cX1_length 7 = .ok (.getfield 26, 3) := by decide +kernel
theorem dX1_length_10 : decode cX1_length 10 = .ok (.invokevirtual 47, 3) := by decide +kernel
theorem dX1_length_13 : decode cX1_length 13 = .ok (.invokevirtual 51, 3) := by decide +kernel
theorem dX1_length_16 : decode cX1_length 16 = .ok (.istore_n 1, 1) := by decide +kernel
theorem dX1_length_17 : decode cX1_length 17 = .ok (.aload_n 0, 1) := by decide +kernel
theorem dX1_length_18 : decode cX1_length 18 = .ok (.iconst 0, 1) := by decide +kernel
theorem dX1_length_19 : decode cX1_length 19 = .ok (.putfield 13, 3) := by decide +kernel
theorem dX1_length_22 : decode cX1_length 22 = .ok (.iload_n 1, 1) := by decide +kernel
theorem dX1_length_23 : decode cX1_length 23 = .ok (.iconst (-1), 1) := by decide +kernel
theorem dX1_length_24 : decode cX1_length 24 = .ok (.if_icmp .eq 11, 3) := by decide +kernel
theorem dX1_length_27 : decode cX1_length 27 = .ok (.aload_n 0, 1) := by decide +kernel
theorem dX1_length_28 : decode cX1_length 28 = .ok (.getfield 26, 3) := by decide +kernel
theorem dX1_length_31 : decode cX1_length 31 = .ok (.iload_n 1, 1) := by decide +kernel
theorem dX1_length_32 : decode cX1_length 32 = .ok (.putfield 55, 3) := by decide +kernel
theorem dX1_length_35 : decode cX1_length 35 = .ok (.iload_n 1, 1) := by decide +kernel
theorem dX1_length_36 : decode cX1_length 36 = .ok (.ireturn, 1) := by decide +kernel
set_option maxRecDepth 20000 in
theorem ggX1_cut_X0_upperMask : GoodIn wsX1_cut wsX0_upperMask := goodIn_r _ [8, 9, 10, 11, 7, 12, 13, 14, 15, 16, 17, 18, 19, 20, 21, 22, 34, 35, 36, 37] (by decide +kernel) (by decide +kernel)
set_option maxRecDepth 20000 in
theorem gX1_cut_X0_upperMask : GoodIn wsX1_cut (wsV RX1 62 RX0 yX0_upperMask wsX0_upperMask) := goodIn_app (goodIn_of _ (by decide +kernel)) ggX1_cut_X0_upperMask
set_option maxRecDepth 20000 in
theorem ggX1_cut_X0_lowerMask : GoodIn wsX1_cut wsX0_lowerMask := goodIn_r _ [26, 9, 10, 11, 7, 12, 13, 14, 15, 16, 17, 18, 19, 20, 21, 22, 34, 35, 36, 37] (by decide +kernel) (by decide +kernel)
set_option maxRecDepth 20000 in
theorem gX1_cut_X0_lowerMask : GoodIn wsX1_cut (wsV RX1 69 RX0 yX0_lowerMask wsX0_lowerMask) := goodIn_app (goodIn_of _ (by decide +kernel)) ggX1_cut_X0_lowerMask
theorem dX1_cut_0 : decode cX1_cut 0 = .ok (.aload_n 0, 1) := by decide +kernel
theorem dX1_cut_1 : decode cX1_cut 1 = .ok (.getfield 26, 3) := by decide +kernel
theorem dX1_cut_4 : decode cX1_cut 4 = .ok (.getfield 58, 3) := by decide +kernel
theorem dX1_cut_7 : decode cX1_cut 7 = .ok (.aload_n 0, 1) := by decide +kernel
theorem dX1_cut_8 : decode cX1_cut 8 = .ok (.getfield 26, 3) := by decide +kernel
theorem dX1_cut_11 : decode cX1_cut 11 = .ok (.invokevirtual 62, 3) := by decide +kernel
theorem dX1_cut_14 : decode cX1_cut 14 = .ok (.land, 1) := by decide +kernel
theorem dX1_cut_15 : decode cX1_cut 15 = .ok (.lstore_n 1, 1) := by decide +kernel
theorem dX1_cut_16 : decode cX1_cut 16 = .ok (.aload_n 0, 1) := by decide +kernel
theorem dX1_cut_17 : decode cX1_cut 17 = .ok (.getfield 26, 3) := by decide +kernel
theorem dX1_cut_20 : decode cX1_cut 20 = .ok (.getfield 66, 3) := by decide +kernel
theorem dX1_cut_23 : decode cX1_cut 23 = .ok (.aload_n 0, 1) := by decide +kernel
theorem dX1_cut_24 : decode cX1_cut 24 = .ok (.getfield 26, 3) := by decide +kernel
theorem dX1_cut_27 : decode cX1_cut 27 = .ok (.invokevirtual 69, 3) := by decide +kernel
theorem dX1_cut_30 : decode cX1_cut 30 = .ok (.land, 1) := by decide +kernel
theorem dX1_cut_31 : decode cX1_cut 31 = .ok (.lstore_n 3, 1) := by decide +kernel
theorem dX1_cut_32 : decode cX1_cut 32 = .ok (.lload_n 1, 1) := by decide +kernel
theorem dX1_cut_33 : decode cX1_cut 33 = .ok (.aload_n 0, 1) := by decide +kernel
theorem dX1_cut_34 : decode cX1_cut 34 = .ok (.getfield 26, 3) := by decide +kernel
theorem dX1_cut_37 : decode cX1_cut 37 = .ok (.getfield 58, 3) := by decide +kernel
theorem dX1_cut_40 : decode cX1_cut 40 = .ok (.lcmp, 1) := by decide +kernel
theorem dX1_cut_41 : decode cX1_cut 41 = .ok (.ifCond .ne 15, 3) := by decide +kernel
theorem dX1_cut_44 : decode cX1_cut 44 = .ok (.lload_n 3, 1) := by decide +kernel
theorem dX1_cut_45 : decode cX1_cut 45 = .ok (.aload_n 0, 1) := by decide +kernel
theorem dX1_cut_46 : decode cX1_cut 46 = .ok (.getfield 26, 3) := by decide +kernel
theorem dX1_cut_49 : decode cX1_cut 49 = .ok (.getfield 66, 3) := by decide +kernel
theorem dX1_cut_52 : decode cX1_cut 52 = .ok (.lcmp, 1) := by decide +kernel
theorem dX1_cut_53 : decode cX1_cut 53 = .ok (.ifCond .eq 7, 3) := by decide +kernel
theorem dX1_cut_56 : decode cX1_cut 56 = .ok (.iconst 1, 1) := by decide +kernel
theorem dX1_cut_57 : decode cX1_cut 57 = .ok (.goto 4, 3) := by decide +kernel
theorem dX1_cut_60 : decode cX1_cut 60 = .ok (.iconst 0, 1) := by decide +kernel
theorem dX1_cut_61 : decode cX1_cut 61 = .ok (.istore 5, 2) := by decide +kernel
theorem dX1_cut_63 : decode cX1_cut 63 = .ok (.aload_n 0, 1) := by decide +kernel
theorem dX1_cut_64 : decode cX1_cut 64 = .ok (.getfield 26, 3) := by decide +kernel
theorem dX1_cut_67 : decode cX1_cut 67 = .ok (.lload_n 1, 1) := by decide +kernel
theorem dX1_cut_68 : decode cX1_cut 68 = .ok (.putfield 58, 3) := by decide +kernel
theorem dX1_cut_71 : decode cX1_cut 71 = .ok (.aload_n 0, 1) := by decide +kernel
theorem dX1_cut_72 : decode cX1_cut 72 = .ok (.getfield 26, 3) := by decide +kernel
theorem dX1_cut_75 : decode cX1_cut 75 = .ok (.lload_n 3, 1) := by decide +kernel
theorem dX1_cut_76 : decode cX1_cut 76 = .ok (.putfield 66, 3) := by decide +kernel
theorem dX1_cut_79 : decode cX1_cut 79 = .ok (.iload 5, 2) := by decide +kernel
theorem dX1_cut_81 : decode cX1_cut 81 = .ok (.ireturn, 1) := by decide +kernel
set_option maxRecDepth 20000 in
theorem ggX1_covers_X0_upperMask : GoodIn wsX1_covers wsX0_upperMask := goodIn_r _ [11, 12, 13, 14, 10, 15, 16, 17, 18, 19, 20, 21, 22, 23, 24, 25, 37, 38, 39, 40] (by decide +kernel) (by decide +kernel)
set_option maxRecDepth 20000 in
theorem gX1_covers_X0_upperMask : GoodIn wsX1_covers (wsV RX1 62 RX0 yX0_upperMask wsX0_upperMask) := goodIn_app (goodIn_of _ (by decide +kernel)) ggX1_covers_X0_upperMask
set_option maxRecDepth 20000 in
theorem ggX1_covers_X0_lowerMask : GoodIn wsX1_covers wsX0_lowerMask := goodIn_r _ [29, 12, 13, 14, 10, 15, 16, 17, 18, 19, 20, 21, 22, 23, 24, 25, 37, 38, 39, 40] (by decide +kernel) (by decide +kernel)
set_option maxRecDepth 20000 in
theorem gX1_covers_X0_lowerMask : GoodIn wsX1_covers (wsV RX1 69 RX0 yX0_lowerMask wsX0_lowerMask) := goodIn_app (goodIn_of _ (by decide +kernel)) ggX1_covers_X0_lowerMask
theorem dX1_covers_0 : decode cX1_covers 0 = .ok (.aload_n 0, 1) := by decide +kernel
theorem dX1_covers_1 : decode cX1_covers 1 = .ok (.getfield 26, 3) := by decide +kernel
theorem dX1_covers_4 : decode cX1_covers 4 = .ok (.getfield 44, 3) := by decide +kernel
theorem dX1_covers_7 : decode cX1_covers 7 = .ok (.aload_n 0, 1) := by decide +kernel
theorem dX1_covers_8 : decode cX1_covers 8 = .ok (.getfield 30, 3) := by decide +kernel
theorem dX1_covers_11 : decode cX1_covers 11 = .ok (.getfield 44, 3) := by decide +kernel
theorem dX1_covers_14 : decode cX1_covers 14 = .ok (.if_icmp .ne 80, 3) := by decide +kernel
theorem dX1_covers_17 : decode cX1_covers 17 = .ok (.aload_n 0, 1) := by decide +kernel
theorem dX1_covers_18 : decode cX1_covers 18 = .ok (.getfield 26, 3) := by decide +kernel
theorem dX1_covers_21 : decode cX1_covers 21 = .ok (.getfield 55, 3) := by decide +kernel
theorem dX1_covers_24 : decode cX1_covers 24 = .ok (.aload_n 0, 1) := by decide +kernel
theorem dX1_covers_25 : decode cX1_covers 25 = .ok (.getfield 30, 3) := by decide +kernel
theorem dX1_covers_28 : decode cX1_covers 28 = .ok (.getfield 55, 3) := by decide +kernel
theorem dX1_covers_31 : decode cX1_covers 31 = .ok (.if_icmp .gt 63, 3) := by decide +kernel
theorem dX1_covers_34 : decode cX1_covers 34 = .ok (.aload_n 0, 1) := by decide +kernel
theorem dX1_covers_35 : decode cX1_covers 35 = .ok (.getfield 26, 3) := by decide +kernel
theorem dX1_covers_38 : decode cX1_covers 38 = .ok (.getfield 58, 3) := by decide +kernel
theorem dX1_covers_41 : decode cX1_covers 41 = .ok (.aload_n 0, 1) := by decide +kernel
theorem dX1_covers_42 : decode cX1_covers 42 = .ok (.getfield 30, 3) := by decide +kernel
theorem dX1_covers_45 : decode cX1_covers 45 = .ok (.getfield 58, 3) := by decide +kernel
theorem dX1_covers_48 : decode cX1_covers 48 = .ok (.lxor, 1) := by decide +kernel
theorem dX1_covers_49 : decode cX1_covers 49 = .ok (.aload_n 0, 1) := by decide +kernel
theorem dX1_covers_50 : decode cX1_covers 50 = .ok (.getfield 26, 3) := by decide +kernel
theorem dX1_covers_53 : decode cX1_covers 53 = .ok (.invokevirtual 62, 3) := by decide +kernel
theorem dX1_covers_56 : decode cX1_covers 56 = .ok (.land, 1) := by decide +kernel
theorem dX1_covers_57 : decode cX1_covers 57 = .ok (.lconst 0, 1) := by decide +kernel
theorem dX1_covers_58 : decode cX1_covers 58 = .ok (.lcmp, 1) := by decide +kernel
theorem dX1_covers_59 : decode cX1_covers 59 = .ok (.ifCond .ne 35, 3) := by decide +kernel
theorem dX1_covers_62 : decode cX1_covers 62 = .ok (.aload_n 0, 1) := by decide +kernel
theorem dX1_covers_63 : decode cX1_covers 63 = .ok (.getfield 26, 3) := by decide +kernel
theorem dX1_covers_66 : decode cX1_covers 66 = .ok (.getfield 66, 3) := by decide +kernel
theorem dX1_covers_69 : decode cX1_covers 69 = .ok (.aload_n 0, 1) := by decide +kernel
theorem dX1_covers_70 : decode cX1_covers 70 = .ok (.getfield 30, 3) := by decide +kernel
theorem dX1_covers_73 : decode cX1_covers 73 = .ok (.getfield 66, 3) := by decide +kernel
theorem dX1_covers_76 : decode cX1_covers 76 = .ok (.lxor, 1) := by decide +kernel
theorem dX1_covers_77 : decode cX1_covers 77 = .ok (.aload_n 0, 1) := by decide +kernel
theorem dX1_covers_78 : decode cX1_covers 78 = .ok (.getfield 26, 3) := by decide +kernel
theorem dX1_covers_81 : decode cX1_covers 81 = .ok (.invokevirtual 69, 3) := by decide +kernel
theorem dX1_covers_84 : decode cX1_covers 84 = .ok (.land, 1) := by decide +kernel
theorem dX1_covers_85 : decode cX1_covers 85 = .ok (.lconst 0, 1) := by decide +kernel
theorem dX1_covers_86 : decode cX1_covers 86 = .ok (.lcmp, 1) := by decide +kernel
theorem dX1_covers_87 : decode cX1_covers 87 = .ok (.ifCond .ne 7, 3) := by decide +kernel
theorem dX1_covers_90 : decode cX1_covers 90 = .ok (.iconst 1, 1) := by decide +kernel
theorem dX1_covers_91 : decode cX1_covers 91 = .ok (.goto 4, 3) := by decide +kernel
theorem dX1_covers_94 : decode cX1_covers 94 = .ok (.iconst 0, 1) := by decide +kernel
theorem dX1_covers_95 : decode cX1_covers 95 = .ok (.ireturn, 1) := by decide +kernel
set_option maxRecDepth 20000 in
theorem ggX1_order_X1_isBelow : GoodIn wsX1_order wsX1_isBelow := goodIn_r _ [10, 11] (by decide +kernel) (by decide +kernel)
set_option maxRecDepth 20000 in
theorem gX1_order_X1_isBelow : GoodIn wsX1_order (va_wsS RX1 72 yX1_isBelow wsX1_isBelow) := goodIn_app (goodIn_of _ (by decide +kernel)) ggX1_order_X1_isBelow
theorem dX1_order_0 : decode cX1_order 0 = .ok (.aload_n 0, 1) := by decide +kernel
theorem dX1_order_1 : decode cX1_order 1 = .ok (.getfield 26, 3) := by decide +kernel
theorem dX1_order_4 : decode cX1_order 4 = .ok (.getfield 44, 3) := by decide +kernel
theorem dX1_order_7 : decode cX1_order 7 = .ok (.aload_n 0, 1) := by decide +kernel
theorem dX1_order_8 : decode cX1_order 8 = .ok (.getfield 30, 3) := by decide +kernel
theorem dX1_order_11 : decode cX1_order 11 = .ok (.getfield 44, 3) := by decide +kernel
theorem dX1_order_14 : decode cX1_order 14 = .ok (.if_icmp .eq 20, 3) := by decide +kernel
theorem dX1_order_17 : decode cX1_order 17 = .ok (.aload_n 0, 1) := by decide +kernel
theorem dX1_order_18 : decode cX1_order 18 = .ok (.getfield 26, 3) := by decide +kernel
theorem dX1_order_21 : decode cX1_order 21 = .ok (.getfield 44, 3) := by decide +kernel
theorem dX1_order_24 : decode cX1_order 24 = .ok (.iconst 4, 1) := by decide +kernel
theorem dX1_order_25 : decode cX1_order 25 = .ok (.if_icmp .ne 7, 3) := by decide +kernel
theorem dX1_order_28 : decode cX1_order 28 = .ok (.iconst (-1), 1) := by decide +kernel
theorem dX1_order_29 : decode cX1_order 29 = .ok (.goto 4, 3) := by decide +kernel
theorem dX1_order_32 : decode cX1_order 32 = .ok (.iconst 1, 1) := by decide +kernel
theorem dX1_order_33 : decode cX1_order 33 = .ok (.ireturn, 1) := by decide +kernel
theorem dX1_order_34 : decode cX1_order 34 = .ok (.aload_n 0, 1) := by decide +kernel
theorem dX1_order_35 : decode cX1_order 35 = .ok (.getfield 26, 3) := by decide +kernel
theorem dX1_order_38 : decode cX1_order 38 = .ok (.getfield 58, 3) := by decide +kernel
theorem dX1_order_41 : decode cX1_order 41 = .ok (.aload_n 0, 1) := by decide +kernel
theorem dX1_order_42 : decode cX1_order 42 = .ok (.getfield 30, 3) := by decide +kernel
theorem dX1_order_45 : decode cX1_order 45 = .ok (.getfield 58, 3) := by decide +kernel
theorem dX1_order_48 : decode cX1_order 48 = .ok (.lcmp, 1) := by decide +kernel
theorem dX1_order_49 : decode cX1_order 49 = .ok (.ifCond .eq 29, 3) := by decide +kernel
theorem dX1_order_52 : decode cX1_order 52 = .ok (.aload_n 0, 1) := by decide +kernel
theorem dX1_order_53 : decode cX1_order 53 = .ok (.getfield 26, 3) := by decide +kernel
theorem dX1_order_56 : decode cX1_order 56 = .ok (.getfield 58, 3) := by decide +kernel
theorem dX1_order_59 : decode cX1_order 59 = .ok (.aload_n 0, 1) := by decide +kernel
theorem dX1_order_60 : decode cX1_order 60 = .ok (.getfield 30, 3) := by decide +kernel
theorem dX1_order_63 : decode cX1_order 63 = .ok (.getfield 58, 3) := by decide +kernel
theorem dX1_order_66 : decode cX1_order 66 = .ok (.invokestatic 72, 3) := by decide +kernel
theorem dX1_order_69 : decode cX1_order 69 = .ok (.ifCond .eq 7, 3) := by decide +kernel
theorem dX1_order_72 : decode cX1_order 72 = .ok (.iconst (-1), 1) := by decide +kernel
theorem dX1_order_73 : decode cX1_order 73 = .ok (.goto 4, 3) := by decide +kernel
theorem dX1_order_76 : decode cX1_order 76 = .ok (.iconst 1, 1) := by decide +kernel
theorem dX1_order_77 : decode cX1_order 77 = .ok (.ireturn, 1) := by decide +kernel
theorem dX1_order_78 : decode cX1_order 78 = .ok (.aload_n 0, 1) := by decide +kernel
theorem dX1_order_79 : decode cX1_order 79 = .ok (.getfield 26, 3) := by decide +kernel
theorem dX1_order_82 : decode cX1_order 82 = .ok (.getfield 66, 3) := by decide +kernel
theorem dX1_order_85 : decode cX1_order 85 = .ok (.aload_n 0, 1) := by decide +kernel
theorem dX1_order_86 : decode cX1_order 86 = .ok (.getfield 30, 3) := by decide +kernel
theorem dX1_order_89 : decode cX1_order 89 = .ok (.getfield 66, 3) := by decide +kernel
theorem dX1_order_92 : decode cX1_order 92 = .ok (.lcmp, 1) := by decide +kernel
theorem dX1_order_93 : decode cX1_order 93 = .ok (.ifCond .eq 29, 3) := by decide +kernel
theorem dX1_order_96 : decode cX1_order 96 = .ok (.aload_n 0, 1) := by decide +kernel
theorem dX1_order_97 : decode cX1_order 97 = .ok (.getfield 26, 3) := by decide +kernel
theorem dX1_order_100 : decode cX1_order 100 = .ok (.getfield 66, 3) := by decide +kernel
theorem dX1_order_103 : decode cX1_order 103 = .ok (.aload_n 0, 1) := by decide +kernel
theorem dX1_order_104 : decode cX1_order 104 = .ok (.getfield 30, 3) := by decide +kernel
theorem dX1_order_107 : decode cX1_order 107 = .ok (.getfield 66, 3) := by decide +kernel
theorem dX1_order_110 : decode cX1_order 110 = .ok (.invokestatic 72, 3) := by decide +kernel
theorem dX1_order_113 : decode cX1_order 113 = .ok (.ifCond .eq 7, 3) := by decide +kernel
theorem dX1_order_116 : decode cX1_order 116 = .ok (.iconst (-1), 1) := by decide +kernel
theorem dX1_order_117 : decode cX1_order 117 = .ok (.goto 4, 3) := by decide +kernel
theorem dX1_order_120 : decode cX1_order 120 = .ok (.iconst 1, 1) := by decide +kernel
theorem dX1_order_121 : decode cX1_order 121 = .ok (.ireturn, 1) := by decide +kernel
theorem dX1_order_122 : decode cX1_order 122 = .ok (.aload_n 0, 1) := by decide +kernel
theorem dX1_order_123 : decode cX1_order 123 = .ok (.getfield 26, 3) := by decide +kernel
theorem dX1_order_126 : decode cX1_order 126 = .ok (.getfield 55, 3) := by decide +kernel
theorem dX1_order_129 : decode cX1_order 129 = .ok (.aload_n 0, 1) := by decide +kernel
theorem dX1_order_130 : decode cX1_order 130 = .ok (.getfield 30, 3) := by decide +kernel
theorem dX1_order_133 : decode cX1_order 133 = .ok (.getfield 55, 3) := by decide +kernel
theorem dX1_order_136 : decode cX1_order 136 = .ok (.if_icmp .eq 26, 3) := by decide +kernel
theorem dX1_order_139 : decode cX1_order 139 = .ok (.aload_n 0, 1) := by decide +kernel
theorem dX1_order_140 : decode cX1_order 140 = .ok (.getfield 26, 3) := by decide +kernel
theorem dX1_order_143 : decode cX1_order 143 = .ok (.getfield 55, 3) := by decide +kernel
theorem dX1_order_146 : decode cX1_order 146 = .ok (.aload_n 0, 1) := by decide +kernel
theorem dX1_order_147 : decode cX1_order 147 = .ok (.getfield 30, 3) := by decide +kernel
theorem dX1_order_150 : decode cX1_order 150 = .ok (.getfield 55, 3) := by decide +kernel
theorem dX1_order_153 : decode cX1_order 153 = .ok (.if_icmp .ge 7, 3) := by decide +kernel
theorem dX1_order_156 : decode cX1_order 156 = .ok (.iconst (-1), 1) := by decide +kernel
theorem dX1_order_157 : decode cX1_order 157 = .ok (.goto 4, 3) := by decide +kernel
theorem dX1_order_160 : decode cX1_order 160 = .ok (.iconst 1, 1) := by decide +kernel
theorem dX1_order_161 : decode cX1_order 161 = .ok (.ireturn, 1) := by decide +kernel
theorem dX1_order_162 : decode cX1_order 162 = .ok (.iconst 0, 1) := by decide +kernel
theorem dX1_order_163 : decode cX1_order 163 = .ok (.ireturn, 1) := by decide +kernel
theorem dX1_turn_0 : decode cX1_turn 0 = .ok (.aload_n 0, 1) := by decide +kernel
theorem dX1_turn_1 : decode cX1_turn 1 = .ok (.getfield 26, 3) := by decide +kernel
theorem dX1_turn_4 : decode cX1_turn 4 = .ok (.astore_n 1, 1) := by decide +kernel
theorem dX1_turn_5 : decode cX1_turn 5 = .ok (.aload_n 0, 1) := by decide +kernel
theorem dX1_turn_6 : decode cX1_turn 6 = .ok (.aload_n 0, 1) := by decide +kernel
theorem dX1_turn_7 : decode cX1_turn 7 = .ok (.getfield 30, 3) := by decide +kernel
theorem dX1_turn_10 : decode cX1_turn 10 = .ok (.putfield 26, 3) := by decide +kernel
theorem dX1_turn_13 : decode cX1_turn 13 = .ok (.aload_n 0, 1) := by decide +kernel
theorem dX1_turn_14 : decode cX1_turn 14 = .ok (.aload_n 1, 1) := by decide +kernel
theorem dX1_turn_15 : decode cX1_turn 15 = .ok (.putfield 30, 3) := by decide +kernel
theorem dX1_turn_18 : decode cX1_turn 18 = .ok (.return_, 1) := by decide +kernel
set_option maxRecDepth 20000 in
theorem ggX1_write_X1_writeNumbers : GoodIn wsX1_write wsX1_writeNumbers := goodIn_r _ [8, 2, 9, 10, 11, 12, 7, 13, 1, 14, 15, 16, 17, 18, 19, 20, 21, 22, 52, 53, 54, 55, 56, 57, 58, 59, 60, 61, 62] (by decide +kernel) (by decide +kernel)
set_option maxRecDepth 20000 in
theorem gX1_write_X1_writeNumbers : GoodIn wsX1_write (wsV RX1 76 RX1 yX1_writeNumbers wsX1_writeNumbers) := goodIn_app (goodIn_of _ (by decide +kernel)) ggX1_write_X1_writeNumbers
set_option maxRecDepth 20000 in
theorem ggX1_write_X1_writeParts : GoodIn wsX1_write wsX1_writeParts := goodIn_r _ [26, 2, 27, 28, 29, 30, 31, 32, 33, 34, 35, 36, 37, 38, 39, 40, 41, 42, 43, 44, 45, 46, 10, 11, 12, 7, 13, 1, 14, 47, 48, 49, 50, 51, 19, 20, 21, 22, 52, 53, 54, 55, 56, 57, 58, 59, 60, 61, 62] (by decide +kernel) (by decide +kernel)
set_option maxRecDepth 20000 in
theorem gX1_write_X1_writeParts : GoodIn wsX1_write (wsV RX1 79 RX1 yX1_writeParts wsX1_writeParts) := goodIn_app (goodIn_of _ (by decide +kernel)) ggX1_write_X1_writeParts
theorem dX1_write_0 : decode cX1_write 0 = .ok (.aload_n 0, 1) := by decide +kernel
theorem dX1_write_1 : decode cX1_write 1 = .ok (.iconst 0, 1) := by decide +kernel
theorem dX1_write_2 : decode cX1_write 2 = .ok (.putfield 20, 3) := by decide +kernel
theorem dX1_write_5 : decode cX1_write 5 = .ok (.aload_n 0, 1) := by decide +kernel
theorem dX1_write_6 : decode cX1_write 6 = .ok (.getfield 26, 3) := by decide +kernel
theorem dX1_write_9 : decode cX1_write 9 = .ok (.getfield 44, 3) := by decide +kernel
theorem dX1_write_12 : decode cX1_write 12 = .ok (.iconst 4, 1) := by decide +kernel
theorem dX1_write_13 : decode cX1_write 13 = .ok (.if_icmp .ne 10, 3) := by decide +kernel
theorem dX1_write_16 : decode cX1_write 16 = .ok (.aload_n 0, 1) := by decide +kernel
theorem dX1_write_17 : decode cX1_write 17 = .ok (.invokevirtual 76, 3) := by decide +kernel
theorem dX1_write_20 : decode cX1_write 20 = .ok (.goto 7, 3) := by decide +kernel
theorem dX1_write_23 : decode cX1_write 23 = .ok (.aload_n 0, 1) := by decide +kernel
theorem dX1_write_24 : decode cX1_write 24 = .ok (.invokevirtual 79, 3) := by decide +kernel
theorem dX1_write_27 : decode cX1_write 27 = .ok (.aload_n 0, 1) := by decide +kernel
theorem dX1_write_28 : decode cX1_write 28 = .ok (.getfield 20, 3) := by decide +kernel
theorem dX1_write_31 : decode cX1_write 31 = .ok (.ireturn, 1) := by decide +kernel
theorem dX1_writtenAt_0 : decode cX1_writtenAt 0 = .ok (.iload_n 1, 1) := by decide +kernel
theorem dX1_writtenAt_1 : decode cX1_writtenAt 1 = .ok (.ifCond .lt 24, 3) := by decide +kernel
theorem dX1_writtenAt_4 : decode cX1_writtenAt 4 = .ok (.iload_n 1, 1) := by decide +kernel
theorem dX1_writtenAt_5 : decode cX1_writtenAt 5 = .ok (.aload_n 0, 1) := by decide +kernel
theorem dX1_writtenAt_6 : decode cX1_writtenAt 6 = .ok (.getfield 20, 3) := by decide +kernel
theorem dX1_writtenAt_9 : decode cX1_writtenAt 9 = .ok (.if_icmp .ge 16, 3) := by decide +kernel
theorem dX1_writtenAt_12 : decode cX1_writtenAt 12 = .ok (.aload_n 0, 1) := by decide +kernel
theorem dX1_writtenAt_13 : decode cX1_writtenAt 13 = .ok (.getfield 17, 3) := by decide +kernel
theorem dX1_writtenAt_16 : decode cX1_writtenAt 16 = .ok (.iload_n 1, 1) := by decide +kernel
theorem dX1_writtenAt_17 : decode cX1_writtenAt 17 = .ok (.baload, 1) := by decide +kernel
theorem dX1_writtenAt_18 : decode cX1_writtenAt 18 = .ok (.sipush 255, 3) := by decide +kernel
theorem dX1_writtenAt_21 : decode cX1_writtenAt 21 = .ok (.iand, 1) := by decide +kernel
theorem dX1_writtenAt_22 : decode cX1_writtenAt 22 = .ok (.goto 4, 3) := by decide +kernel
theorem dX1_writtenAt_25 : decode cX1_writtenAt 25 = .ok (.iconst (-1), 1) := by decide +kernel
theorem dX1_writtenAt_26 : decode cX1_writtenAt 26 = .ok (.ireturn, 1) := by decide +kernel
theorem dX1_bits_0 : decode cX1_bits 0 = .ok (.iload_n 1, 1) := by decide +kernel
theorem dX1_bits_1 : decode cX1_bits 1 = .ok (.ifCond .ne 11, 3) := by decide +kernel
theorem dX1_bits_4 : decode cX1_bits 4 = .ok (.aload_n 0, 1) := by decide +kernel
theorem dX1_bits_5 : decode cX1_bits 5 = .ok (.getfield 26, 3) := by decide +kernel
theorem dX1_bits_8 : decode cX1_bits 8 = .ok (.getfield 58, 3) := by decide +kernel
theorem dX1_bits_11 : decode cX1_bits 11 = .ok (.lreturn, 1) := by decide +kernel
theorem dX1_bits_12 : decode cX1_bits 12 = .ok (.iload_n 1, 1) := by decide +kernel
theorem dX1_bits_13 : decode cX1_bits 13 = .ok (.iconst 1, 1) := by decide +kernel
theorem dX1_bits_14 : decode cX1_bits 14 = .ok (.if_icmp .ne 13, 3) := by decide +kernel
theorem dX1_bits_17 : decode cX1_bits 17 = .ok (.aload_n 0, 1) := by decide +kernel
theorem dX1_bits_18 : decode cX1_bits 18 = .ok (.getfield 26, 3) := by decide +kernel
theorem dX1_bits_21 : decode cX1_bits 21 = .ok (.getfield 66, 3) := by decide +kernel
theorem dX1_bits_24 : decode cX1_bits 24 = .ok (.goto 4, 3) := by decide +kernel
theorem dX1_bits_27 : decode cX1_bits 27 = .ok (.lconst 0, 1) := by decide +kernel
theorem dX1_bits_28 : decode cX1_bits 28 = .ok (.lreturn, 1) := by decide +kernel
set_option maxRecDepth 20000 in
theorem ggX1_tapeNumber_X1_tapeByte : GoodIn wsX1_tapeNumber wsX1_tapeByte := goodIn_r _ [5, 6, 7, 8, 9, 10, 11, 12, 13, 14] (by decide +kernel) (by decide +kernel)
set_option maxRecDepth 20000 in
theorem gX1_tapeNumber_X1_tapeByte : GoodIn wsX1_tapeNumber (wsV RX1 82 RX1 yX1_tapeByte wsX1_tapeByte) := goodIn_app (goodIn_of _ (by decide +kernel)) ggX1_tapeNumber_X1_tapeByte
theorem dX1_tapeNumber_0 : decode cX1_tapeNumber 0 = .ok (.bipush 24, 2) := by decide +kernel
theorem dX1_tapeNumber_2 : decode cX1_tapeNumber 2 = .ok (.istore_n 2, 1) := by decide +kernel
theorem dX1_tapeNumber_3 : decode cX1_tapeNumber 3 = .ok (.iload_n 2, 1) := by decide +kernel
theorem dX1_tapeNumber_4 : decode cX1_tapeNumber 4 = .ok (.ifCond .lt 16, 3) := by decide +kernel
theorem dX1_tapeNumber_7 : decode cX1_tapeNumber 7 = .ok (.aload_n 0, 1) := by decide +kernel
theorem dX1_tapeNumber_8 : decode cX1_tapeNumber 8 = .ok (.iload_n 1, 1) := by decide +kernel
theorem dX1_tapeNumber_9 : decode cX1_tapeNumber 9 = .ok (.iload_n 2, 1) := by decide +kernel
theorem dX1_tapeNumber_10 : decode cX1_tapeNumber 10 = .ok (.iushr, 1) := by decide +kernel
theorem dX1_tapeNumber_11 : decode cX1_tapeNumber 11 = .ok (.invokevirtual 82, 3) := by decide +kernel
theorem dX1_tapeNumber_14 : decode cX1_tapeNumber 14 = .ok (.iinc 2 (-8), 3) := by decide +kernel
theorem dX1_tapeNumber_17 : decode cX1_tapeNumber 17 = .ok (.goto (-14), 3) := by decide +kernel
theorem dX1_tapeNumber_20 : decode cX1_tapeNumber 20 = .ok (.return_, 1) := by decide +kernel
theorem dX1_tapeByte_0 : decode cX1_tapeByte 0 = .ok (.aload_n 0, 1) := by decide +kernel
theorem dX1_tapeByte_1 : decode cX1_tapeByte 1 = .ok (.getfield 13, 3) := by decide +kernel
theorem dX1_tapeByte_4 : decode cX1_tapeByte 4 = .ok (.aload_n 0, 1) := by decide +kernel
theorem dX1_tapeByte_5 : decode cX1_tapeByte 5 = .ok (.getfield 9, 3) := by decide +kernel
theorem dX1_tapeByte_8 : decode cX1_tapeByte 8 = .ok (.arraylength, 1) := by decide +kernel
theorem dX1_tapeByte_9 : decode cX1_tapeByte 9 = .ok (.if_icmp .ge 24, 3) := by decide +kernel
theorem dX1_tapeByte_12 : decode cX1_tapeByte 12 = .ok (.aload_n 0, 1) := by decide +kernel
theorem dX1_tapeByte_13 : decode cX1_tapeByte 13 = .ok (.getfield 9, 3) := by decide +kernel
theorem dX1_tapeByte_16 : decode cX1_tapeByte 16 = .ok (.aload_n 0, 1) := by decide +kernel
theorem dX1_tapeByte_17 : decode cX1_tapeByte 17 = .ok (.getfield 13, 3) := by decide +kernel
theorem dX1_tapeByte_20 : decode cX1_tapeByte 20 = .ok (.iload_n 1, 1) := by decide +kernel
theorem dX1_tapeByte_21 : decode cX1_tapeByte 21 = .ok (.i2b, 1) := by decide +kernel
theorem dX1_tapeByte_22 : decode cX1_tapeByte 22 = .ok (.bastore, 1) := by decide +kernel
theorem dX1_tapeByte_23 : decode cX1_tapeByte 23 = .ok (.aload_n 0, 1) := by decide +kernel
theorem dX1_tapeByte_24 : decode cX1_tapeByte 24 = .ok (.dup, 1) := by decide +kernel
theorem dX1_tapeByte_25 : decode cX1_tapeByte 25 = .ok (.getfield 13, 3) := by decide +kernel
theorem dX1_tapeByte_28 : decode cX1_tapeByte 28 = .ok (.iconst 1, 1) := by decide +kernel
theorem dX1_tapeByte_29 : decode cX1_tapeByte 29 = .ok (.iadd, 1) := by decide +kernel
theorem dX1_tapeByte_30 : decode cX1_tapeByte 30 = .ok (.putfield 13, 3) := by decide +kernel
theorem dX1_tapeByte_33 : decode cX1_tapeByte 33 = .ok (.return_, 1) := by decide +kernel
theorem dX1_tapeAt_0 : decode cX1_tapeAt 0 = .ok (.iload_n 1, 1) := by decide +kernel
theorem dX1_tapeAt_1 : decode cX1_tapeAt 1 = .ok (.ifCond .lt 24, 3) := by decide +kernel
theorem dX1_tapeAt_4 : decode cX1_tapeAt 4 = .ok (.iload_n 1, 1) := by decide +kernel
theorem dX1_tapeAt_5 : decode cX1_tapeAt 5 = .ok (.aload_n 0, 1) := by decide +kernel
theorem dX1_tapeAt_6 : decode cX1_tapeAt 6 = .ok (.getfield 13, 3) := by decide +kernel
theorem dX1_tapeAt_9 : decode cX1_tapeAt 9 = .ok (.if_icmp .ge 16, 3) := by decide +kernel
theorem dX1_tapeAt_12 : decode cX1_tapeAt 12 = .ok (.aload_n 0, 1) := by decide +kernel
theorem dX1_tapeAt_13 : decode cX1_tapeAt 13 = .ok (.getfield 9, 3) := by decide +kernel
theorem dX1_tapeAt_16 : decode cX1_tapeAt 16 = .ok (.iload_n 1, 1) := by decide +kernel
theorem dX1_tapeAt_17 : decode cX1_tapeAt 17 = .ok (.baload, 1) := by decide +kernel
theorem dX1_tapeAt_18 : decode cX1_tapeAt 18 = .ok (.sipush 255, 3) := by decide +kernel
theorem dX1_tapeAt_21 : decode cX1_tapeAt 21 = .ok (.iand, 1) := by decide +kernel
theorem dX1_tapeAt_22 : decode cX1_tapeAt 22 = .ok (.goto 4, 3) := by decide +kernel
theorem dX1_tapeAt_25 : decode cX1_tapeAt 25 = .ok (.iconst (-1), 1) := by decide +kernel
theorem dX1_tapeAt_26 : decode cX1_tapeAt 26 = .ok (.ireturn, 1) := by decide +kernel
set_option maxRecDepth 20000 in
theorem ggX1_placeOf_X1_tapeAt : GoodIn wsX1_placeOf wsX1_tapeAt := goodIn_r _ [6, 1, 7, 8, 9, 10, 11, 12, 13, 14] (by decide +kernel) (by decide +kernel)
set_option maxRecDepth 20000 in
theorem gX1_placeOf_X1_tapeAt : GoodIn wsX1_placeOf (wsV RX1 85 RX1 yX1_tapeAt wsX1_tapeAt) := goodIn_app (goodIn_of _ (by decide +kernel)) ggX1_placeOf_X1_tapeAt
theorem dX1_placeOf_0 : decode cX1_placeOf 0 = .ok (.iload_n 2, 1) := by decide +kernel
theorem dX1_placeOf_1 : decode cX1_placeOf 1 = .ok (.istore_n 3, 1) := by decide +kernel
theorem dX1_placeOf_2 : decode cX1_placeOf 2 = .ok (.iload_n 3, 1) := by decide +kernel
theorem dX1_placeOf_3 : decode cX1_placeOf 3 = .ok (.aload_n 0, 1) := by decide +kernel
theorem dX1_placeOf_4 : decode cX1_placeOf 4 = .ok (.getfield 13, 3) := by decide +kernel
theorem dX1_placeOf_7 : decode cX1_placeOf 7 = .ok (.if_icmp .ge 20, 3) := by decide +kernel
theorem dX1_placeOf_10 : decode cX1_placeOf 10 = .ok (.aload_n 0, 1) := by decide +kernel
theorem dX1_placeOf_11 : decode cX1_placeOf 11 = .ok (.iload_n 3, 1) := by decide +kernel
theorem dX1_placeOf_12 : decode cX1_placeOf 12 = .ok (.invokevirtual 85, 3) := by decide +kernel
theorem dX1_placeOf_15 : decode cX1_placeOf 15 = .ok (.iload_n 1, 1) := by decide +kernel
theorem dX1_placeOf_16 : decode cX1_placeOf 16 = .ok (.if_icmp .ne 5, 3) := by decide +kernel
theorem dX1_placeOf_19 : decode cX1_placeOf 19 = .ok (.iload_n 3, 1) := by decide +kernel
theorem dX1_placeOf_20 : decode cX1_placeOf 20 = .ok (.ireturn, 1) := by decide +kernel
theorem dX1_placeOf_21 : decode cX1_placeOf 21 = .ok (.iinc 3 1, 3) := by decide +kernel
theorem dX1_placeOf_24 : decode cX1_placeOf 24 = .ok (.goto (-22), 3) := by decide +kernel
theorem dX1_placeOf_27 : decode cX1_placeOf 27 = .ok (.aload_n 0, 1) := by decide +kernel
theorem dX1_placeOf_28 : decode cX1_placeOf 28 = .ok (.getfield 13, 3) := by decide +kernel
theorem dX1_placeOf_31 : decode cX1_placeOf 31 = .ok (.ireturn, 1) := by decide +kernel
set_option maxRecDepth 20000 in
theorem ggX1_placeOfGap_X1_tapeAt : GoodIn wsX1_placeOfGap wsX1_tapeAt := goodIn_r _ [6, 1, 7, 8, 9, 10, 11, 12, 13, 14] (by decide +kernel) (by decide +kernel)
set_option maxRecDepth 20000 in
theorem gX1_placeOfGap_X1_tapeAt : GoodIn wsX1_placeOfGap (wsV RX1 85 RX1 yX1_tapeAt wsX1_tapeAt) := goodIn_app (goodIn_of _ (by decide +kernel)) ggX1_placeOfGap_X1_tapeAt
theorem dX1_placeOfGap_0 : decode cX1_placeOfGap 0 = .ok (.iconst 0, 1) := by decide +kernel
theorem dX1_placeOfGap_1 : decode cX1_placeOfGap 1 = .ok (.istore_n 1, 1) := by decide +kernel
theorem dX1_placeOfGap_2 : decode cX1_placeOfGap 2 = .ok (.iload_n 1, 1) := by decide +kernel
theorem dX1_placeOfGap_3 : decode cX1_placeOfGap 3 = .ok (.aload_n 0, 1) := by decide +kernel
theorem dX1_placeOfGap_4 : decode cX1_placeOfGap 4 = .ok (.getfield 13, 3) := by decide +kernel
theorem dX1_placeOfGap_7 : decode cX1_placeOfGap 7 = .ok (.if_icmp .ge 33, 3) := by decide +kernel
theorem dX1_placeOfGap_10 : decode cX1_placeOfGap 10 = .ok (.aload_n 0, 1) := by decide +kernel
theorem dX1_placeOfGap_11 : decode cX1_placeOfGap 11 = .ok (.iload_n 1, 1) := by decide +kernel
theorem dX1_placeOfGap_12 : decode cX1_placeOfGap 12 = .ok (.invokevirtual 85, 3) := by decide +kernel
theorem dX1_placeOfGap_15 : decode cX1_placeOfGap 15 = .ok (.bipush 58, 2) := by decide +kernel
theorem dX1_placeOfGap_17 : decode cX1_placeOfGap 17 = .ok (.if_icmp .ne 17, 3) := by decide +kernel
theorem dX1_placeOfGap_20 : decode cX1_placeOfGap 20 = .ok (.aload_n 0, 1) := by decide +kernel
theorem dX1_placeOfGap_21 : decode cX1_placeOfGap 21 = .ok (.iload_n 1, 1) := by decide +kernel
theorem dX1_placeOfGap_22 : decode cX1_placeOfGap 22 = .ok (.iconst 1, 1) := by decide +kernel
theorem dX1_placeOfGap_23 : decode cX1_placeOfGap 23 = .ok (.iadd, 1) := by decide +kernel
theorem dX1_placeOfGap_24 : decode cX1_placeOfGap 24 = .ok (.invokevirtual 85, 3) := by decide +kernel
theorem dX1_placeOfGap_27 : decode cX1_placeOfGap 27 = .ok (.bipush 58, 2) := by decide +kernel
theorem dX1_placeOfGap_29 : decode cX1_placeOfGap 29 = .ok (.if_icmp .ne 5, 3) := by decide +kernel
theorem dX1_placeOfGap_32 : decode cX1_placeOfGap 32 = .ok (.iload_n 1, 1) := by decide +kernel
theorem dX1_placeOfGap_33 : decode cX1_placeOfGap 33 = .ok (.ireturn, 1) := by decide +kernel
theorem dX1_placeOfGap_34 : decode cX1_placeOfGap 34 = .ok (.iinc 1 1, 3) := by decide +kernel
theorem dX1_placeOfGap_37 : decode cX1_placeOfGap 37 = .ok (.goto (-35), 3) := by decide +kernel
theorem dX1_placeOfGap_40 : decode cX1_placeOfGap 40 = .ok (.aload_n 0, 1) := by decide +kernel
theorem dX1_placeOfGap_41 : decode cX1_placeOfGap 41 = .ok (.getfield 13, 3) := by decide +kernel
theorem dX1_placeOfGap_44 : decode cX1_placeOfGap 44 = .ok (.ireturn, 1) := by decide +kernel
set_option maxRecDepth 20000 in
theorem ggX1_readText_X1_placeOf : GoodIn wsX1_readText wsX1_placeOf := goodIn_r _ [6, 1, 7, 8, 9, 5, 10, 11, 70, 71, 72, 73, 74, 75, 76] (by decide +kernel) (by decide +kernel)
set_option maxRecDepth 20000 in
theorem gX1_readText_X1_placeOf : GoodIn wsX1_readText (wsV RX1 89 RX1 yX1_placeOf wsX1_placeOf) := goodIn_app (goodIn_of _ (by decide +kernel)) ggX1_readText_X1_placeOf
set_option maxRecDepth 20000 in
theorem ggX1_readText_X1_readSix : GoodIn wsX1_readText wsX1_readSix := goodIn_r _ [15, 16, 1, 17, 18, 19, 20, 21, 22, 23, 24, 25, 26, 27, 28, 29, 30, 31, 32, 5, 33, 7, 8, 9, 10, 11, 34, 35, 36, 37, 38, 39, 40, 41, 42, 43, 44, 45, 2, 3, 4, 6, 46, 47, 48, 49, 50, 51, 52, 53, 54, 55, 56, 57, 58, 59, 60, 70, 71, 72, 73, 74, 75, 76, 77, 78, 79, 80] (by decide +kernel) (by decide +kernel)
set_option maxRecDepth 20000 in
theorem gX1_readText_X1_readSix : GoodIn wsX1_readText (wsV RX1 93 RX1 yX1_readSix wsX1_readSix) := goodIn_app (goodIn_of _ (by decide +kernel)) ggX1_readText_X1_readSix
set_option maxRecDepth 20000 in
theorem ggX1_readText_X1_readFour : GoodIn wsX1_readText wsX1_readFour := goodIn_r _ [64, 16, 65, 1, 17, 18, 19, 20, 21, 22, 23, 24, 25, 26, 27, 28, 29, 2, 3, 4, 5, 6, 7, 8, 9, 10, 11, 66, 67, 68, 69, 50, 51, 52, 53, 70, 71, 72, 73, 74, 75, 76, 77, 78, 79, 80] (by decide +kernel) (by decide +kernel)
set_option maxRecDepth 20000 in
theorem gX1_readText_X1_readFour : GoodIn wsX1_readText (wsV RX1 96 RX1 yX1_readFour wsX1_readFour) := goodIn_app (goodIn_of _ (by decide +kernel)) ggX1_readText_X1_readFour
theorem dX1_readText_0 : decode cX1_readText 0 = .ok (.aload_n 0, 1) := by decide +kernel
theorem dX1_readText_1 : decode cX1_readText 1 = .ok (.bipush 58, 2) := by decide +kernel
theorem dX1_readText_3 : decode cX1_readText 3 = .ok (.iconst 0, 1) := by decide +kernel
theorem dX1_readText_4 : decode cX1_readText 4 = .ok (.invokevirtual 89, 3) := by decide +kernel
theorem dX1_readText_7 : decode cX1_readText 7 = .ok (.aload_n 0, 1) := by decide +kernel
theorem dX1_readText_8 : decode cX1_readText 8 = .ok (.getfield 13, 3) := by decide +kernel
theorem dX1_readText_11 : decode cX1_readText 11 = .ok (.if_icmp .ge 10, 3) := by decide +kernel
theorem dX1_readText_14 : decode cX1_readText 14 = .ok (.aload_n 0, 1) := by decide +kernel
theorem dX1_readText_15 : decode cX1_readText 15 = .ok (.invokevirtual 93, 3) := by decide +kernel
theorem dX1_readText_18 : decode cX1_readText 18 = .ok (.goto 7, 3) := by decide +kernel
theorem dX1_readText_21 : decode cX1_readText 21 = .ok (.aload_n 0, 1) := by decide +kernel
theorem dX1_readText_22 : decode cX1_readText 22 = .ok (.invokevirtual 96, 3) := by decide +kernel
theorem dX1_readText_25 : decode cX1_readText 25 = .ok (.ireturn, 1) := by decide +kernel
set_option maxRecDepth 20000 in
theorem ggX1_readFour_X0_clear : GoodIn wsX1_readFour wsX0_clear := goodIn_r _ [8, 9, 10, 11, 12, 13, 14, 15, 7, 16, 42, 43, 44, 45] (by decide +kernel) (by decide +kernel)
set_option maxRecDepth 20000 in
theorem gX1_readFour_X0_clear : GoodIn wsX1_readFour (wsV RX1 99 RX0 yX0_clear wsX0_clear) := goodIn_app (goodIn_of _ (by decide +kernel)) ggX1_readFour_X0_clear
set_option maxRecDepth 20000 in
theorem ggX1_readFour_X1_placeOf : GoodIn wsX1_readFour wsX1_placeOf := goodIn_r _ [21, 3, 22, 23, 24, 20, 25, 26, 35, 36, 37, 38, 39, 40, 41] (by decide +kernel) (by decide +kernel)
set_option maxRecDepth 20000 in
theorem gX1_readFour_X1_placeOf : GoodIn wsX1_readFour (wsV RX1 89 RX1 yX1_placeOf wsX1_placeOf) := goodIn_app (goodIn_of _ (by decide +kernel)) ggX1_readFour_X1_placeOf
set_option maxRecDepth 20000 in
theorem ggX1_readFour_X1_decimalIn : GoodIn wsX1_readFour wsX1_decimalIn := goodIn_r _ [30, 22, 23, 24, 20, 25, 3, 26, 31, 32, 33, 34, 35, 36, 37, 38, 39, 40, 41] (by decide +kernel) (by decide +kernel)
set_option maxRecDepth 20000 in
theorem gX1_readFour_X1_decimalIn : GoodIn wsX1_readFour (wsV RX1 51 RX1 yX1_decimalIn wsX1_decimalIn) := goodIn_app (goodIn_of _ (by decide +kernel)) ggX1_readFour_X1_decimalIn
theorem dX1_readFour_0 : decode cX1_readFour 0 = .ok (.aload_n 0, 1) := by decide +kernel
theorem dX1_readFour_1 : decode cX1_readFour 1 = .ok (.getfield 33, 3) := by decide +kernel
theorem dX1_readFour_4 : decode cX1_readFour 4 = .ok (.iconst 4, 1) := by decide +kernel
theorem dX1_readFour_5 : decode cX1_readFour 5 = .ok (.invokevirtual 99, 3) := by decide +kernel
theorem dX1_readFour_8 : decode cX1_readFour 8 = .ok (.iconst 0, 1) := by decide +kernel
theorem dX1_readFour_9 : decode cX1_readFour 9 = .ok (.istore_n 1, 1) := by decide +kernel
theorem dX1_readFour_10 : decode cX1_readFour 10 = .ok (.iconst 0, 1) := by decide +kernel
theorem dX1_readFour_11 : decode cX1_readFour 11 = .ok (.istore_n 2, 1) := by decide +kernel
theorem dX1_readFour_12 : decode cX1_readFour 12 = .ok (.iload_n 2, 1) := by decide +kernel
theorem dX1_readFour_13 : decode cX1_readFour 13 = .ok (.iconst 4, 1) := by decide +kernel
theorem dX1_readFour_14 : decode cX1_readFour 14 = .ok (.if_icmp .ge 61, 3) := by decide +kernel
theorem dX1_readFour_17 : decode cX1_readFour 17 = .ok (.aload_n 0, 1) := by decide +kernel
theorem dX1_readFour_18 : decode cX1_readFour 18 = .ok (.bipush 46, 2) := by decide +kernel
theorem dX1_readFour_20 : decode cX1_readFour 20 = .ok (.iload_n 1, 1) := by decide +kernel
theorem dX1_readFour_21 : decode cX1_readFour 21 = .ok (.invokevirtual 89, 3) := by decide +kernel
theorem dX1_readFour_24 : decode cX1_readFour 24 = .ok (.istore_n 3, 1) := by decide +kernel
theorem dX1_readFour_25 : decode cX1_readFour 25 = .ok (.aload_n 0, 1) := by decide +kernel
theorem dX1_readFour_26 : decode cX1_readFour 26 = .ok (.iload_n 1, 1) := by decide +kernel
theorem dX1_readFour_27 : decode cX1_readFour 27 = .ok (.iload_n 3, 1) := by decide +kernel
theorem dX1_readFour_28 : decode cX1_readFour 28 = .ok (.sipush 255, 3) := by decide +kernel
theorem dX1_readFour_31 : decode cX1_readFour 31 = .ok (.invokevirtual 51, 3) := by decide +kernel
theorem dX1_readFour_34 : decode cX1_readFour 34 = .ok (.istore 4, 2) := by decide +kernel
theorem dX1_readFour_36 : decode cX1_readFour 36 = .ok (.iload 4, 2) := by decide +kernel
theorem dX1_readFour_38 : decode cX1_readFour 38 = .ok (.iconst (-1), 1) := by decide +kernel
theorem dX1_readFour_39 : decode cX1_readFour 39 = .ok (.if_icmp .ne 5, 3) := by decide +kernel
theorem dX1_readFour_42 : decode cX1_readFour 42 = .ok (.iconst 0, 1) := by decide +kernel
theorem dX1_readFour_43 : decode cX1_readFour 43 = .ok (.ireturn, 1) := by decide +kernel
theorem dX1_readFour_44 : decode cX1_readFour 44 = .ok (.aload_n 0, 1) := by decide +kernel
theorem dX1_readFour_45 : decode cX1_readFour 45 = .ok (.getfield 33, 3) := by decide +kernel
theorem dX1_readFour_48 : decode cX1_readFour 48 = .ok (.aload_n 0, 1) := by decide +kernel
theorem dX1_readFour_49 : decode cX1_readFour 49 = .ok (.getfield 33, 3) := by decide +kernel
theorem dX1_readFour_52 : decode cX1_readFour 52 = .ok (.getfield 66, 3) := by decide +kernel
theorem dX1_readFour_55 : decode cX1_readFour 55 = .ok (.bipush 8, 2) := by decide +kernel
theorem dX1_readFour_57 : decode cX1_readFour 57 = .ok (.lshl, 1) := by decide +kernel
theorem dX1_readFour_58 : decode cX1_readFour 58 = .ok (.iload 4, 2) := by decide +kernel
theorem dX1_readFour_60 : decode cX1_readFour 60 = .ok (.i2l, 1) := by decide +kernel
theorem dX1_readFour_61 : decode cX1_readFour 61 = .ok (.lor, 1) := by decide +kernel
theorem dX1_readFour_62 : decode cX1_readFour 62 = .ok (.putfield 66, 3) := by decide +kernel
theorem dX1_readFour_65 : decode cX1_readFour 65 = .ok (.iload_n 3, 1) := by decide +kernel
theorem dX1_readFour_66 : decode cX1_readFour 66 = .ok (.iconst 1, 1) := by decide +kernel
theorem dX1_readFour_67 : decode cX1_readFour 67 = .ok (.iadd, 1) := by decide +kernel
theorem dX1_readFour_68 : decode cX1_readFour 68 = .ok (.istore_n 1, 1) := by decide +kernel
theorem dX1_readFour_69 : decode cX1_readFour 69 = .ok (.iinc 2 1, 3) := by decide +kernel
theorem dX1_readFour_72 : decode cX1_readFour 72 = .ok (.goto (-60), 3) := by decide +kernel
theorem dX1_readFour_75 : decode cX1_readFour 75 = .ok (.iload_n 1, 1) := by decide +kernel
theorem dX1_readFour_76 : decode cX1_readFour 76 = .ok (.aload_n 0, 1) := by decide +kernel
theorem dX1_readFour_77 : decode cX1_readFour 77 = .ok (.getfield 13, 3) := by decide +kernel
theorem dX1_readFour_80 : decode cX1_readFour 80 = .ok (.iconst 1, 1) := by decide +kernel
theorem dX1_readFour_81 : decode cX1_readFour 81 = .ok (.iadd, 1) := by decide +kernel
theorem dX1_readFour_82 : decode cX1_readFour 82 = .ok (.if_icmp .ne 7, 3) := by decide +kernel
theorem dX1_readFour_85 : decode cX1_readFour 85 = .ok (.iconst 1, 1) := by decide +kernel
theorem dX1_readFour_86 : decode cX1_readFour 86 = .ok (.goto 4, 3) := by decide +kernel
theorem dX1_readFour_89 : decode cX1_readFour 89 = .ok (.iconst 0, 1) := by decide +kernel
theorem dX1_readFour_90 : decode cX1_readFour 90 = .ok (.ireturn, 1) := by decide +kernel
set_option maxRecDepth 20000 in
theorem ggX1_readSix_X0_clear : GoodIn wsX1_readSix wsX0_clear := goodIn_r _ [7, 8, 9, 10, 11, 12, 13, 14, 6, 15, 64, 65, 66, 67] (by decide +kernel) (by decide +kernel)
set_option maxRecDepth 20000 in
theorem gX1_readSix_X0_clear : GoodIn wsX1_readSix (wsV RX1 99 RX0 yX0_clear wsX0_clear) := goodIn_app (goodIn_of _ (by decide +kernel)) ggX1_readSix_X0_clear
set_option maxRecDepth 20000 in
theorem ggX1_readSix_X1_placeOfGap : GoodIn wsX1_readSix wsX1_placeOfGap := goodIn_r _ [20, 2, 21, 22, 23, 19, 24, 25, 57, 58, 59, 60, 61, 62, 63] (by decide +kernel) (by decide +kernel)
set_option maxRecDepth 20000 in
theorem gX1_readSix_X1_placeOfGap : GoodIn wsX1_readSix (wsV RX1 102 RX1 yX1_placeOfGap wsX1_placeOfGap) := goodIn_app (goodIn_of _ (by decide +kernel)) ggX1_readSix_X1_placeOfGap
set_option maxRecDepth 20000 in
theorem ggX1_readSix_X1_partsIn : GoodIn wsX1_readSix wsX1_partsIn := goodIn_r _ [29, 21, 22, 23, 19, 24, 2, 25, 57, 58, 59, 60, 61, 62, 63] (by decide +kernel) (by decide +kernel)
set_option maxRecDepth 20000 in
theorem gX1_readSix_X1_partsIn : GoodIn wsX1_readSix (wsV RX1 105 RX1 yX1_partsIn wsX1_partsIn) := goodIn_app (goodIn_of _ (by decide +kernel)) ggX1_readSix_X1_partsIn
set_option maxRecDepth 20000 in
theorem ggX1_readSix_X1_readParts : GoodIn wsX1_readSix wsX1_readParts := goodIn_r _ [33, 34, 35, 36, 37, 1, 26, 27, 28, 19, 29, 21, 22, 23, 24, 2, 25, 38, 39, 40, 41, 42, 43, 44, 45, 46, 47, 48, 49, 50, 51, 52, 6, 53, 10, 11, 54, 55, 56, 57, 58, 59, 60, 61, 62, 63, 64, 65, 66, 67] (by decide +kernel) (by decide +kernel)
set_option maxRecDepth 20000 in
theorem gX1_readSix_X1_readParts : GoodIn wsX1_readSix (wsV RX1 109 RX1 yX1_readParts wsX1_readParts) := goodIn_app (goodIn_of _ (by decide +kernel)) ggX1_readSix_X1_readParts
theorem dX1_readSix_0 : decode cX1_readSix 0 = .ok (.aload_n 0, 1) := by decide +kernel
theorem dX1_readSix_1 : decode cX1_readSix 1 = .ok (.getfield 33, 3) := by decide +kernel
theorem dX1_readSix_4 : decode cX1_readSix 4 = .ok (.bipush 6, 2) := by decide +kernel
theorem dX1_readSix_6 : decode cX1_readSix 6 = .ok (.invokevirtual 99, 3) := by decide +kernel
theorem dX1_readSix_9 : decode cX1_readSix 9 = .ok (.aload_n 0, 1) := by decide +kernel
theorem dX1_readSix_10 : decode cX1_readSix 10 = .ok (.invokevirtual 102, 3) := by decide +kernel
theorem dX1_readSix_13 : decode cX1_readSix 13 = .ok (.istore_n 1, 1) := by decide +kernel
theorem dX1_readSix_14 : decode cX1_readSix 14 = .ok (.aload_n 0, 1) := by decide +kernel
theorem dX1_readSix_15 : decode cX1_readSix 15 = .ok (.iconst 0, 1) := by decide +kernel
theorem dX1_readSix_16 : decode cX1_readSix 16 = .ok (.iload_n 1, 1) := by decide +kernel
theorem dX1_readSix_17 : decode cX1_readSix 17 = .ok (.invokevirtual 105, 3) := by decide +kernel
theorem dX1_readSix_20 : decode cX1_readSix 20 = .ok (.istore_n 2, 1) := by decide +kernel
theorem dX1_readSix_21 : decode cX1_readSix 21 = .ok (.aload_n 0, 1) := by decide +kernel
theorem dX1_readSix_22 : decode cX1_readSix 22 = .ok (.iload_n 1, 1) := by decide +kernel
theorem dX1_readSix_23 : decode cX1_readSix 23 = .ok (.iconst 2, 1) := by decide +kernel
theorem dX1_readSix_24 : decode cX1_readSix 24 = .ok (.iadd, 1) := by decide +kernel
theorem dX1_readSix_25 : decode cX1_readSix 25 = .ok (.aload_n 0, 1) := by decide +kernel
theorem dX1_readSix_26 : decode cX1_readSix 26 = .ok (.getfield 13, 3) := by decide +kernel
theorem dX1_readSix_29 : decode cX1_readSix 29 = .ok (.invokevirtual 105, 3) := by decide +kernel
theorem dX1_readSix_32 : decode cX1_readSix 32 = .ok (.istore_n 3, 1) := by decide +kernel
theorem dX1_readSix_33 : decode cX1_readSix 33 = .ok (.iload_n 1, 1) := by decide +kernel
theorem dX1_readSix_34 : decode cX1_readSix 34 = .ok (.aload_n 0, 1) := by decide +kernel
theorem dX1_readSix_35 : decode cX1_readSix 35 = .ok (.getfield 13, 3) := by decide +kernel
theorem dX1_readSix_38 : decode cX1_readSix 38 = .ok (.if_icmp .ge 19, 3) := by decide +kernel
theorem dX1_readSix_41 : decode cX1_readSix 41 = .ok (.iload_n 2, 1) := by decide +kernel
theorem dX1_readSix_42 : decode cX1_readSix 42 = .ok (.iload_n 3, 1) := by decide +kernel
theorem dX1_readSix_43 : decode cX1_readSix 43 = .ok (.iadd, 1) := by decide +kernel
theorem dX1_readSix_44 : decode cX1_readSix 44 = .ok (.bipush 8, 2) := by decide +kernel
theorem dX1_readSix_46 : decode cX1_readSix 46 = .ok (.if_icmp .ge 7, 3) := by decide +kernel
theorem dX1_readSix_49 : decode cX1_readSix 49 = .ok (.iconst 1, 1) := by decide +kernel
theorem dX1_readSix_50 : decode cX1_readSix 50 = .ok (.goto 18, 3) := by decide +kernel
theorem dX1_readSix_53 : decode cX1_readSix 53 = .ok (.iconst 0, 1) := by decide +kernel
theorem dX1_readSix_54 : decode cX1_readSix 54 = .ok (.goto 14, 3) := by decide +kernel
theorem dX1_readSix_57 : decode cX1_readSix 57 = .ok (.iload_n 2, 1) := by decide +kernel
theorem dX1_readSix_58 : decode cX1_readSix 58 = .ok (.bipush 8, 2) := by decide +kernel
theorem dX1_readSix_60 : decode cX1_readSix 60 = .ok (.if_icmp .ne 7, 3) := by decide +kernel
theorem dX1_readSix_63 : decode cX1_readSix 63 = .ok (.iconst 1, 1) := by decide +kernel
theorem dX1_readSix_64 : decode cX1_readSix 64 = .ok (.goto 4, 3) := by decide +kernel
theorem dX1_readSix_67 : decode cX1_readSix 67 = .ok (.iconst 0, 1) := by decide +kernel
theorem dX1_readSix_68 : decode cX1_readSix 68 = .ok (.istore 4, 2) := by decide +kernel
theorem dX1_readSix_70 : decode cX1_readSix 70 = .ok (.iload 4, 2) := by decide +kernel
theorem dX1_readSix_72 : decode cX1_readSix 72 = .ok (.ifCond .eq 35, 3) := by decide +kernel
theorem dX1_readSix_75 : decode cX1_readSix 75 = .ok (.aload_n 0, 1) := by decide +kernel
theorem dX1_readSix_76 : decode cX1_readSix 76 = .ok (.iconst 0, 1) := by decide +kernel
theorem dX1_readSix_77 : decode cX1_readSix 77 = .ok (.iload_n 1, 1) := by decide +kernel
theorem dX1_readSix_78 : decode cX1_readSix 78 = .ok (.iconst 0, 1) := by decide +kernel
theorem dX1_readSix_79 : decode cX1_readSix 79 = .ok (.invokevirtual 109, 3) := by decide +kernel
theorem dX1_readSix_82 : decode cX1_readSix 82 = .ok (.ifCond .eq 25, 3) := by decide +kernel
theorem dX1_readSix_85 : decode cX1_readSix 85 = .ok (.aload_n 0, 1) := by decide +kernel
theorem dX1_readSix_86 : decode cX1_readSix 86 = .ok (.iload_n 1, 1) := by decide +kernel
theorem dX1_readSix_87 : decode cX1_readSix 87 = .ok (.iconst 2, 1) := by decide +kernel
theorem dX1_readSix_88 : decode cX1_readSix 88 = .ok (.iadd, 1) := by decide +kernel
theorem dX1_readSix_89 : decode cX1_readSix 89 = .ok (.aload_n 0, 1) := by decide +kernel
theorem dX1_readSix_90 : decode cX1_readSix 90 = .ok (.getfield 13, 3) := by decide +kernel
theorem dX1_readSix_93 : decode cX1_readSix 93 = .ok (.bipush 8, 2) := by decide +kernel
theorem dX1_readSix_95 : decode cX1_readSix 95 = .ok (.iload_n 3, 1) := by decide +kernel
theorem dX1_readSix_96 : decode cX1_readSix 96 = .ok (.isub, 1) := by decide +kernel
theorem dX1_readSix_97 : decode cX1_readSix 97 = .ok (.invokevirtual 109, 3) := by decide +kernel
theorem dX1_readSix_100 : decode cX1_readSix 100 = .ok (.ifCond .eq 7, 3) := by decide +kernel
theorem dX1_readSix_103 : decode cX1_readSix 103 = .ok (.iconst 1, 1) := by decide +kernel
theorem dX1_readSix_104 : decode cX1_readSix 104 = .ok (.goto 4, 3) := by decide +kernel
theorem dX1_readSix_107 : decode cX1_readSix 107 = .ok (.iconst 0, 1) := by decide +kernel
theorem dX1_readSix_108 : decode cX1_readSix 108 = .ok (.ireturn, 1) := by decide +kernel
set_option maxRecDepth 20000 in
theorem ggX1_partsIn_X1_tapeAt : GoodIn wsX1_partsIn wsX1_tapeAt := goodIn_r _ [5, 6, 7, 8, 9, 10, 11, 12, 13, 14] (by decide +kernel) (by decide +kernel)
set_option maxRecDepth 20000 in
theorem gX1_partsIn_X1_tapeAt : GoodIn wsX1_partsIn (wsV RX1 85 RX1 yX1_tapeAt wsX1_tapeAt) := goodIn_app (goodIn_of _ (by decide +kernel)) ggX1_partsIn_X1_tapeAt
theorem dX1_partsIn_0 : decode cX1_partsIn 0 = .ok (.iload_n 1, 1) := by decide +kernel
theorem dX1_partsIn_1 : decode cX1_partsIn 1 = .ok (.iload_n 2, 1) := by decide +kernel
theorem dX1_partsIn_2 : decode cX1_partsIn 2 = .ok (.if_icmp .lt 5, 3) := by decide +kernel
theorem dX1_partsIn_5 : decode cX1_partsIn 5 = .ok (.iconst 0, 1) := by decide +kernel
theorem dX1_partsIn_6 : decode cX1_partsIn 6 = .ok (.ireturn, 1) := by decide +kernel
theorem dX1_partsIn_7 : decode cX1_partsIn 7 = .ok (.iconst 1, 1) := by decide +kernel
theorem dX1_partsIn_8 : decode cX1_partsIn 8 = .ok (.istore_n 3, 1) := by decide +kernel
theorem dX1_partsIn_9 : decode cX1_partsIn 9 = .ok (.iload_n 1, 1) := by decide +kernel
theorem dX1_partsIn_10 : decode cX1_partsIn 10 = .ok (.istore 4, 2) := by decide +kernel
theorem dX1_partsIn_12 : decode cX1_partsIn 12 = .ok (.iload 4, 2) := by decide +kernel
theorem dX1_partsIn_14 : decode cX1_partsIn 14 = .ok (.iload_n 2, 1) := by decide +kernel
theorem dX1_partsIn_15 : decode cX1_partsIn 15 = .ok (.if_icmp .ge 23, 3) := by decide +kernel
theorem dX1_partsIn_18 : decode cX1_partsIn 18 = .ok (.aload_n 0, 1) := by decide +kernel
theorem dX1_partsIn_19 : decode cX1_partsIn 19 = .ok (.iload 4, 2) := by decide +kernel
theorem dX1_partsIn_21 : decode cX1_partsIn 21 = .ok (.invokevirtual 85, 3) := by decide +kernel
theorem dX1_partsIn_24 : decode cX1_partsIn 24 = .ok (.bipush 58, 2) := by decide +kernel
theorem dX1_partsIn_26 : decode cX1_partsIn 26 = .ok (.if_icmp .ne 6, 3) := by decide +kernel
theorem dX1_partsIn_29 : decode cX1_partsIn 29 = .ok (.iinc 3 1, 3) := by decide +kernel
theorem dX1_partsIn_32 : decode cX1_partsIn 32 = .ok (.iinc 4 1, 3) := by decide +kernel
theorem dX1_partsIn_35 : decode cX1_partsIn 35 = .ok (.goto (-23), 3) := by decide +kernel
theorem dX1_partsIn_38 : decode cX1_partsIn 38 = .ok (.iload_n 3, 1) := by decide +kernel
theorem dX1_partsIn_39 : decode cX1_partsIn 39 = .ok (.ireturn, 1) := by decide +kernel
set_option maxRecDepth 20000 in
theorem ggX1_readParts_X1_partsIn : GoodIn wsX1_readParts wsX1_partsIn := goodIn_r _ [10, 11, 12, 13, 9, 14, 15, 16, 39, 40, 41, 42, 43, 44, 45] (by decide +kernel) (by decide +kernel)
set_option maxRecDepth 20000 in
theorem gX1_readParts_X1_partsIn : GoodIn wsX1_readParts (wsV RX1 105 RX1 yX1_partsIn wsX1_partsIn) := goodIn_app (goodIn_of _ (by decide +kernel)) ggX1_readParts_X1_partsIn
set_option maxRecDepth 20000 in
theorem ggX1_readParts_X1_placeOf : GoodIn wsX1_readParts wsX1_placeOf := goodIn_r _ [20, 15, 11, 12, 13, 9, 14, 16, 39, 40, 41, 42, 43, 44, 45] (by decide +kernel) (by decide +kernel)
set_option maxRecDepth 20000 in
theorem gX1_readParts_X1_placeOf : GoodIn wsX1_readParts (wsV RX1 89 RX1 yX1_placeOf wsX1_placeOf) := goodIn_app (goodIn_of _ (by decide +kernel)) ggX1_readParts_X1_placeOf
set_option maxRecDepth 20000 in
theorem ggX1_readParts_X1_hexadecimalIn : GoodIn wsX1_readParts wsX1_hexadecimalIn := goodIn_r _ [24, 25, 26, 27, 9, 28, 11, 12, 13, 14, 15, 16, 39, 40, 41, 42, 43, 44, 45] (by decide +kernel) (by decide +kernel)
set_option maxRecDepth 20000 in
theorem gX1_readParts_X1_hexadecimalIn : GoodIn wsX1_readParts (wsV RX1 118 RX1 yX1_hexadecimalIn wsX1_hexadecimalIn) := goodIn_app (goodIn_of _ (by decide +kernel)) ggX1_readParts_X1_hexadecimalIn
set_option maxRecDepth 20000 in
theorem ggX1_readParts_X0_setPart : GoodIn wsX1_readParts wsX0_setPart := goodIn_r _ [33, 34, 35, 36, 37, 32, 38, 46, 47, 48, 49] (by decide +kernel) (by decide +kernel)
set_option maxRecDepth 20000 in
theorem gX1_readParts_X0_setPart : GoodIn wsX1_readParts (wsV RX1 121 RX0 yX0_setPart wsX0_setPart) := goodIn_app (goodIn_of _ (by decide +kernel)) ggX1_readParts_X0_setPart
theorem dX1_readParts_0 : decode cX1_readParts 0 = .ok (.aload_n 0, 1) := by decide +kernel
theorem dX1_readParts_1 : decode cX1_readParts 1 = .ok (.iload_n 1, 1) := by decide +kernel
theorem dX1_readParts_2 : decode cX1_readParts 2 = .ok (.iload_n 2, 1) := by decide +kernel
theorem dX1_readParts_3 : decode cX1_readParts 3 = .ok (.invokevirtual 105, 3) := by decide +kernel
theorem dX1_readParts_6 : decode cX1_readParts 6 = .ok (.istore 4, 2) := by decide +kernel
theorem dX1_readParts_8 : decode cX1_readParts 8 = .ok (.iload_n 1, 1) := by decide +kernel
theorem dX1_readParts_9 : decode cX1_readParts 9 = .ok (.istore 5, 2) := by decide +kernel
theorem dX1_readParts_11 : decode cX1_readParts 11 = .ok (.iconst 0, 1) := by decide +kernel
theorem dX1_readParts_12 : decode cX1_readParts 12 = .ok (.istore 6, 2) := by decide +kernel
theorem dX1_readParts_14 : decode cX1_readParts 14 = .ok (.iload 6, 2) := by decide +kernel
theorem dX1_readParts_16 : decode cX1_readParts 16 = .ok (.iload 4, 2) := by decide +kernel
theorem dX1_readParts_18 : decode cX1_readParts 18 = .ok (.if_icmp .ge 60, 3) := by decide +kernel
theorem dX1_readParts_21 : decode cX1_readParts 21 = .ok (.aload_n 0, 1) := by decide +kernel
theorem dX1_readParts_22 : decode cX1_readParts 22 = .ok (.bipush 58, 2) := by decide +kernel
theorem dX1_readParts_24 : decode cX1_readParts 24 = .ok (.iload 5, 2) := by decide +kernel
theorem dX1_readParts_26 : decode cX1_readParts 26 = .ok (.invokevirtual 89, 3) := by decide +kernel
theorem dX1_readParts_29 : decode cX1_readParts 29 = .ok (.iload_n 2, 1) := by decide +kernel
theorem dX1_readParts_30 : decode cX1_readParts 30 = .ok (.invokestatic 113, 3) := by decide +kernel
theorem dX1_readParts_33 : decode cX1_readParts 33 = .ok (.istore 7, 2) := by decide +kernel
theorem dX1_readParts_35 : decode cX1_readParts 35 = .ok (.aload_n 0, 1) := by decide +kernel
theorem dX1_readParts_36 : decode cX1_readParts 36 = .ok (.iload 5, 2) := by decide +kernel
theorem dX1_readParts_38 : decode cX1_readParts 38 = .ok (.iload 7, 2) := by decide +kernel
theorem dX1_readParts_40 : decode cX1_readParts 40 = .ok (.invokevirtual 118, 3) := by decide +kernel
theorem dX1_readParts_43 : decode cX1_readParts 43 = .ok (.istore 8, 2) := by decide +kernel
theorem dX1_readParts_45 : decode cX1_readParts 45 = .ok (.iload 8, 2) := by decide +kernel
theorem dX1_readParts_47 : decode cX1_readParts 47 = .ok (.iconst (-1), 1) := by decide +kernel
theorem dX1_readParts_48 : decode cX1_readParts 48 = .ok (.if_icmp .ne 5, 3) := by decide +kernel
theorem dX1_readParts_51 : decode cX1_readParts 51 = .ok (.iconst 0, 1) := by decide +kernel
theorem dX1_readParts_52 : decode cX1_readParts 52 = .ok (.ireturn, 1) := by decide +kernel
theorem dX1_readParts_53 : decode cX1_readParts 53 = .ok (.aload_n 0, 1) := by decide +kernel
theorem dX1_readParts_54 : decode cX1_readParts 54 = .ok (.getfield 33, 3) := by decide +kernel
theorem dX1_readParts_57 : decode cX1_readParts 57 = .ok (.iload_n 3, 1) := by decide +kernel
theorem dX1_readParts_58 : decode cX1_readParts 58 = .ok (.iload 6, 2) := by decide +kernel
theorem dX1_readParts_60 : decode cX1_readParts 60 = .ok (.iadd, 1) := by decide +kernel
theorem dX1_readParts_61 : decode cX1_readParts 61 = .ok (.iload 8, 2) := by decide +kernel
theorem dX1_readParts_63 : decode cX1_readParts 63 = .ok (.invokevirtual 121, 3) := by decide +kernel
theorem dX1_readParts_66 : decode cX1_readParts 66 = .ok (.iload 7, 2) := by decide +kernel
theorem dX1_readParts_68 : decode cX1_readParts 68 = .ok (.iconst 1, 1) := by decide +kernel
theorem dX1_readParts_69 : decode cX1_readParts 69 = .ok (.iadd, 1) := by decide +kernel
theorem dX1_readParts_70 : decode cX1_readParts 70 = .ok (.istore 5, 2) := by decide +kernel
theorem dX1_readParts_72 : decode cX1_readParts 72 = .ok (.iinc 6 1, 3) := by decide +kernel
theorem dX1_readParts_75 : decode cX1_readParts 75 = .ok (.goto (-61), 3) := by decide +kernel
theorem dX1_readParts_78 : decode cX1_readParts 78 = .ok (.iconst 1, 1) := by decide +kernel
theorem dX1_readParts_79 : decode cX1_readParts 79 = .ok (.ireturn, 1) := by decide +kernel
set_option maxRecDepth 20000 in
theorem ggX1_decimalIn_X1_tapeAt : GoodIn wsX1_decimalIn wsX1_tapeAt := goodIn_r _ [5, 6, 7, 12, 13, 14, 15, 16, 17, 18] (by decide +kernel) (by decide +kernel)
set_option maxRecDepth 20000 in
theorem gX1_decimalIn_X1_tapeAt : GoodIn wsX1_decimalIn (wsV RX1 85 RX1 yX1_tapeAt wsX1_tapeAt) := goodIn_app (goodIn_of _ (by decide +kernel)) ggX1_decimalIn_X1_tapeAt
set_option maxRecDepth 20000 in
theorem ggX1_decimalIn_X1_digitAt : GoodIn wsX1_decimalIn wsX1_digitAt := goodIn_r _ [11, 1, 2, 3, 4, 5, 6, 7, 12, 13, 14, 15, 16, 17, 18] (by decide +kernel) (by decide +kernel)
set_option maxRecDepth 20000 in
theorem gX1_decimalIn_X1_digitAt : GoodIn wsX1_decimalIn (wsV RX1 125 RX1 yX1_digitAt wsX1_digitAt) := goodIn_app (goodIn_of _ (by decide +kernel)) ggX1_decimalIn_X1_digitAt
theorem dX1_decimalIn_0 : decode cX1_decimalIn 0 = .ok (.aload_n 0, 1) := by decide +kernel
theorem dX1_decimalIn_1 : decode cX1_decimalIn 1 = .ok (.iload_n 1, 1) := by decide +kernel
theorem dX1_decimalIn_2 : decode cX1_decimalIn 2 = .ok (.invokevirtual 85, 3) := by decide +kernel
theorem dX1_decimalIn_5 : decode cX1_decimalIn 5 = .ok (.bipush 48, 2) := by decide +kernel
theorem dX1_decimalIn_7 : decode cX1_decimalIn 7 = .ok (.if_icmp .ne 14, 3) := by decide +kernel
theorem dX1_decimalIn_10 : decode cX1_decimalIn 10 = .ok (.iload_n 2, 1) := by decide +kernel
theorem dX1_decimalIn_11 : decode cX1_decimalIn 11 = .ok (.iload_n 1, 1) := by decide +kernel
theorem dX1_decimalIn_12 : decode cX1_decimalIn 12 = .ok (.isub, 1) := by decide +kernel
theorem dX1_decimalIn_13 : decode cX1_decimalIn 13 = .ok (.iconst 1, 1) := by decide +kernel
theorem dX1_decimalIn_14 : decode cX1_decimalIn 14 = .ok (.if_icmp .le 7, 3) := by decide +kernel
theorem dX1_decimalIn_17 : decode cX1_decimalIn 17 = .ok (.iconst 1, 1) := by decide +kernel
theorem dX1_decimalIn_18 : decode cX1_decimalIn 18 = .ok (.goto 4, 3) := by decide +kernel
theorem dX1_decimalIn_21 : decode cX1_decimalIn 21 = .ok (.iconst 0, 1) := by decide +kernel
theorem dX1_decimalIn_22 : decode cX1_decimalIn 22 = .ok (.istore 4, 2) := by decide +kernel
theorem dX1_decimalIn_24 : decode cX1_decimalIn 24 = .ok (.iload_n 1, 1) := by decide +kernel
theorem dX1_decimalIn_25 : decode cX1_decimalIn 25 = .ok (.iload_n 2, 1) := by decide +kernel
theorem dX1_decimalIn_26 : decode cX1_decimalIn 26 = .ok (.if_icmp .ge 8, 3) := by decide +kernel
theorem dX1_decimalIn_29 : decode cX1_decimalIn 29 = .ok (.iload 4, 2) := by decide +kernel
theorem dX1_decimalIn_31 : decode cX1_decimalIn 31 = .ok (.ifCond .eq 5, 3) := by decide +kernel
theorem dX1_decimalIn_34 : decode cX1_decimalIn 34 = .ok (.iconst (-1), 1) := by decide +kernel
theorem dX1_decimalIn_35 : decode cX1_decimalIn 35 = .ok (.ireturn, 1) := by decide +kernel
theorem dX1_decimalIn_36 : decode cX1_decimalIn 36 = .ok (.iconst 0, 1) := by decide +kernel
theorem dX1_decimalIn_37 : decode cX1_decimalIn 37 = .ok (.istore 5, 2) := by decide +kernel
theorem dX1_decimalIn_39 : decode cX1_decimalIn 39 = .ok (.iload_n 1, 1) := by decide +kernel
theorem dX1_decimalIn_40 : decode cX1_decimalIn 40 = .ok (.istore 6, 2) := by decide +kernel
theorem dX1_decimalIn_42 : decode cX1_decimalIn 42 = .ok (.iload 6, 2) := by decide +kernel
theorem dX1_decimalIn_44 : decode cX1_decimalIn 44 = .ok (.iload_n 2, 1) := by decide +kernel
theorem dX1_decimalIn_45 : decode cX1_decimalIn 45 = .ok (.if_icmp .ge 50, 3) := by decide +kernel
theorem dX1_decimalIn_48 : decode cX1_decimalIn 48 = .ok (.aload_n 0, 1) := by decide +kernel
theorem dX1_decimalIn_49 : decode cX1_decimalIn 49 = .ok (.iload 6, 2) := by decide +kernel
theorem dX1_decimalIn_51 : decode cX1_decimalIn 51 = .ok (.invokevirtual 125, 3) := by decide +kernel
theorem dX1_decimalIn_54 : decode cX1_decimalIn 54 = .ok (.istore 7, 2) := by decide +kernel
theorem dX1_decimalIn_56 : decode cX1_decimalIn 56 = .ok (.iload 7, 2) := by decide +kernel
theorem dX1_decimalIn_58 : decode cX1_decimalIn 58 = .ok (.iconst (-1), 1) := by decide +kernel
theorem dX1_decimalIn_59 : decode cX1_decimalIn 59 = .ok (.if_icmp .eq 10, 3) := by decide +kernel
theorem dX1_decimalIn_62 : decode cX1_decimalIn 62 = .ok (.iload 7, 2) := by decide +kernel
theorem dX1_decimalIn_64 : decode cX1_decimalIn 64 = .ok (.bipush 9, 2) := by decide +kernel
theorem dX1_decimalIn_66 : decode cX1_decimalIn 66 = .ok (.if_icmp .le 5, 3) := by decide +kernel
theorem dX1_decimalIn_69 : decode cX1_decimalIn 69 = .ok (.iconst (-1), 1) := by decide +kernel
theorem dX1_decimalIn_70 : decode cX1_decimalIn 70 = .ok (.ireturn, 1) := by decide +kernel
theorem dX1_decimalIn_71 : decode cX1_decimalIn 71 = .ok (.iload 5, 2) := by decide +kernel
theorem dX1_decimalIn_73 : decode cX1_decimalIn 73 = .ok (.bipush 10, 2) := by decide +kernel
theorem dX1_decimalIn_75 : decode cX1_decimalIn 75 = .ok (.imul, 1) := by decide +kernel
theorem dX1_decimalIn_76 : decode cX1_decimalIn 76 = .ok (.iload 7, 2) := by decide +kernel
theorem dX1_decimalIn_78 : decode cX1_decimalIn 78 = .ok (.iadd, 1) := by decide +kernel
theorem dX1_decimalIn_79 : decode cX1_decimalIn 79 = .ok (.istore 5, 2) := by decide +kernel
theorem dX1_decimalIn_81 : decode cX1_decimalIn 81 = .ok (.iload 5, 2) := by decide +kernel
theorem dX1_decimalIn_83 : decode cX1_decimalIn 83 = .ok (.iload_n 3, 1) := by decide +kernel
theorem dX1_decimalIn_84 : decode cX1_decimalIn 84 = .ok (.if_icmp .le 5, 3) := by decide +kernel
theorem dX1_decimalIn_87 : decode cX1_decimalIn 87 = .ok (.iconst (-1), 1) := by decide +kernel
theorem dX1_decimalIn_88 : decode cX1_decimalIn 88 = .ok (.ireturn, 1) := by decide +kernel
theorem dX1_decimalIn_89 : decode cX1_decimalIn 89 = .ok (.iinc 6 1, 3) := by decide +kernel
theorem dX1_decimalIn_92 : decode cX1_decimalIn 92 = .ok (.goto (-50), 3) := by decide +kernel
theorem dX1_decimalIn_95 : decode cX1_decimalIn 95 = .ok (.iload 5, 2) := by decide +kernel
theorem dX1_decimalIn_97 : decode cX1_decimalIn 97 = .ok (.ireturn, 1) := by decide +kernel
set_option maxRecDepth 20000 in
theorem ggX1_hexadecimalIn_X1_digitAt : GoodIn wsX1_hexadecimalIn wsX1_digitAt := goodIn_r _ [5, 6, 7, 8, 4, 9, 10, 11, 12, 13, 14, 15, 16, 17, 18] (by decide +kernel) (by decide +kernel)
set_option maxRecDepth 20000 in
theorem gX1_hexadecimalIn_X1_digitAt : GoodIn wsX1_hexadecimalIn (wsV RX1 125 RX1 yX1_digitAt wsX1_digitAt) := goodIn_app (goodIn_of _ (by decide +kernel)) ggX1_hexadecimalIn_X1_digitAt
theorem dX1_hexadecimalIn_0 : decode cX1_hexadecimalIn 0 = .ok (.iload_n 1, 1) := by decide +kernel
theorem dX1_hexadecimalIn_1 : decode cX1_hexadecimalIn 1 = .ok (.iload_n 2, 1) := by decide +kernel
theorem dX1_hexadecimalIn_2 : decode cX1_hexadecimalIn 2 = .ok (.if_icmp .ge 10, 3) := by decide +kernel
theorem dX1_hexadecimalIn_5 : decode cX1_hexadecimalIn 5 = .ok (.iload_n 2, 1) := by decide +kernel
theorem dX1_hexadecimalIn_6 : decode cX1_hexadecimalIn 6 = .ok (.iload_n 1, 1) := by decide +kernel
theorem dX1_hexadecimalIn_7 : decode cX1_hexadecimalIn 7 = .ok (.isub, 1) := by decide +kernel
theorem dX1_hexadecimalIn_8 : decode cX1_hexadecimalIn 8 = .ok (.iconst 4, 1) := by decide +kernel
theorem dX1_hexadecimalIn_9 : decode cX1_hexadecimalIn 9 = .ok (.if_icmp .le 5, 3) := by decide +kernel
theorem dX1_hexadecimalIn_12 : decode cX1_hexadecimalIn 12 = .ok (.iconst (-1), 1) := by decide +kernel
theorem dX1_hexadecimalIn_13 : decode cX1_hexadecimalIn 13 = .ok (.ireturn, 1) := by decide +kernel
theorem dX1_hexadecimalIn_14 : decode cX1_hexadecimalIn 14 = .ok (.iconst 0, 1) := by decide +kernel
theorem dX1_hexadecimalIn_15 : decode cX1_hexadecimalIn 15 = .ok (.istore_n 3, 1) := by decide +kernel
theorem dX1_hexadecimalIn_16 : decode cX1_hexadecimalIn 16 = .ok (.iload_n 1, 1) := by decide +kernel
theorem dX1_hexadecimalIn_17 : decode cX1_hexadecimalIn 17 = .ok (.istore 4, 2) := by decide +kernel
theorem dX1_hexadecimalIn_19 : decode cX1_hexadecimalIn 19 = .ok (.iload 4, 2) := by decide +kernel
theorem dX1_hexadecimalIn_21 : decode cX1_hexadecimalIn 21 = .ok (.iload_n 2, 1) := by decide +kernel
theorem dX1_hexadecimalIn_22 : decode cX1_hexadecimalIn 22 = .ok (.if_icmp .ge 32, 3) := by decide +kernel
theorem dX1_hexadecimalIn_25 : decode cX1_hexadecimalIn 25 = .ok (.aload_n 0, 1) := by decide +kernel
theorem dX1_hexadecimalIn_26 : decode cX1_hexadecimalIn 26 = .ok (.iload 4, 2) := by decide +kernel
theorem dX1_hexadecimalIn_28 : decode cX1_hexadecimalIn 28 = .ok (.invokevirtual 125, 3) := by decide +kernel
theorem dX1_hexadecimalIn_31 : decode cX1_hexadecimalIn 31 = .ok (.istore 5, 2) := by decide +kernel
theorem dX1_hexadecimalIn_33 : decode cX1_hexadecimalIn 33 = .ok (.iload 5, 2) := by decide +kernel
theorem dX1_hexadecimalIn_35 : decode cX1_hexadecimalIn 35 = .ok (.iconst (-1), 1) := by decide +kernel
theorem dX1_hexadecimalIn_36 : decode cX1_hexadecimalIn 36 = .ok (.if_icmp .ne 5, 3) := by decide +kernel
theorem dX1_hexadecimalIn_39 : decode cX1_hexadecimalIn 39 = .ok (.iconst (-1), 1) := by decide +kernel
theorem dX1_hexadecimalIn_40 : decode cX1_hexadecimalIn 40 = .ok (.ireturn, 1) := by decide +kernel
theorem dX1_hexadecimalIn_41 : decode cX1_hexadecimalIn 41 = .ok (.iload_n 3, 1) := by decide +kernel
theorem dX1_hexadecimalIn_42 : decode cX1_hexadecimalIn 42 = .ok (.iconst 4, 1) := by decide +kernel
theorem dX1_hexadecimalIn_43 : decode cX1_hexadecimalIn 43 = .ok (.ishl, 1) := by decide +kernel
theorem dX1_hexadecimalIn_44 : decode cX1_hexadecimalIn 44 = .ok (.iload 5, 2) := by decide +kernel
theorem dX1_hexadecimalIn_46 : decode cX1_hexadecimalIn 46 = .ok (.ior, 1) := by decide +kernel
theorem dX1_hexadecimalIn_47 : decode cX1_hexadecimalIn 47 = .ok (.istore_n 3, 1) := by decide +kernel
theorem dX1_hexadecimalIn_48 : decode cX1_hexadecimalIn 48 = .ok (.iinc 4 1, 3) := by decide +kernel
theorem dX1_hexadecimalIn_51 : decode cX1_hexadecimalIn 51 = .ok (.goto (-32), 3) := by decide +kernel
theorem dX1_hexadecimalIn_54 : decode cX1_hexadecimalIn 54 = .ok (.iload_n 3, 1) := by decide +kernel
theorem dX1_hexadecimalIn_55 : decode cX1_hexadecimalIn 55 = .ok (.ireturn, 1) := by decide +kernel
set_option maxRecDepth 20000 in
theorem ggX1_digitAt_X1_tapeAt : GoodIn wsX1_digitAt wsX1_tapeAt := goodIn_r _ [5, 6, 7, 8, 9, 10, 11, 12, 13, 14] (by decide +kernel) (by decide +kernel)
set_option maxRecDepth 20000 in
theorem gX1_digitAt_X1_tapeAt : GoodIn wsX1_digitAt (wsV RX1 85 RX1 yX1_tapeAt wsX1_tapeAt) := goodIn_app (goodIn_of _ (by decide +kernel)) ggX1_digitAt_X1_tapeAt
theorem dX1_digitAt_0 : decode cX1_digitAt 0 = .ok (.aload_n 0, 1) := by decide +kernel
theorem dX1_digitAt_1 : decode cX1_digitAt 1 = .ok (.iload_n 1, 1) := by decide +kernel
theorem dX1_digitAt_2 : decode cX1_digitAt 2 = .ok (.invokevirtual 85, 3) := by decide +kernel
theorem dX1_digitAt_5 : decode cX1_digitAt 5 = .ok (.istore_n 2, 1) := by decide +kernel
theorem dX1_digitAt_6 : decode cX1_digitAt 6 = .ok (.iload_n 2, 1) := by decide +kernel
theorem dX1_digitAt_7 : decode cX1_digitAt 7 = .ok (.bipush 48, 2) := by decide +kernel
theorem dX1_digitAt_9 : decode cX1_digitAt 9 = .ok (.if_icmp .lt 14, 3) := by decide +kernel
theorem dX1_digitAt_12 : decode cX1_digitAt 12 = .ok (.iload_n 2, 1) := by decide +kernel
theorem dX1_digitAt_13 : decode cX1_digitAt 13 = .ok (.bipush 57, 2) := by decide +kernel
theorem dX1_digitAt_15 : decode cX1_digitAt 15 = .ok (.if_icmp .gt 8, 3) := by decide +kernel
theorem dX1_digitAt_18 : decode cX1_digitAt 18 = .ok (.iload_n 2, 1) := by decide +kernel
theorem dX1_digitAt_19 : decode cX1_digitAt 19 = .ok (.bipush 48, 2) := by decide +kernel
theorem dX1_digitAt_21 : decode cX1_digitAt 21 = .ok (.isub, 1) := by decide +kernel
theorem dX1_digitAt_22 : decode cX1_digitAt 22 = .ok (.ireturn, 1) := by decide +kernel
theorem dX1_digitAt_23 : decode cX1_digitAt 23 = .ok (.iload_n 2, 1) := by decide +kernel
theorem dX1_digitAt_24 : decode cX1_digitAt 24 = .ok (.bipush 97, 2) := by decide +kernel
theorem dX1_digitAt_26 : decode cX1_digitAt 26 = .ok (.if_icmp .lt 17, 3) := by decide +kernel
theorem dX1_digitAt_29 : decode cX1_digitAt 29 = .ok (.iload_n 2, 1) := by decide +kernel
theorem dX1_digitAt_30 : decode cX1_digitAt 30 = .ok (.bipush 102, 2) := by decide +kernel
theorem dX1_digitAt_32 : decode cX1_digitAt 32 = .ok (.if_icmp .gt 11, 3) := by decide +kernel
theorem dX1_digitAt_35 : decode cX1_digitAt 35 = .ok (.iload_n 2, 1) := by decide +kernel
theorem dX1_digitAt_36 : decode cX1_digitAt 36 = .ok (.bipush 97, 2) := by decide +kernel
theorem dX1_digitAt_38 : decode cX1_digitAt 38 = .ok (.isub, 1) := by decide +kernel
theorem dX1_digitAt_39 : decode cX1_digitAt 39 = .ok (.bipush 10, 2) := by decide +kernel
theorem dX1_digitAt_41 : decode cX1_digitAt 41 = .ok (.iadd, 1) := by decide +kernel
theorem dX1_digitAt_42 : decode cX1_digitAt 42 = .ok (.ireturn, 1) := by decide +kernel
theorem dX1_digitAt_43 : decode cX1_digitAt 43 = .ok (.iload_n 2, 1) := by decide +kernel
theorem dX1_digitAt_44 : decode cX1_digitAt 44 = .ok (.bipush 65, 2) := by decide +kernel
theorem dX1_digitAt_46 : decode cX1_digitAt 46 = .ok (.if_icmp .lt 17, 3) := by decide +kernel
theorem dX1_digitAt_49 : decode cX1_digitAt 49 = .ok (.iload_n 2, 1) := by decide +kernel
theorem dX1_digitAt_50 : decode cX1_digitAt 50 = .ok (.bipush 70, 2) := by decide +kernel
theorem dX1_digitAt_52 : decode cX1_digitAt 52 = .ok (.if_icmp .gt 11, 3) := by decide +kernel
theorem dX1_digitAt_55 : decode cX1_digitAt 55 = .ok (.iload_n 2, 1) := by decide +kernel
theorem dX1_digitAt_56 : decode cX1_digitAt 56 = .ok (.bipush 65, 2) := by decide +kernel
theorem dX1_digitAt_58 : decode cX1_digitAt 58 = .ok (.isub, 1) := by decide +kernel
theorem dX1_digitAt_59 : decode cX1_digitAt 59 = .ok (.bipush 10, 2) := by decide +kernel
theorem dX1_digitAt_61 : decode cX1_digitAt 61 = .ok (.iadd, 1) := by decide +kernel
theorem dX1_digitAt_62 : decode cX1_digitAt 62 = .ok (.ireturn, 1) := by decide +kernel
theorem dX1_digitAt_63 : decode cX1_digitAt 63 = .ok (.iconst (-1), 1) := by decide +kernel
theorem dX1_digitAt_64 : decode cX1_digitAt 64 = .ok (.ireturn, 1) := by decide +kernel
set_option maxRecDepth 20000 in
theorem ggX1_writeNumbers_X1_writeByte : GoodIn wsX1_writeNumbers wsX1_writeByte := goodIn_r _ [7, 8, 9, 18, 19, 20, 21, 22, 23, 24] (by decide +kernel) (by decide +kernel)
set_option maxRecDepth 20000 in
theorem gX1_writeNumbers_X1_writeByte : GoodIn wsX1_writeNumbers (wsV RX1 128 RX1 yX1_writeByte wsX1_writeByte) := goodIn_app (goodIn_of _ (by decide +kernel)) ggX1_writeNumbers_X1_writeByte
set_option maxRecDepth 20000 in
theorem ggX1_writeNumbers_X1_writeDecimal : GoodIn wsX1_writeNumbers wsX1_writeDecimal := goodIn_r _ [13, 14, 15, 16, 6, 17, 3, 4, 5, 7, 8, 9, 18, 19, 20, 21, 22, 23, 24] (by decide +kernel) (by decide +kernel)
set_option maxRecDepth 20000 in
theorem gX1_writeNumbers_X1_writeDecimal : GoodIn wsX1_writeNumbers (wsV RX1 131 RX1 yX1_writeDecimal wsX1_writeDecimal) := goodIn_app (goodIn_of _ (by decide +kernel)) ggX1_writeNumbers_X1_writeDecimal
theorem dX1_writeNumbers_0 : decode cX1_writeNumbers 0 = .ok (.iconst 0, 1) := by decide +kernel
theorem dX1_writeNumbers_1 : decode cX1_writeNumbers 1 = .ok (.istore_n 1, 1) := by decide +kernel
theorem dX1_writeNumbers_2 : decode cX1_writeNumbers 2 = .ok (.iload_n 1, 1) := by decide +kernel
theorem dX1_writeNumbers_3 : decode cX1_writeNumbers 3 = .ok (.iconst 4, 1) := by decide +kernel
theorem dX1_writeNumbers_4 : decode cX1_writeNumbers 4 = .ok (.if_icmp .ge 43, 3) := by decide +kernel
theorem dX1_writeNumbers_7 : decode cX1_writeNumbers 7 = .ok (.iload_n 1, 1) := by decide +kernel
theorem dX1_writeNumbers_8 : decode cX1_writeNumbers 8 = .ok (.ifCond .le 9, 3) := by decide +kernel
theorem dX1_writeNumbers_11 : decode cX1_writeNumbers 11 = .ok (.aload_n 0, 1) := by decide +kernel
theorem dX1_writeNumbers_12 : decode cX1_writeNumbers 12 = .ok (.bipush 46, 2) := by decide +kernel
theorem dX1_writeNumbers_14 : decode cX1_writeNumbers 14 = .ok (.invokevirtual 128, 3) := by decide +kernel
theorem dX1_writeNumbers_17 : decode cX1_writeNumbers 17 = .ok (.aload_n 0, 1) := by decide +kernel
theorem dX1_writeNumbers_18 : decode cX1_writeNumbers 18 = .ok (.aload_n 0, 1) := by decide +kernel
theorem dX1_writeNumbers_19 : decode cX1_writeNumbers 19 = .ok (.getfield 26, 3) := by decide +kernel
theorem dX1_writeNumbers_22 : decode cX1_writeNumbers 22 = .ok (.getfield 66, 3) := by decide +kernel
theorem dX1_writeNumbers_25 : decode cX1_writeNumbers 25 = .ok (.bipush 24, 2) := by decide +kernel
theorem dX1_writeNumbers_27 : decode cX1_writeNumbers 27 = .ok (.bipush 8, 2) := by decide +kernel
theorem dX1_writeNumbers_29 : decode cX1_writeNumbers 29 = .ok (.iload_n 1, 1) := by decide +kernel
theorem dX1_writeNumbers_30 : decode cX1_writeNumbers 30 = .ok (.imul, 1) := by decide +kernel
theorem dX1_writeNumbers_31 : decode cX1_writeNumbers 31 = .ok (.isub, 1) := by decide +kernel
theorem dX1_writeNumbers_32 : decode cX1_writeNumbers 32 = .ok (.lushr, 1) := by decide +kernel
theorem dX1_writeNumbers_33 : decode cX1_writeNumbers 33 = .ok (.l2i, 1) := by decide +kernel
theorem dX1_writeNumbers_34 : decode cX1_writeNumbers 34 = .ok (.sipush 255, 3) := by decide +kernel
theorem dX1_writeNumbers_37 : decode cX1_writeNumbers 37 = .ok (.iand, 1) := by decide +kernel
theorem dX1_writeNumbers_38 : decode cX1_writeNumbers 38 = .ok (.invokevirtual 131, 3) := by decide +kernel
theorem dX1_writeNumbers_41 : decode cX1_writeNumbers 41 = .ok (.iinc 1 1, 3) := by decide +kernel
theorem dX1_writeNumbers_44 : decode cX1_writeNumbers 44 = .ok (.goto (-42), 3) := by decide +kernel
theorem dX1_writeNumbers_47 : decode cX1_writeNumbers 47 = .ok (.return_, 1) := by decide +kernel
set_option maxRecDepth 20000 in
theorem ggX1_writeParts_X0_longestRowOfZeros : GoodIn wsX1_writeParts wsX0_longestRowOfZeros := goodIn_r _ [6, 7, 8, 9, 5, 10, 11, 12, 13, 14, 15, 16, 17, 18, 19, 20, 45, 46, 47, 48] (by decide +kernel) (by decide +kernel)
set_option maxRecDepth 20000 in
theorem gX1_writeParts_X0_longestRowOfZeros : GoodIn wsX1_writeParts (wsV RX1 134 RX0 yX0_longestRowOfZeros wsX0_longestRowOfZeros) := goodIn_app (goodIn_of _ (by decide +kernel)) ggX1_writeParts_X0_longestRowOfZeros
set_option maxRecDepth 20000 in
theorem ggX1_writeParts_X0_zerosFrom : GoodIn wsX1_writeParts wsX0_zerosFrom := goodIn_r _ [10, 11, 12, 13, 5, 14, 15, 16, 17, 18, 19, 20, 45, 46, 47, 48] (by decide +kernel) (by decide +kernel)
set_option maxRecDepth 20000 in
theorem gX1_writeParts_X0_zerosFrom : GoodIn wsX1_writeParts (wsV RX1 137 RX0 yX0_zerosFrom wsX0_zerosFrom) := goodIn_app (goodIn_of _ (by decide +kernel)) ggX1_writeParts_X0_zerosFrom
set_option maxRecDepth 20000 in
theorem ggX1_writeParts_X1_writeByte : GoodIn wsX1_writeParts wsX1_writeByte := goodIn_r _ [26, 27, 28, 38, 39, 40, 41, 42, 43, 44] (by decide +kernel) (by decide +kernel)
set_option maxRecDepth 20000 in
theorem gX1_writeParts_X1_writeByte : GoodIn wsX1_writeParts (wsV RX1 128 RX1 yX1_writeByte wsX1_writeByte) := goodIn_app (goodIn_of _ (by decide +kernel)) ggX1_writeParts_X1_writeByte
set_option maxRecDepth 20000 in
theorem ggX1_writeParts_X0_part : GoodIn wsX1_writeParts wsX0_part := goodIn_r _ [14, 15, 16, 17, 18, 19, 5, 20, 45, 46, 47, 48] (by decide +kernel) (by decide +kernel)
set_option maxRecDepth 20000 in
theorem gX1_writeParts_X0_part : GoodIn wsX1_writeParts (wsV RX1 140 RX0 yX0_part wsX0_part) := goodIn_app (goodIn_of _ (by decide +kernel)) ggX1_writeParts_X0_part
set_option maxRecDepth 20000 in
theorem ggX1_writeParts_X1_writeHexadecimal : GoodIn wsX1_writeParts wsX1_writeHexadecimal := goodIn_r _ [33, 34, 35, 36, 25, 37, 22, 23, 24, 26, 27, 28, 38, 39, 40, 41, 42, 43, 44] (by decide +kernel) (by decide +kernel)
set_option maxRecDepth 20000 in
theorem gX1_writeParts_X1_writeHexadecimal : GoodIn wsX1_writeParts (wsV RX1 143 RX1 yX1_writeHexadecimal wsX1_writeHexadecimal) := goodIn_app (goodIn_of _ (by decide +kernel)) ggX1_writeParts_X1_writeHexadecimal
theorem dX1_writeParts_0 : decode cX1_writeParts 0 = .ok (.aload_n 0, 1) := by decide +kernel
theorem dX1_writeParts_1 : decode cX1_writeParts 1 = .ok (.getfield 26, 3) := by decide +kernel
theorem dX1_writeParts_4 : decode cX1_writeParts 4 = .ok (.invokevirtual 134, 3) := by decide +kernel
theorem dX1_writeParts_7 : decode cX1_writeParts 7 = .ok (.istore_n 1, 1) := by decide +kernel
theorem dX1_writeParts_8 : decode cX1_writeParts 8 = .ok (.iload_n 1, 1) := by decide +kernel
theorem dX1_writeParts_9 : decode cX1_writeParts 9 = .ok (.aload_n 0, 1) := by decide +kernel
theorem dX1_writeParts_10 : decode cX1_writeParts 10 = .ok (.getfield 26, 3) := by decide +kernel
theorem dX1_writeParts_13 : decode cX1_writeParts 13 = .ok (.iload_n 1, 1) := by decide +kernel
theorem dX1_writeParts_14 : decode cX1_writeParts 14 = .ok (.invokevirtual 137, 3) := by decide +kernel
theorem dX1_writeParts_17 : decode cX1_writeParts 17 = .ok (.iadd, 1) := by decide +kernel
theorem dX1_writeParts_18 : decode cX1_writeParts 18 = .ok (.istore_n 2, 1) := by decide +kernel
theorem dX1_writeParts_19 : decode cX1_writeParts 19 = .ok (.iconst 0, 1) := by decide +kernel
theorem dX1_writeParts_20 : decode cX1_writeParts 20 = .ok (.istore_n 3, 1) := by decide +kernel
theorem dX1_writeParts_21 : decode cX1_writeParts 21 = .ok (.iload_n 3, 1) := by decide +kernel
theorem dX1_writeParts_22 : decode cX1_writeParts 22 = .ok (.bipush 8, 2) := by decide +kernel
theorem dX1_writeParts_24 : decode cX1_writeParts 24 = .ok (.if_icmp .ge 63, 3) := by decide +kernel
theorem dX1_writeParts_27 : decode cX1_writeParts 27 = .ok (.iload_n 3, 1) := by decide +kernel
theorem dX1_writeParts_28 : decode cX1_writeParts 28 = .ok (.iload_n 1, 1) := by decide +kernel
theorem dX1_writeParts_29 : decode cX1_writeParts 29 = .ok (.if_icmp .ne 15, 3) := by decide +kernel
theorem dX1_writeParts_32 : decode cX1_writeParts 32 = .ok (.aload_n 0, 1) := by decide +kernel
theorem dX1_writeParts_33 : decode cX1_writeParts 33 = .ok (.bipush 58, 2) := by decide +kernel
theorem dX1_writeParts_35 : decode cX1_writeParts 35 = .ok (.invokevirtual 128, 3) := by decide +kernel
theorem dX1_writeParts_38 : decode cX1_writeParts 38 = .ok (.aload_n 0, 1) := by decide +kernel
theorem dX1_writeParts_39 : decode cX1_writeParts 39 = .ok (.bipush 58, 2) := by decide +kernel
theorem dX1_writeParts_41 : decode cX1_writeParts 41 = .ok (.invokevirtual 128, 3) := by decide +kernel
theorem dX1_writeParts_44 : decode cX1_writeParts 44 = .ok (.iload_n 3, 1) := by decide +kernel
theorem dX1_writeParts_45 : decode cX1_writeParts 45 = .ok (.iload_n 1, 1) := by decide +kernel
theorem dX1_writeParts_46 : decode cX1_writeParts 46 = .ok (.if_icmp .lt 8, 3) := by decide +kernel
theorem dX1_writeParts_49 : decode cX1_writeParts 49 = .ok (.iload_n 3, 1) := by decide +kernel
theorem dX1_writeParts_50 : decode cX1_writeParts 50 = .ok (.iload_n 2, 1) := by decide +kernel
theorem dX1_writeParts_51 : decode cX1_writeParts 51 = .ok (.if_icmp .lt 30, 3) := by decide +kernel
theorem dX1_writeParts_54 : decode cX1_writeParts 54 = .ok (.iload_n 3, 1) := by decide +kernel
theorem dX1_writeParts_55 : decode cX1_writeParts 55 = .ok (.ifCond .le 14, 3) := by decide +kernel
theorem dX1_writeParts_58 : decode cX1_writeParts 58 = .ok (.iload_n 3, 1) := by decide +kernel
theorem dX1_writeParts_59 : decode cX1_writeParts 59 = .ok (.iload_n 2, 1) := by decide +kernel
theorem dX1_writeParts_60 : decode cX1_writeParts 60 = .ok (.if_icmp .eq 9, 3) := by decide +kernel
theorem dX1_writeParts_63 : decode cX1_writeParts 63 = .ok (.aload_n 0, 1) := by decide +kernel
theorem dX1_writeParts_64 : decode cX1_writeParts 64 = .ok (.bipush 58, 2) := by decide +kernel
theorem dX1_writeParts_66 : decode cX1_writeParts 66 = .ok (.invokevirtual 128, 3) := by decide +kernel
theorem dX1_writeParts_69 : decode cX1_writeParts 69 = .ok (.aload_n 0, 1) := by decide +kernel
theorem dX1_writeParts_70 : decode cX1_writeParts 70 = .ok (.aload_n 0, 1) := by decide +kernel
theorem dX1_writeParts_71 : decode cX1_writeParts 71 = .ok (.getfield 26, 3) := by decide +kernel
theorem dX1_writeParts_74 : decode cX1_writeParts 74 = .ok (.iload_n 3, 1) := by decide +kernel
theorem dX1_writeParts_75 : decode cX1_writeParts 75 = .ok (.invokevirtual 140, 3) := by decide +kernel
theorem dX1_writeParts_78 : decode cX1_writeParts 78 = .ok (.invokevirtual 143, 3) := by decide +kernel
theorem dX1_writeParts_81 : decode cX1_writeParts 81 = .ok (.iinc 3 1, 3) := by decide +kernel
theorem dX1_writeParts_84 : decode cX1_writeParts 84 = .ok (.goto (-63), 3) := by decide +kernel
theorem dX1_writeParts_87 : decode cX1_writeParts 87 = .ok (.return_, 1) := by decide +kernel
set_option maxRecDepth 20000 in
theorem ggX1_writeDecimal_X1_writeDigit : GoodIn wsX1_writeDecimal wsX1_writeDigit := goodIn_r _ [5, 6, 7, 8, 4, 9, 10, 11, 12, 13, 14, 15, 16, 17, 18] (by decide +kernel) (by decide +kernel)
set_option maxRecDepth 20000 in
theorem gX1_writeDecimal_X1_writeDigit : GoodIn wsX1_writeDecimal (wsV RX1 146 RX1 yX1_writeDigit wsX1_writeDigit) := goodIn_app (goodIn_of _ (by decide +kernel)) ggX1_writeDecimal_X1_writeDigit
theorem dX1_writeDecimal_0 : decode cX1_writeDecimal 0 = .ok (.iload_n 1, 1) := by decide +kernel
theorem dX1_writeDecimal_1 : decode cX1_writeDecimal 1 = .ok (.bipush 100, 2) := by decide +kernel
theorem dX1_writeDecimal_3 : decode cX1_writeDecimal 3 = .ok (.if_icmp .lt 11, 3) := by decide +kernel
theorem dX1_writeDecimal_6 : decode cX1_writeDecimal 6 = .ok (.aload_n 0, 1) := by decide +kernel
theorem dX1_writeDecimal_7 : decode cX1_writeDecimal 7 = .ok (.iload_n 1, 1) := by decide +kernel
theorem dX1_writeDecimal_8 : decode cX1_writeDecimal 8 = .ok (.bipush 100, 2) := by decide +kernel
theorem dX1_writeDecimal_10 : decode cX1_writeDecimal 10 = .ok (.idiv, 1) := by decide +kernel
theorem dX1_writeDecimal_11 : decode cX1_writeDecimal 11 = .ok (.invokevirtual 146, 3) := by decide +kernel
theorem dX1_writeDecimal_14 : decode cX1_writeDecimal 14 = .ok (.iload_n 1, 1) := by decide +kernel
theorem dX1_writeDecimal_15 : decode cX1_writeDecimal 15 = .ok (.bipush 10, 2) := by decide +kernel
theorem dX1_writeDecimal_17 : decode cX1_writeDecimal 17 = .ok (.if_icmp .lt 14, 3) := by decide +kernel
theorem dX1_writeDecimal_20 : decode cX1_writeDecimal 20 = .ok (.aload_n 0, 1) := by decide +kernel
theorem dX1_writeDecimal_21 : decode cX1_writeDecimal 21 = .ok (.iload_n 1, 1) := by decide +kernel
theorem dX1_writeDecimal_22 : decode cX1_writeDecimal 22 = .ok (.bipush 10, 2) := by decide +kernel
theorem dX1_writeDecimal_24 : decode cX1_writeDecimal 24 = .ok (.idiv, 1) := by decide +kernel
theorem dX1_writeDecimal_25 : decode cX1_writeDecimal 25 = .ok (.bipush 10, 2) := by decide +kernel
theorem dX1_writeDecimal_27 : decode cX1_writeDecimal 27 = .ok (.irem, 1) := by decide +kernel
theorem dX1_writeDecimal_28 : decode cX1_writeDecimal 28 = .ok (.invokevirtual 146, 3) := by decide +kernel
theorem dX1_writeDecimal_31 : decode cX1_writeDecimal 31 = .ok (.aload_n 0, 1) := by decide +kernel
theorem dX1_writeDecimal_32 : decode cX1_writeDecimal 32 = .ok (.iload_n 1, 1) := by decide +kernel
theorem dX1_writeDecimal_33 : decode cX1_writeDecimal 33 = .ok (.bipush 10, 2) := by decide +kernel
theorem dX1_writeDecimal_35 : decode cX1_writeDecimal 35 = .ok (.irem, 1) := by decide +kernel
theorem dX1_writeDecimal_36 : decode cX1_writeDecimal 36 = .ok (.invokevirtual 146, 3) := by decide +kernel
theorem dX1_writeDecimal_39 : decode cX1_writeDecimal 39 = .ok (.return_, 1) := by decide +kernel
set_option maxRecDepth 20000 in
theorem ggX1_writeHexadecimal_X1_writeDigit : GoodIn wsX1_writeHexadecimal wsX1_writeDigit := goodIn_r _ [5, 6, 7, 8, 4, 9, 10, 11, 12, 13, 14, 15, 16, 17, 18] (by decide +kernel) (by decide +kernel)
set_option maxRecDepth 20000 in
theorem gX1_writeHexadecimal_X1_writeDigit : GoodIn wsX1_writeHexadecimal (wsV RX1 146 RX1 yX1_writeDigit wsX1_writeDigit) := goodIn_app (goodIn_of _ (by decide +kernel)) ggX1_writeHexadecimal_X1_writeDigit
theorem dX1_writeHexadecimal_0 : decode cX1_writeHexadecimal 0 = .ok (.bipush 12, 2) := by decide +kernel
theorem dX1_writeHexadecimal_2 : decode cX1_writeHexadecimal 2 = .ok (.istore_n 2, 1) := by decide +kernel
theorem dX1_writeHexadecimal_3 : decode cX1_writeHexadecimal 3 = .ok (.iload_n 2, 1) := by decide +kernel
theorem dX1_writeHexadecimal_4 : decode cX1_writeHexadecimal 4 = .ok (.ifCond .lt 29, 3) := by decide +kernel
theorem dX1_writeHexadecimal_7 : decode cX1_writeHexadecimal 7 = .ok (.iload_n 2, 1) := by decide +kernel
theorem dX1_writeHexadecimal_8 : decode cX1_writeHexadecimal 8 = .ok (.ifCond .eq 9, 3) := by decide +kernel
theorem dX1_writeHexadecimal_11 : decode cX1_writeHexadecimal 11 = .ok (.iload_n 1, 1) := by decide +kernel
theorem dX1_writeHexadecimal_12 : decode cX1_writeHexadecimal 12 = .ok (.iload_n 2, 1) := by decide +kernel
theorem dX1_writeHexadecimal_13 : decode cX1_writeHexadecimal 13 = .ok (.iushr, 1) := by decide +kernel
theorem dX1_writeHexadecimal_14 : decode cX1_writeHexadecimal 14 = .ok (.ifCond .eq 13, 3) := by decide +kernel
theorem dX1_writeHexadecimal_17 : decode cX1_writeHexadecimal 17 = .ok (.aload_n 0, 1) := by decide +kernel
theorem dX1_writeHexadecimal_18 : decode cX1_writeHexadecimal 18 = .ok (.iload_n 1, 1) := by decide +kernel
theorem dX1_writeHexadecimal_19 : decode cX1_writeHexadecimal 19 = .ok (.iload_n 2, 1) := by decide +kernel
theorem dX1_writeHexadecimal_20 : decode cX1_writeHexadecimal 20 = .ok (.iushr, 1) := by decide +kernel
theorem dX1_writeHexadecimal_21 : decode cX1_writeHexadecimal 21 = .ok (.bipush 15, 2) := by decide +kernel
theorem dX1_writeHexadecimal_23 : decode cX1_writeHexadecimal 23 = .ok (.iand, 1) := by decide +kernel
theorem dX1_writeHexadecimal_24 : decode cX1_writeHexadecimal 24 = .ok (.invokevirtual 146, 3) := by decide +kernel
theorem dX1_writeHexadecimal_27 : decode cX1_writeHexadecimal 27 = .ok (.iinc 2 (-4), 3) := by decide +kernel
theorem dX1_writeHexadecimal_30 : decode cX1_writeHexadecimal 30 = .ok (.goto (-27), 3) := by decide +kernel
theorem dX1_writeHexadecimal_33 : decode cX1_writeHexadecimal 33 = .ok (.return_, 1) := by decide +kernel
set_option maxRecDepth 20000 in
theorem ggX1_writeDigit_X1_writeByte : GoodIn wsX1_writeDigit wsX1_writeByte := goodIn_r _ [5, 6, 7, 8, 9, 10, 11, 12, 13, 14] (by decide +kernel) (by decide +kernel)
set_option maxRecDepth 20000 in
theorem gX1_writeDigit_X1_writeByte : GoodIn wsX1_writeDigit (wsV RX1 128 RX1 yX1_writeByte wsX1_writeByte) := goodIn_app (goodIn_of _ (by decide +kernel)) ggX1_writeDigit_X1_writeByte
theorem dX1_writeDigit_0 : decode cX1_writeDigit 0 = .ok (.aload_n 0, 1) := by decide +kernel
theorem dX1_writeDigit_1 : decode cX1_writeDigit 1 = .ok (.iload_n 1, 1) := by decide +kernel
theorem dX1_writeDigit_2 : decode cX1_writeDigit 2 = .ok (.bipush 10, 2) := by decide +kernel
theorem dX1_writeDigit_4 : decode cX1_writeDigit 4 = .ok (.if_icmp .ge 10, 3) := by decide +kernel
theorem dX1_writeDigit_7 : decode cX1_writeDigit 7 = .ok (.bipush 48, 2) := by decide +kernel
theorem dX1_writeDigit_9 : decode cX1_writeDigit 9 = .ok (.iload_n 1, 1) := by decide +kernel
theorem dX1_writeDigit_10 : decode cX1_writeDigit 10 = .ok (.iadd, 1) := by decide +kernel
theorem dX1_writeDigit_11 : decode cX1_writeDigit 11 = .ok (.goto 10, 3) := by decide +kernel
theorem dX1_writeDigit_14 : decode cX1_writeDigit 14 = .ok (.bipush 97, 2) := by decide +kernel
theorem dX1_writeDigit_16 : decode cX1_writeDigit 16 = .ok (.iload_n 1, 1) := by decide +kernel
theorem dX1_writeDigit_17 : decode cX1_writeDigit 17 = .ok (.iadd, 1) := by decide +kernel
theorem dX1_writeDigit_18 : decode cX1_writeDigit 18 = .ok (.bipush 10, 2) := by decide +kernel
theorem dX1_writeDigit_20 : decode cX1_writeDigit 20 = .ok (.isub, 1) := by decide +kernel
theorem dX1_writeDigit_21 : decode cX1_writeDigit 21 = .ok (.invokevirtual 128, 3) := by decide +kernel
theorem dX1_writeDigit_24 : decode cX1_writeDigit 24 = .ok (.return_, 1) := by decide +kernel
theorem dX1_writeByte_0 : decode cX1_writeByte 0 = .ok (.aload_n 0, 1) := by decide +kernel
theorem dX1_writeByte_1 : decode cX1_writeByte 1 = .ok (.getfield 20, 3) := by decide +kernel
theorem dX1_writeByte_4 : decode cX1_writeByte 4 = .ok (.aload_n 0, 1) := by decide +kernel
theorem dX1_writeByte_5 : decode cX1_writeByte 5 = .ok (.getfield 17, 3) := by decide +kernel
theorem dX1_writeByte_8 : decode cX1_writeByte 8 = .ok (.arraylength, 1) := by decide +kernel
theorem dX1_writeByte_9 : decode cX1_writeByte 9 = .ok (.if_icmp .ge 24, 3) := by decide +kernel
theorem dX1_writeByte_12 : decode cX1_writeByte 12 = .ok (.aload_n 0, 1) := by decide +kernel
theorem dX1_writeByte_13 : decode cX1_writeByte 13 = .ok (.getfield 17, 3) := by decide +kernel
theorem dX1_writeByte_16 : decode cX1_writeByte 16 = .ok (.aload_n 0, 1) := by decide +kernel
theorem dX1_writeByte_17 : decode cX1_writeByte 17 = .ok (.getfield 20, 3) := by decide +kernel
theorem dX1_writeByte_20 : decode cX1_writeByte 20 = .ok (.iload_n 1, 1) := by decide +kernel
theorem dX1_writeByte_21 : decode cX1_writeByte 21 = .ok (.i2b, 1) := by decide +kernel
theorem dX1_writeByte_22 : decode cX1_writeByte 22 = .ok (.bastore, 1) := by decide +kernel
theorem dX1_writeByte_23 : decode cX1_writeByte 23 = .ok (.aload_n 0, 1) := by decide +kernel
theorem dX1_writeByte_24 : decode cX1_writeByte 24 = .ok (.dup, 1) := by decide +kernel
theorem dX1_writeByte_25 : decode cX1_writeByte 25 = .ok (.getfield 20, 3) := by decide +kernel
theorem dX1_writeByte_28 : decode cX1_writeByte 28 = .ok (.iconst 1, 1) := by decide +kernel
theorem dX1_writeByte_29 : decode cX1_writeByte 29 = .ok (.iadd, 1) := by decide +kernel
theorem dX1_writeByte_30 : decode cX1_writeByte 30 = .ok (.putfield 20, 3) := by decide +kernel
theorem dX1_writeByte_33 : decode cX1_writeByte 33 = .ok (.return_, 1) := by decide +kernel
theorem dX1_isBelow_0 : decode cX1_isBelow 0 = .ok (.lload_n 0, 1) := by decide +kernel
theorem dX1_isBelow_1 : decode cX1_isBelow 1 = .ok (.ldc2_w 149, 3) := by decide +kernel
theorem dX1_isBelow_4 : decode cX1_isBelow 4 = .ok (.lxor, 1) := by decide +kernel
theorem dX1_isBelow_5 : decode cX1_isBelow 5 = .ok (.lload_n 2, 1) := by decide +kernel
theorem dX1_isBelow_6 : decode cX1_isBelow 6 = .ok (.ldc2_w 149, 3) := by decide +kernel
theorem dX1_isBelow_9 : decode cX1_isBelow 9 = .ok (.lxor, 1) := by decide +kernel
theorem dX1_isBelow_10 : decode cX1_isBelow 10 = .ok (.lcmp, 1) := by decide +kernel
theorem dX1_isBelow_11 : decode cX1_isBelow 11 = .ok (.ifCond .ge 7, 3) := by decide +kernel
theorem dX1_isBelow_14 : decode cX1_isBelow 14 = .ok (.iconst 1, 1) := by decide +kernel
theorem dX1_isBelow_15 : decode cX1_isBelow 15 = .ok (.goto 4, 3) := by decide +kernel
theorem dX1_isBelow_18 : decode cX1_isBelow 18 = .ok (.iconst 0, 1) := by decide +kernel
theorem dX1_isBelow_19 : decode cX1_isBelow 19 = .ok (.ireturn, 1) := by decide +kernel
theorem dL_law_0 : decode cL_law 0 = .ok (.new 7, 3) := by decide +kernel
theorem dL_law_3 : decode cL_law 3 = .ok (.dup, 1) := by decide +kernel
theorem dL_law_4 : decode cL_law 4 = .ok (.invokespecial 9, 3) := by decide +kernel
theorem dL_law_7 : decode cL_law 7 = .ok (.astore_n 1, 1) := by decide +kernel
theorem dL_law_8 : decode cL_law 8 = .ok (.new 10, 3) := by decide +kernel
theorem dL_law_11 : decode cL_law 11 = .ok (.dup, 1) := by decide +kernel
theorem dL_law_12 : decode cL_law 12 = .ok (.invokespecial 12, 3) := by decide +kernel
theorem dL_law_15 : decode cL_law 15 = .ok (.astore_n 2, 1) := by decide +kernel
theorem dL_law_16 : decode cL_law 16 = .ok (.iconst 0, 1) := by decide +kernel
theorem dL_law_17 : decode cL_law 17 = .ok (.istore_n 3, 1) := by decide +kernel
theorem dL_law_18 : decode cL_law 18 = .ok (.iload_n 3, 1) := by decide +kernel
theorem dL_law_19 : decode cL_law 19 = .ok (.aload_n 0, 1) := by decide +kernel
theorem dL_law_20 : decode cL_law 20 = .ok (.arraylength, 1) := by decide +kernel
theorem dL_law_21 : decode cL_law 21 = .ok (.bipush 6, 2) := by decide +kernel
theorem dL_law_23 : decode cL_law 23 = .ok (.isub, 1) := by decide +kernel
theorem dL_law_24 : decode cL_law 24 = .ok (.if_icmp .gt 296, 3) := by decide +kernel
theorem dL_law_27 : decode cL_law 27 = .ok (.aload_n 0, 1) := by decide +kernel
theorem dL_law_28 : decode cL_law 28 = .ok (.iload_n 3, 1) := by decide +kernel
theorem dL_law_29 : decode cL_law 29 = .ok (.iaload, 1) := by decide +kernel
theorem dL_law_30 : decode cL_law 30 = .ok (.bipush 15, 2) := by decide +kernel
theorem dL_law_32 : decode cL_law 32 = .ok (.iand, 1) := by decide +kernel
theorem dL_law_33 : decode cL_law 33 = .ok (.tableswitch 281 0 10 #[59, 122, 145, 158, 171, 184, 197, 210, 221, 234, 257], 59) := by decide +kernel
theorem dL_law_92 : decode cL_law 92 = .ok (.aload_n 1, 1) := by decide +kernel
theorem dL_law_93 : decode cL_law 93 = .ok (.aload_n 0, 1) := by decide +kernel
theorem dL_law_94 : decode cL_law 94 = .ok (.iload_n 3, 1) := by decide +kernel
theorem dL_law_95 : decode cL_law 95 = .ok (.iconst 1, 1) := by decide +kernel
theorem dL_law_96 : decode cL_law 96 = .ok (.iadd, 1) := by decide +kernel
theorem dL_law_97 : decode cL_law 97 = .ok (.iaload, 1) := by decide +kernel
theorem dL_law_98 : decode cL_law 98 = .ok (.aload_n 0, 1) := by decide +kernel
theorem dL_law_99 : decode cL_law 99 = .ok (.iload_n 3, 1) := by decide +kernel
theorem dL_law_100 : decode cL_law 100 = .ok (.iconst 2, 1) := by decide +kernel
theorem dL_law_101 : decode cL_law 101 = .ok (.iadd, 1) := by decide +kernel
theorem dL_law_102 : decode cL_law 102 = .ok (.iaload, 1) := by decide +kernel
theorem dL_law_103 : decode cL_law 103 = .ok (.aload_n 0, 1) := by decide +kernel
theorem dL_law_104 : decode cL_law 104 = .ok (.iload_n 3, 1) := by decide +kernel
theorem dL_law_105 : decode cL_law 105 = .ok (.iconst 3, 1) := by decide +kernel
theorem dL_law_106 : decode cL_law 106 = .ok (.iadd, 1) := by decide +kernel
theorem dL_law_107 : decode cL_law 107 = .ok (.iaload, 1) := by decide +kernel
theorem dL_law_108 : decode cL_law 108 = .ok (.aload_n 0, 1) := by decide +kernel
theorem dL_law_109 : decode cL_law 109 = .ok (.iload_n 3, 1) := by decide +kernel
theorem dL_law_110 : decode cL_law 110 = .ok (.iconst 4, 1) := by decide +kernel
theorem dL_law_111 : decode cL_law 111 = .ok (.iadd, 1) := by decide +kernel
theorem dL_law_112 : decode cL_law 112 = .ok (.iaload, 1) := by decide +kernel
theorem dL_law_113 : decode cL_law 113 = .ok (.aload_n 0, 1) := by decide +kernel
theorem dL_law_114 : decode cL_law 114 = .ok (.iload_n 3, 1) := by decide +kernel
theorem dL_law_115 : decode cL_law 115 = .ok (.iconst 5, 1) := by decide +kernel
theorem dL_law_116 : decode cL_law 116 = .ok (.iadd, 1) := by decide +kernel
theorem dL_law_117 : decode cL_law 117 = .ok (.iaload, 1) := by decide +kernel
theorem dL_law_118 : decode cL_law 118 = .ok (.invokevirtual 13, 3) := by decide +kernel
theorem dL_law_121 : decode cL_law 121 = .ok (.aload_n 2, 1) := by decide +kernel
theorem dL_law_122 : decode cL_law 122 = .ok (.aload_n 0, 1) := by decide +kernel
theorem dL_law_123 : decode cL_law 123 = .ok (.iload_n 3, 1) := by decide +kernel
theorem dL_law_124 : decode cL_law 124 = .ok (.iconst 1, 1) := by decide +kernel
theorem dL_law_125 : decode cL_law 125 = .ok (.iadd, 1) := by decide +kernel
theorem dL_law_126 : decode cL_law 126 = .ok (.iaload, 1) := by decide +kernel
theorem dL_law_127 : decode cL_law 127 = .ok (.aload_n 0, 1) := by decide +kernel
theorem dL_law_128 : decode cL_law 128 = .ok (.iload_n 3, 1) := by decide +kernel
theorem dL_law_129 : decode cL_law 129 = .ok (.iconst 2, 1) := by decide +kernel
theorem dL_law_130 : decode cL_law 130 = .ok (.iadd, 1) := by decide +kernel
theorem dL_law_131 : decode cL_law 131 = .ok (.iaload, 1) := by decide +kernel
theorem dL_law_132 : decode cL_law 132 = .ok (.aload_n 0, 1) := by decide +kernel
theorem dL_law_133 : decode cL_law 133 = .ok (.iload_n 3, 1) := by decide +kernel
theorem dL_law_134 : decode cL_law 134 = .ok (.iconst 3, 1) := by decide +kernel
theorem dL_law_135 : decode cL_law 135 = .ok (.iadd, 1) := by decide +kernel
theorem dL_law_136 : decode cL_law 136 = .ok (.iaload, 1) := by decide +kernel
theorem dL_law_137 : decode cL_law 137 = .ok (.aload_n 0, 1) := by decide +kernel
theorem dL_law_138 : decode cL_law 138 = .ok (.iload_n 3, 1) := by decide +kernel
theorem dL_law_139 : decode cL_law 139 = .ok (.iconst 4, 1) := by decide +kernel
theorem dL_law_140 : decode cL_law 140 = .ok (.iadd, 1) := by decide +kernel
theorem dL_law_141 : decode cL_law 141 = .ok (.iaload, 1) := by decide +kernel
theorem dL_law_142 : decode cL_law 142 = .ok (.aload_n 0, 1) := by decide +kernel
theorem dL_law_143 : decode cL_law 143 = .ok (.iload_n 3, 1) := by decide +kernel
theorem dL_law_144 : decode cL_law 144 = .ok (.iconst 5, 1) := by decide +kernel
theorem dL_law_145 : decode cL_law 145 = .ok (.iadd, 1) := by decide +kernel
theorem dL_law_146 : decode cL_law 146 = .ok (.iaload, 1) := by decide +kernel
theorem dL_law_147 : decode cL_law 147 = .ok (.invokevirtual 17, 3) := by decide +kernel
theorem dL_law_150 : decode cL_law 150 = .ok (.if_icmp .eq 164, 3) := by decide +kernel
theorem dL_law_153 : decode cL_law 153 = .ok (.iconst 0, 1) := by decide +kernel
theorem dL_law_154 : decode cL_law 154 = .ok (.ireturn, 1) := by decide +kernel
theorem dL_law_155 : decode cL_law 155 = .ok (.aload_n 1, 1) := by decide +kernel
theorem dL_law_156 : decode cL_law 156 = .ok (.aload_n 0, 1) := by decide +kernel
theorem dL_law_157 : decode cL_law 157 = .ok (.iload_n 3, 1) := by decide +kernel
theorem dL_law_158 : decode cL_law 158 = .ok (.iconst 1, 1) := by decide +kernel
theorem dL_law_159 : decode cL_law 159 = .ok (.iadd, 1) := by decide +kernel
theorem dL_law_160 : decode cL_law 160 = .ok (.iaload, 1) := by decide +kernel
theorem dL_law_161 : decode cL_law 161 = .ok (.invokevirtual 18, 3) := by decide +kernel
theorem dL_law_164 : decode cL_law 164 = .ok (.aload_n 2, 1) := by decide +kernel
theorem dL_law_165 : decode cL_law 165 = .ok (.aload_n 0, 1) := by decide +kernel
theorem dL_law_166 : decode cL_law 166 = .ok (.iload_n 3, 1) := by decide +kernel
theorem dL_law_167 : decode cL_law 167 = .ok (.iconst 1, 1) := by decide +kernel
theorem dL_law_168 : decode cL_law 168 = .ok (.iadd, 1) := by decide +kernel
theorem dL_law_169 : decode cL_law 169 = .ok (.iaload, 1) := by decide +kernel
theorem dL_law_170 : decode cL_law 170 = .ok (.invokevirtual 22, 3) := by decide +kernel
theorem dL_law_173 : decode cL_law 173 = .ok (.if_icmp .eq 141, 3) := by decide +kernel
theorem dL_law_176 : decode cL_law 176 = .ok (.iconst 0, 1) := by decide +kernel
theorem dL_law_177 : decode cL_law 177 = .ok (.ireturn, 1) := by decide +kernel
theorem dL_law_178 : decode cL_law 178 = .ok (.aload_n 1, 1) := by decide +kernel
theorem dL_law_179 : decode cL_law 179 = .ok (.invokevirtual 23, 3) := by decide +kernel
theorem dL_law_182 : decode cL_law 182 = .ok (.aload_n 2, 1) := by decide +kernel
theorem dL_law_183 : decode cL_law 183 = .ok (.invokevirtual 27, 3) := by decide +kernel
theorem dL_law_186 : decode cL_law 186 = .ok (.if_icmp .eq 128, 3) := by decide +kernel
theorem dL_law_189 : decode cL_law 189 = .ok (.iconst 0, 1) := by decide +kernel
theorem dL_law_190 : decode cL_law 190 = .ok (.ireturn, 1) := by decide +kernel
theorem dL_law_191 : decode cL_law 191 = .ok (.aload_n 1, 1) := by decide +kernel
theorem dL_law_192 : decode cL_law 192 = .ok (.invokevirtual 28, 3) := by decide +kernel
theorem dL_law_195 : decode cL_law 195 = .ok (.aload_n 2, 1) := by decide +kernel
theorem dL_law_196 : decode cL_law 196 = .ok (.invokevirtual 31, 3) := by decide +kernel
theorem dL_law_199 : decode cL_law 199 = .ok (.if_icmp .eq 115, 3) := by decide +kernel
theorem dL_law_202 : decode cL_law 202 = .ok (.iconst 0, 1) := by decide +kernel
theorem dL_law_203 : decode cL_law 203 = .ok (.ireturn, 1) := by decide +kernel
theorem dL_law_204 : decode cL_law 204 = .ok (.aload_n 1, 1) := by decide +kernel
theorem dL_law_205 : decode cL_law 205 = .ok (.invokevirtual 32, 3) := by decide +kernel
theorem dL_law_208 : decode cL_law 208 = .ok (.aload_n 2, 1) := by decide +kernel
theorem dL_law_209 : decode cL_law 209 = .ok (.invokevirtual 36, 3) := by decide +kernel
theorem dL_law_212 : decode cL_law 212 = .ok (.if_icmp .eq 102, 3) := by decide +kernel
theorem dL_law_215 : decode cL_law 215 = .ok (.iconst 0, 1) := by decide +kernel
theorem dL_law_216 : decode cL_law 216 = .ok (.ireturn, 1) := by decide +kernel
theorem dL_law_217 : decode cL_law 217 = .ok (.aload_n 1, 1) := by decide +kernel
theorem dL_law_218 : decode cL_law 218 = .ok (.invokevirtual 37, 3) := by decide +kernel
theorem dL_law_221 : decode cL_law 221 = .ok (.aload_n 2, 1) := by decide +kernel
theorem dL_law_222 : decode cL_law 222 = .ok (.invokevirtual 40, 3) := by decide +kernel
theorem dL_law_225 : decode cL_law 225 = .ok (.if_icmp .eq 89, 3) := by decide +kernel
theorem dL_law_228 : decode cL_law 228 = .ok (.iconst 0, 1) := by decide +kernel
theorem dL_law_229 : decode cL_law 229 = .ok (.ireturn, 1) := by decide +kernel
theorem dL_law_230 : decode cL_law 230 = .ok (.aload_n 1, 1) := by decide +kernel
theorem dL_law_231 : decode cL_law 231 = .ok (.invokevirtual 41, 3) := by decide +kernel
theorem dL_law_234 : decode cL_law 234 = .ok (.aload_n 2, 1) := by decide +kernel
theorem dL_law_235 : decode cL_law 235 = .ok (.invokevirtual 44, 3) := by decide +kernel
theorem dL_law_238 : decode cL_law 238 = .ok (.if_icmp .eq 76, 3) := by decide +kernel
theorem dL_law_241 : decode cL_law 241 = .ok (.iconst 0, 1) := by decide +kernel
theorem dL_law_242 : decode cL_law 242 = .ok (.ireturn, 1) := by decide +kernel
theorem dL_law_243 : decode cL_law 243 = .ok (.aload_n 1, 1) := by decide +kernel
theorem dL_law_244 : decode cL_law 244 = .ok (.invokevirtual 45, 3) := by decide +kernel
theorem dL_law_247 : decode cL_law 247 = .ok (.aload_n 2, 1) := by decide +kernel
theorem dL_law_248 : decode cL_law 248 = .ok (.invokevirtual 48, 3) := by decide +kernel
theorem dL_law_251 : decode cL_law 251 = .ok (.goto 63, 3) := by decide +kernel
theorem dL_law_254 : decode cL_law 254 = .ok (.aload_n 1, 1) := by decide +kernel
theorem dL_law_255 : decode cL_law 255 = .ok (.invokevirtual 49, 3) := by decide +kernel
theorem dL_law_258 : decode cL_law 258 = .ok (.aload_n 2, 1) := by decide +kernel
theorem dL_law_259 : decode cL_law 259 = .ok (.invokevirtual 52, 3) := by decide +kernel
theorem dL_law_262 : decode cL_law 262 = .ok (.if_icmp .eq 52, 3) := by decide +kernel
theorem dL_law_265 : decode cL_law 265 = .ok (.iconst 0, 1) := by decide +kernel
theorem dL_law_266 : decode cL_law 266 = .ok (.ireturn, 1) := by decide +kernel
theorem dL_law_267 : decode cL_law 267 = .ok (.aload_n 1, 1) := by decide +kernel
theorem dL_law_268 : decode cL_law 268 = .ok (.aload_n 0, 1) := by decide +kernel
theorem dL_law_269 : decode cL_law 269 = .ok (.iload_n 3, 1) := by decide +kernel
theorem dL_law_270 : decode cL_law 270 = .ok (.iconst 1, 1) := by decide +kernel
theorem dL_law_271 : decode cL_law 271 = .ok (.iadd, 1) := by decide +kernel
theorem dL_law_272 : decode cL_law 272 = .ok (.iaload, 1) := by decide +kernel
theorem dL_law_273 : decode cL_law 273 = .ok (.invokevirtual 53, 3) := by decide +kernel
theorem dL_law_276 : decode cL_law 276 = .ok (.aload_n 2, 1) := by decide +kernel
theorem dL_law_277 : decode cL_law 277 = .ok (.aload_n 0, 1) := by decide +kernel
theorem dL_law_278 : decode cL_law 278 = .ok (.iload_n 3, 1) := by decide +kernel
theorem dL_law_279 : decode cL_law 279 = .ok (.iconst 1, 1) := by decide +kernel
theorem dL_law_280 : decode cL_law 280 = .ok (.iadd, 1) := by decide +kernel
theorem dL_law_281 : decode cL_law 281 = .ok (.iaload, 1) := by decide +kernel
theorem dL_law_282 : decode cL_law 282 = .ok (.invokevirtual 57, 3) := by decide +kernel
theorem dL_law_285 : decode cL_law 285 = .ok (.if_icmp .eq 29, 3) := by decide +kernel
theorem dL_law_288 : decode cL_law 288 = .ok (.iconst 0, 1) := by decide +kernel
theorem dL_law_289 : decode cL_law 289 = .ok (.ireturn, 1) := by decide +kernel
theorem dL_law_290 : decode cL_law 290 = .ok (.aload_n 1, 1) := by decide +kernel
theorem dL_law_291 : decode cL_law 291 = .ok (.aload_n 0, 1) := by decide +kernel
theorem dL_law_292 : decode cL_law 292 = .ok (.iload_n 3, 1) := by decide +kernel
theorem dL_law_293 : decode cL_law 293 = .ok (.iconst 1, 1) := by decide +kernel
theorem dL_law_294 : decode cL_law 294 = .ok (.iadd, 1) := by decide +kernel
theorem dL_law_295 : decode cL_law 295 = .ok (.iaload, 1) := by decide +kernel
theorem dL_law_296 : decode cL_law 296 = .ok (.invokevirtual 58, 3) := by decide +kernel
theorem dL_law_299 : decode cL_law 299 = .ok (.aload_n 2, 1) := by decide +kernel
theorem dL_law_300 : decode cL_law 300 = .ok (.aload_n 0, 1) := by decide +kernel
theorem dL_law_301 : decode cL_law 301 = .ok (.iload_n 3, 1) := by decide +kernel
theorem dL_law_302 : decode cL_law 302 = .ok (.iconst 1, 1) := by decide +kernel
theorem dL_law_303 : decode cL_law 303 = .ok (.iadd, 1) := by decide +kernel
theorem dL_law_304 : decode cL_law 304 = .ok (.iaload, 1) := by decide +kernel
theorem dL_law_305 : decode cL_law 305 = .ok (.invokevirtual 62, 3) := by decide +kernel
theorem dL_law_308 : decode cL_law 308 = .ok (.lcmp, 1) := by decide +kernel
theorem dL_law_309 : decode cL_law 309 = .ok (.ifCond .eq 5, 3) := by decide +kernel
theorem dL_law_312 : decode cL_law 312 = .ok (.iconst 0, 1) := by decide +kernel
theorem dL_law_313 : decode cL_law 313 = .ok (.ireturn, 1) := by decide +kernel
theorem dL_law_314 : decode cL_law 314 = .ok (.iinc 3 6, 3) := by decide +kernel
theorem dL_law_317 : decode cL_law 317 = .ok (.goto (-299), 3) := by decide +kernel
theorem dL_law_320 : decode cL_law 320 = .ok (.iconst 1, 1) := by decide +kernel
theorem dL_law_321 : decode cL_law 321 = .ok (.ireturn, 1) := by decide +kernel
