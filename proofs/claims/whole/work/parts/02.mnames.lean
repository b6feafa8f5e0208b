/-! names of the reference, by a program of mine out of javap's listing and the tables -/
def RXM : String := "AddressTextsModel"
def TXM : u_T := fun k => match k with
  | 0 => ("AddressTextsModel", "tape", "[I", true)
  | 1 => ("AddressTextsModel", "size", "I", false)
  | 2 => ("AddressTextsModel", "bytes", "[I", true)
  | 3 => ("AddressTextsModel", "family", "[I", true)
  | 4 => ("AddressTextsModel", "length", "[I", true)
  | 5 => ("AddressTextsModel", "parts", "[I", true)
  | 6 => ("AddressTextsModel", "many", "I", false)
  | 7 => ("AddressTextsModel", "gap", "I", false)
  | 8 => ("AddressTextsModel", "out", "[I", true)
  | _ => ("AddressTextsModel", "written", "I", false)
def tyXM : Nat → FieldType := fun k => match k with
  | 0 => .array .int
  | 1 => .int
  | 2 => .array .int
  | 3 => .array .int
  | 4 => .array .int
  | 5 => .array .int
  | 6 => .int
  | 7 => .int
  | 8 => .array .int
  | _ => .int
abbrev wsXM0 : List Cond := u_ws RXM TXM 10
theorem nmXM : ∀ a, a < 10 → ∀ b, b < 10 → a ≠ b → (TXM a).2.1 ≠ (TXM b).2.1 := by decide +kernel
theorem tyXM_ok : ∀ k, k < 10 → parseFieldDescriptor (TXM k).2.2.1 = some (tyXM k) := by decide +kernel
abbrev cXM_init : ByteArray := prog_4_method_1_code
def yXM_init : MethodName := ⟨RXM, "<init>", "()V"⟩
abbrev cXM_lay : ByteArray := prog_4_method_3_code
def yXM_lay : MethodName := ⟨RXM, "lay", "(I)V"⟩
abbrev cXM_feed : ByteArray := prog_4_method_4_code
def yXM_feed : MethodName := ⟨RXM, "feed", "(IIIII)Z"⟩
abbrev cXM_end : ByteArray := prog_4_method_5_code
def yXM_end : MethodName := ⟨RXM, "end", "(I)Z"⟩
abbrev cXM_isDigit : ByteArray := prog_4_method_6_code
def yXM_isDigit : MethodName := ⟨RXM, "isDigit", "(I)Z"⟩
abbrev cXM_hexadecimal : ByteArray := prog_4_method_7_code
def yXM_hexadecimal : MethodName := ⟨RXM, "hexadecimal", "(I)I"⟩
abbrev cXM_decimal : ByteArray := prog_4_method_8_code
def yXM_decimal : MethodName := ⟨RXM, "decimal", "(III)I"⟩
abbrev cXM_isFour : ByteArray := prog_4_method_9_code
def yXM_isFour : MethodName := ⟨RXM, "isFour", "()Z"⟩
abbrev cXM_isSix : ByteArray := prog_4_method_10_code
def yXM_isSix : MethodName := ⟨RXM, "isSix", "()Z"⟩
abbrev cXM_read : ByteArray := prog_4_method_11_code
def yXM_read : MethodName := ⟨RXM, "read", "()I"⟩
abbrev cXM_length : ByteArray := prog_4_method_12_code
def yXM_length : MethodName := ⟨RXM, "length", "()I"⟩
abbrev cXM_bit : ByteArray := prog_4_method_13_code
def yXM_bit : MethodName := ⟨RXM, "bit", "(II)I"⟩
abbrev cXM_cut : ByteArray := prog_4_method_14_code
def yXM_cut : MethodName := ⟨RXM, "cut", "()Z"⟩
abbrev cXM_covers : ByteArray := prog_4_method_15_code
def yXM_covers : MethodName := ⟨RXM, "covers", "()Z"⟩
abbrev cXM_order : ByteArray := prog_4_method_16_code
def yXM_order : MethodName := ⟨RXM, "order", "()I"⟩
abbrev cXM_turn : ByteArray := prog_4_method_17_code
def yXM_turn : MethodName := ⟨RXM, "turn", "()V"⟩
abbrev cXM_say : ByteArray := prog_4_method_18_code
def yXM_say : MethodName := ⟨RXM, "say", "(I)V"⟩
abbrev cXM_sayDecimal : ByteArray := prog_4_method_19_code
def yXM_sayDecimal : MethodName := ⟨RXM, "sayDecimal", "(I)V"⟩
abbrev cXM_sayPart : ByteArray := prog_4_method_20_code
def yXM_sayPart : MethodName := ⟨RXM, "sayPart", "(I)V"⟩
abbrev cXM_part : ByteArray := prog_4_method_21_code
def yXM_part : MethodName := ⟨RXM, "part", "(I)I"⟩
abbrev cXM_noughts : ByteArray := prog_4_method_22_code
def yXM_noughts : MethodName := ⟨RXM, "noughts", "(I)I"⟩
abbrev cXM_write : ByteArray := prog_4_method_23_code
def yXM_write : MethodName := ⟨RXM, "write", "()I"⟩
abbrev cXM_writtenAt : ByteArray := prog_4_method_24_code
def yXM_writtenAt : MethodName := ⟨RXM, "writtenAt", "(I)I"⟩
abbrev cXM_bits : ByteArray := prog_4_method_25_code
def yXM_bits : MethodName := ⟨RXM, "bits", "(I)J"⟩
def wsXM_init : List Cond := .code yXM_init cXM_init 1 none :: ([.methodLink RXM 1 objectInit, .instanceMethod objectInit, .code objectInit ⟨#[0xb1]⟩ 1 none, .arrayClass .int, .fieldLink RXM 7 "AddressTextsModel" "tape" "[I", .fieldLink RXM 13 "AddressTextsModel" "bytes" "[I", .fieldLink RXM 16 "AddressTextsModel" "family" "[I", .fieldLink RXM 19 "AddressTextsModel" "length" "[I", .fieldLink RXM 22 "AddressTextsModel" "parts" "[I", .fieldLink RXM 25 "AddressTextsModel" "out" "[I"] ++ wsXM0)
def wsXM_lay : List Cond := .code yXM_lay cXM_lay 3 none :: ([.fieldLink RXM 7 "AddressTextsModel" "tape" "[I", .fieldLink RXM 28 "AddressTextsModel" "size" "I"] ++ wsXM0)
def wsXM_feed : List Cond := .code yXM_feed cXM_feed 6 (some .boolean) :: ([.fieldLink RXM 28 "AddressTextsModel" "size" "I", .methodLink RXM 32 yXM_lay, .instanceMethod yXM_lay, .selects RXM yXM_lay yXM_lay, .initialized RXM, .code yXM_lay cXM_lay 3 none, .fieldLink RXM 7 "AddressTextsModel" "tape" "[I"] ++ wsXM0)
def wsXM_end : List Cond := .code yXM_end cXM_end 2 (some .boolean) :: ([.fieldLink RXM 28 "AddressTextsModel" "size" "I"] ++ wsXM0)
def wsXM_isDigit : List Cond := .code yXM_isDigit cXM_isDigit 1 (some .boolean) :: ([] ++ wsXM0)
def wsXM_hexadecimal : List Cond := .code yXM_hexadecimal cXM_hexadecimal 1 (some .int) :: ([.methodLink RXM 36 yXM_isDigit, .static yXM_isDigit, .initialized RXM, .code yXM_isDigit cXM_isDigit 1 (some .boolean)] ++ wsXM0)
def wsXM_decimal : List Cond := .code yXM_decimal cXM_decimal 6 (some .int) :: ([.fieldLink RXM 7 "AddressTextsModel" "tape" "[I", .methodLink RXM 36 yXM_isDigit, .static yXM_isDigit, .initialized RXM, .code yXM_isDigit cXM_isDigit 1 (some .boolean)] ++ wsXM0)
def wsXM_isFour : List Cond := .code yXM_isFour cXM_isFour 4 (some .boolean) :: ([.fieldLink RXM 40 "AddressTextsModel" "many" "I", .fieldLink RXM 28 "AddressTextsModel" "size" "I", .fieldLink RXM 7 "AddressTextsModel" "tape" "[I", .methodLink RXM 43 yXM_decimal, .instanceMethod yXM_decimal, .selects RXM yXM_decimal yXM_decimal, .initialized RXM, .fieldLink RXM 22 "AddressTextsModel" "parts" "[I", .code yXM_decimal cXM_decimal 6 (some .int), .methodLink RXM 36 yXM_isDigit, .static yXM_isDigit, .code yXM_isDigit cXM_isDigit 1 (some .boolean)] ++ wsXM0)
def wsXM_isSix : List Cond := .code yXM_isSix cXM_isSix 4 (some .boolean) :: ([.fieldLink RXM 40 "AddressTextsModel" "many" "I", .fieldLink RXM 47 "AddressTextsModel" "gap" "I", .fieldLink RXM 28 "AddressTextsModel" "size" "I", .fieldLink RXM 7 "AddressTextsModel" "tape" "[I", .methodLink RXM 50 yXM_hexadecimal, .static yXM_hexadecimal, .initialized RXM, .fieldLink RXM 22 "AddressTextsModel" "parts" "[I", .code yXM_hexadecimal cXM_hexadecimal 1 (some .int), .methodLink RXM 36 yXM_isDigit, .static yXM_isDigit, .code yXM_isDigit cXM_isDigit 1 (some .boolean)] ++ wsXM0)
def wsXM_read : List Cond := .code yXM_read cXM_read 5 (some .int) :: ([.fieldLink RXM 28 "AddressTextsModel" "size" "I", .fieldLink RXM 7 "AddressTextsModel" "tape" "[I", .methodLink RXM 54 yXM_isSix, .instanceMethod yXM_isSix, .selects RXM yXM_isSix yXM_isSix, .initialized RXM, .methodLink RXM 58 yXM_isFour, .instanceMethod yXM_isFour, .selects RXM yXM_isFour yXM_isFour, .fieldLink RXM 13 "AddressTextsModel" "bytes" "[I", .fieldLink RXM 16 "AddressTextsModel" "family" "[I", .fieldLink RXM 19 "AddressTextsModel" "length" "[I", .fieldLink RXM 40 "AddressTextsModel" "many" "I", .fieldLink RXM 22 "AddressTextsModel" "parts" "[I", .fieldLink RXM 47 "AddressTextsModel" "gap" "I", .code yXM_isSix cXM_isSix 4 (some .boolean), .methodLink RXM 50 yXM_hexadecimal, .static yXM_hexadecimal, .code yXM_hexadecimal cXM_hexadecimal 1 (some .int), .methodLink RXM 36 yXM_isDigit, .static yXM_isDigit, .code yXM_isDigit cXM_isDigit 1 (some .boolean), .code yXM_isFour cXM_isFour 4 (some .boolean), .methodLink RXM 43 yXM_decimal, .instanceMethod yXM_decimal, .selects RXM yXM_decimal yXM_decimal, .code yXM_decimal cXM_decimal 6 (some .int)] ++ wsXM0)
def wsXM_length : List Cond := .code yXM_length cXM_length 2 (some .int) :: ([.fieldLink RXM 28 "AddressTextsModel" "size" "I", .fieldLink RXM 16 "AddressTextsModel" "family" "[I", .methodLink RXM 43 yXM_decimal, .instanceMethod yXM_decimal, .selects RXM yXM_decimal yXM_decimal, .initialized RXM, .fieldLink RXM 19 "AddressTextsModel" "length" "[I", .code yXM_decimal cXM_decimal 6 (some .int), .fieldLink RXM 7 "AddressTextsModel" "tape" "[I", .methodLink RXM 36 yXM_isDigit, .static yXM_isDigit, .code yXM_isDigit cXM_isDigit 1 (some .boolean)] ++ wsXM0)
def wsXM_bit : List Cond := .code yXM_bit cXM_bit 4 (some .int) :: ([.fieldLink RXM 16 "AddressTextsModel" "family" "[I", .fieldLink RXM 13 "AddressTextsModel" "bytes" "[I"] ++ wsXM0)
def wsXM_cut : List Cond := .code yXM_cut cXM_cut 5 (some .boolean) :: ([.fieldLink RXM 16 "AddressTextsModel" "family" "[I", .fieldLink RXM 19 "AddressTextsModel" "length" "[I", .methodLink RXM 61 yXM_bit, .instanceMethod yXM_bit, .selects RXM yXM_bit yXM_bit, .initialized RXM, .fieldLink RXM 13 "AddressTextsModel" "bytes" "[I", .code yXM_bit cXM_bit 4 (some .int)] ++ wsXM0)
def wsXM_covers : List Cond := .code yXM_covers cXM_covers 3 (some .boolean) :: ([.fieldLink RXM 16 "AddressTextsModel" "family" "[I", .fieldLink RXM 19 "AddressTextsModel" "length" "[I", .methodLink RXM 61 yXM_bit, .instanceMethod yXM_bit, .selects RXM yXM_bit yXM_bit, .initialized RXM, .code yXM_bit cXM_bit 4 (some .int), .fieldLink RXM 13 "AddressTextsModel" "bytes" "[I"] ++ wsXM0)
def wsXM_order : List Cond := .code yXM_order cXM_order 2 (some .int) :: ([.fieldLink RXM 16 "AddressTextsModel" "family" "[I", .fieldLink RXM 13 "AddressTextsModel" "bytes" "[I", .fieldLink RXM 19 "AddressTextsModel" "length" "[I"] ++ wsXM0)
def wsXM_turn : List Cond := .code yXM_turn cXM_turn 3 none :: ([.fieldLink RXM 13 "AddressTextsModel" "bytes" "[I", .fieldLink RXM 16 "AddressTextsModel" "family" "[I", .fieldLink RXM 19 "AddressTextsModel" "length" "[I"] ++ wsXM0)
def wsXM_say : List Cond := .code yXM_say cXM_say 2 none :: ([.fieldLink RXM 25 "AddressTextsModel" "out" "[I", .fieldLink RXM 65 "AddressTextsModel" "written" "I"] ++ wsXM0)
def wsXM_sayDecimal : List Cond := .code yXM_sayDecimal cXM_sayDecimal 2 none :: ([.methodLink RXM 68 yXM_say, .instanceMethod yXM_say, .selects RXM yXM_say yXM_say, .initialized RXM, .code yXM_say cXM_say 2 none, .fieldLink RXM 25 "AddressTextsModel" "out" "[I", .fieldLink RXM 65 "AddressTextsModel" "written" "I"] ++ wsXM0)
def wsXM_sayPart : List Cond := .code yXM_sayPart cXM_sayPart 3 none :: ([.methodLink RXM 68 yXM_say, .instanceMethod yXM_say, .selects RXM yXM_say yXM_say, .initialized RXM, .code yXM_say cXM_say 2 none, .fieldLink RXM 25 "AddressTextsModel" "out" "[I", .fieldLink RXM 65 "AddressTextsModel" "written" "I"] ++ wsXM0)
def wsXM_part : List Cond := .code yXM_part cXM_part 2 (some .int) :: ([.fieldLink RXM 13 "AddressTextsModel" "bytes" "[I"] ++ wsXM0)
def wsXM_noughts : List Cond := .code yXM_noughts cXM_noughts 3 (some .int) :: ([.methodLink RXM 71 yXM_part, .instanceMethod yXM_part, .selects RXM yXM_part yXM_part, .initialized RXM, .code yXM_part cXM_part 2 (some .int), .fieldLink RXM 13 "AddressTextsModel" "bytes" "[I"] ++ wsXM0)
def wsXM_write : List Cond := .code yXM_write cXM_write 4 (some .int) :: ([.fieldLink RXM 65 "AddressTextsModel" "written" "I", .fieldLink RXM 16 "AddressTextsModel" "family" "[I", .methodLink RXM 68 yXM_say, .instanceMethod yXM_say, .selects RXM yXM_say yXM_say, .initialized RXM, .fieldLink RXM 13 "AddressTextsModel" "bytes" "[I", .methodLink RXM 74 yXM_sayDecimal, .instanceMethod yXM_sayDecimal, .selects RXM yXM_sayDecimal yXM_sayDecimal, .methodLink RXM 77 yXM_noughts, .instanceMethod yXM_noughts, .selects RXM yXM_noughts yXM_noughts, .methodLink RXM 71 yXM_part, .instanceMethod yXM_part, .selects RXM yXM_part yXM_part, .methodLink RXM 80 yXM_sayPart, .instanceMethod yXM_sayPart, .selects RXM yXM_sayPart yXM_sayPart, .code yXM_say cXM_say 2 none, .fieldLink RXM 25 "AddressTextsModel" "out" "[I", .code yXM_sayDecimal cXM_sayDecimal 2 none, .code yXM_noughts cXM_noughts 3 (some .int), .code yXM_part cXM_part 2 (some .int), .code yXM_sayPart cXM_sayPart 3 none] ++ wsXM0)
def wsXM_writtenAt : List Cond := .code yXM_writtenAt cXM_writtenAt 2 (some .int) :: ([.fieldLink RXM 65 "AddressTextsModel" "written" "I", .fieldLink RXM 25 "AddressTextsModel" "out" "[I"] ++ wsXM0)
def wsXM_bits : List Cond := .code yXM_bits cXM_bits 5 (some .long) :: ([.fieldLink RXM 13 "AddressTextsModel" "bytes" "[I"] ++ wsXM0)
theorem dXM_init_0 : decode cXM_init 0 = .ok (.aload_n 0, 1) := by decide +kernel
theorem dXM_init_1 : decode cXM_init 1 = .ok (.invokespecial 1, 3) := by decide +kernel
theorem dXM_init_4 : decode cXM_init 4 = .ok (.aload_n 0, 1) := by decide +kernel
theorem dXM_init_5 : decode cXM_init 5 = .ok (.bipush 60, 2) := by decide +kernel
theorem dXM_init_7 : decode cXM_init 7 = .ok (.newarray .int, 2) := by decide +kernel
theorem dXM_init_9 : decode cXM_init 9 = .ok (.putfield 7, 3) := by decide +kernel
theorem dXM_init_12 : decode cXM_init 12 = .ok (.aload_n 0, 1) := by decide +kernel
theorem dXM_init_13 : decode cXM_init 13 = .ok (.bipush 32, 2) := by decide +kernel
theorem dXM_init_15 : decode cXM_init 15 = .ok (.newarray .int, 2) := by decide +kernel
theorem dXM_init_17 : decode cXM_init 17 = .ok (.putfield 13, 3) := by decide +kernel
theorem dXM_init_20 : decode cXM_init 20 = .ok (.aload_n 0, 1) := by decide +kernel
theorem dXM_init_21 : decode cXM_init 21 = .ok (.iconst 2, 1) := by decide +kernel
theorem dXM_init_22 : decode cXM_init 22 = .ok (.newarray .int, 2) := by decide +kernel
theorem dXM_init_24 : decode cXM_init 24 = .ok (.dup, 1) := by decide +kernel
theorem dXM_init_25 : decode cXM_init 25 = .ok (.iconst 0, 1) := by decide +kernel
theorem dXM_init_26 : decode cXM_init 26 = .ok (.iconst 4, 1) := by decide +kernel
theorem dXM_init_27 : decode cXM_init 27 = .ok (.iastore, 1) := by decide +kernel
theorem dXM_init_28 : decode cXM_init 28 = .ok (.dup, 1) := by decide +kernel
theorem dXM_init_29 : decode cXM_init 29 = .ok (.iconst 1, 1) := by decide +kernel
theorem dXM_init_30 : decode cXM_init 30 = .ok (.iconst 4, 1) := by decide +kernel
theorem dXM_init_31 : decode cXM_init 31 = .ok (.iastore, 1) := by decide +kernel
theorem dXM_init_32 : decode cXM_init 32 = .ok (.putfield 16, 3) := by decide +kernel
theorem dXM_init_35 : decode cXM_init 35 = .ok (.aload_n 0, 1) := by decide +kernel
theorem dXM_init_36 : decode cXM_init 36 = .ok (.iconst 2, 1) := by decide +kernel
theorem dXM_init_37 : decode cXM_init 37 = .ok (.newarray .int, 2) := by decide +kernel
theorem dXM_init_39 : decode cXM_init 39 = .ok (.dup, 1) := by decide +kernel
theorem dXM_init_40 : decode cXM_init 40 = .ok (.iconst 0, 1) := by decide +kernel
theorem dXM_init_41 : decode cXM_init 41 = .ok (.bipush 32, 2) := by decide +kernel
theorem dXM_init_43 : decode cXM_init 43 = .ok (.iastore, 1) := by decide +kernel
theorem dXM_init_44 : decode cXM_init 44 = .ok (.dup, 1) := by decide +kernel
theorem dXM_init_45 : decode cXM_init 45 = .ok (.iconst 1, 1) := by decide +kernel
theorem dXM_init_46 : decode cXM_init 46 = .ok (.bipush 32, 2) := by decide +kernel
theorem dXM_init_48 : decode cXM_init 48 = .ok (.iastore, 1) := by decide +kernel
theorem dXM_init_49 : decode cXM_init 49 = .ok (.putfield 19, 3) := by decide +kernel
theorem dXM_init_52 : decode cXM_init 52 = .ok (.aload_n 0, 1) := by decide +kernel
theorem dXM_init_53 : decode cXM_init 53 = .ok (.bipush 8, 2) := by decide +kernel
theorem dXM_init_55 : decode cXM_init 55 = .ok (.newarray .int, 2) := by decide +kernel
theorem dXM_init_57 : decode cXM_init 57 = .ok (.putfield 22, 3) := by decide +kernel
theorem dXM_init_60 : decode cXM_init 60 = .ok (.aload_n 0, 1) := by decide +kernel
theorem dXM_init_61 : decode cXM_init 61 = .ok (.bipush 64, 2) := by decide +kernel
theorem dXM_init_63 : decode cXM_init 63 = .ok (.newarray .int, 2) := by decide +kernel
theorem dXM_init_65 : decode cXM_init 65 = .ok (.putfield 25, 3) := by decide +kernel
theorem dXM_init_68 : decode cXM_init 68 = .ok (.return_, 1) := by decide +kernel
theorem dXM_lay_0 : decode cXM_lay 0 = .ok (.bipush 24, 2) := by decide +kernel
theorem dXM_lay_2 : decode cXM_lay 2 = .ok (.istore_n 2, 1) := by decide +kernel
theorem dXM_lay_3 : decode cXM_lay 3 = .ok (.iload_n 2, 1) := by decide +kernel
theorem dXM_lay_4 : decode cXM_lay 4 = .ok (.ifCond .lt 35, 3) := by decide +kernel
theorem dXM_lay_7 : decode cXM_lay 7 = .ok (.aload_n 0, 1) := by decide +kernel
theorem dXM_lay_8 : decode cXM_lay 8 = .ok (.getfield 7, 3) := by decide +kernel
theorem dXM_lay_11 : decode cXM_lay 11 = .ok (.aload_n 0, 1) := by decide +kernel
theorem dXM_lay_12 : decode cXM_lay 12 = .ok (.getfield 28, 3) := by decide +kernel
theorem dXM_lay_15 : decode cXM_lay 15 = .ok (.iload_n 1, 1) := by decide +kernel
theorem dXM_lay_16 : decode cXM_lay 16 = .ok (.iload_n 2, 1) := by decide +kernel
theorem dXM_lay_17 : decode cXM_lay 17 = .ok (.ishr, 1) := by decide +kernel
theorem dXM_lay_18 : decode cXM_lay 18 = .ok (.sipush 255, 3) := by decide +kernel
theorem dXM_lay_21 : decode cXM_lay 21 = .ok (.iand, 1) := by decide +kernel
theorem dXM_lay_22 : decode cXM_lay 22 = .ok (.iastore, 1) := by decide +kernel
theorem dXM_lay_23 : decode cXM_lay 23 = .ok (.aload_n 0, 1) := by decide +kernel
theorem dXM_lay_24 : decode cXM_lay 24 = .ok (.dup, 1) := by decide +kernel
theorem dXM_lay_25 : decode cXM_lay 25 = .ok (.getfield 28, 3) := by decide +kernel
theorem dXM_lay_28 : decode cXM_lay 28 = .ok (.iconst 1, 1) := by decide +kernel
theorem dXM_lay_29 : decode cXM_lay 29 = .ok (.iadd, 1) := by decide +kernel
theorem dXM_lay_30 : decode cXM_lay 30 = .ok (.putfield 28, 3) := by decide +kernel
theorem dXM_lay_33 : decode cXM_lay 33 = .ok (.iinc 2 (-8), 3) := by decide +kernel
theorem dXM_lay_36 : decode cXM_lay 36 = .ok (.goto (-33), 3) := by decide +kernel
theorem dXM_lay_39 : decode cXM_lay 39 = .ok (.return_, 1) := by decide +kernel
theorem dXM_feed_0 : decode cXM_feed 0 = .ok (.aload_n 0, 1) := by decide +kernel
theorem dXM_feed_1 : decode cXM_feed 1 = .ok (.getfield 28, 3) := by decide +kernel
theorem dXM_feed_4 : decode cXM_feed 4 = .ok (.bipush 20, 2) := by decide +kernel
theorem dXM_feed_6 : decode cXM_feed 6 = .ok (.iadd, 1) := by decide +kernel
theorem dXM_feed_7 : decode cXM_feed 7 = .ok (.bipush 60, 2) := by decide +kernel
theorem dXM_feed_9 : decode cXM_feed 9 = .ok (.if_icmp .le 5, 3) := by decide +kernel
theorem dXM_feed_12 : decode cXM_feed 12 = .ok (.iconst 0, 1) := by decide +kernel
theorem dXM_feed_13 : decode cXM_feed 13 = .ok (.ireturn, 1) := by decide +kernel
theorem dXM_feed_14 : decode cXM_feed 14 = .ok (.aload_n 0, 1) := by decide +kernel
theorem dXM_feed_15 : decode cXM_feed 15 = .ok (.iload_n 1, 1) := by decide +kernel
theorem dXM_feed_16 : decode cXM_feed 16 = .ok (.invokevirtual 32, 3) := by decide +kernel
theorem dXM_feed_19 : decode cXM_feed 19 = .ok (.aload_n 0, 1) := by decide +kernel
theorem dXM_feed_20 : decode cXM_feed 20 = .ok (.iload_n 2, 1) := by decide +kernel
theorem dXM_feed_21 : decode cXM_feed 21 = .ok (.invokevirtual 32, 3) := by decide +kernel
theorem dXM_feed_24 : decode cXM_feed 24 = .ok (.aload_n 0, 1) := by decide +kernel
theorem dXM_feed_25 : decode cXM_feed 25 = .ok (.iload_n 3, 1) := by decide +kernel
theorem dXM_feed_26 : decode cXM_feed 26 = .ok (.invokevirtual 32, 3) := by decide +kernel
theorem dXM_feed_29 : decode cXM_feed 29 = .ok (.aload_n 0, 1) := by decide +kernel
theorem dXM_feed_30 : decode cXM_feed 30 = .ok (.iload 4, 2) := by decide +kernel
theorem dXM_feed_32 : decode cXM_feed 32 = .ok (.invokevirtual 32, 3) := by decide +kernel
theorem dXM_feed_35 : decode cXM_feed 35 = .ok (.aload_n 0, 1) := by decide +kernel
theorem dXM_feed_36 : decode cXM_feed 36 = .ok (.iload 5, 2) := by decide +kernel
theorem dXM_feed_38 : decode cXM_feed 38 = .ok (.invokevirtual 32, 3) := by decide +kernel
theorem dXM_feed_41 : decode cXM_feed 41 = .ok (.iconst 1, 1) := by decide +kernel
theorem dXM_feed_42 : decode cXM_feed 42 = .ok (.ireturn, 1) := by decide +kernel
theorem dXM_end_0 : decode cXM_end 0 = .ok (.iload_n 1, 1) := by decide +kernel
theorem dXM_end_1 : decode cXM_end 1 = .ok (.ifCond .lt 11, 3) := by decide +kernel
theorem dXM_end_4 : decode cXM_end 4 = .ok (.iload_n 1, 1) := by decide +kernel
theorem dXM_end_5 : decode cXM_end 5 = .ok (.aload_n 0, 1) := by decide +kernel
theorem dXM_end_6 : decode cXM_end 6 = .ok (.getfield 28, 3) := by decide +kernel
theorem dXM_end_9 : decode cXM_end 9 = .ok (.if_icmp .le 5, 3) := by decide +kernel
theorem dXM_end_12 : decode cXM_end 12 = .ok (.iconst 0, 1) := by decide +kernel
theorem dXM_end_13 : decode cXM_end 13 = .ok (.ireturn, 1) := by decide +kernel
theorem dXM_end_14 : decode cXM_end 14 = .ok (.aload_n 0, 1) := by decide +kernel
theorem dXM_end_15 : decode cXM_end 15 = .ok (.iload_n 1, 1) := by decide +kernel
theorem dXM_end_16 : decode cXM_end 16 = .ok (.putfield 28, 3) := by decide +kernel
theorem dXM_end_19 : decode cXM_end 19 = .ok (.iconst 1, 1) := by decide +kernel
theorem dXM_end_20 : decode cXM_end 20 = .ok (.ireturn, 1) := by decide +kernel
theorem dXM_isDigit_0 : decode cXM_isDigit 0 = .ok (.iload_n 0, 1) := by decide +kernel
theorem dXM_isDigit_1 : decode cXM_isDigit 1 = .ok (.bipush 48, 2) := by decide +kernel
theorem dXM_isDigit_3 : decode cXM_isDigit 3 = .ok (.if_icmp .lt 13, 3) := by decide +kernel
theorem dXM_isDigit_6 : decode cXM_isDigit 6 = .ok (.iload_n 0, 1) := by decide +kernel
theorem dXM_isDigit_7 : decode cXM_isDigit 7 = .ok (.bipush 57, 2) := by decide +kernel
theorem dXM_isDigit_9 : decode cXM_isDigit 9 = .ok (.if_icmp .gt 7, 3) := by decide +kernel
theorem dXM_isDigit_12 : decode cXM_isDigit 12 = .ok (.iconst 1, 1) := by decide +kernel
theorem dXM_isDigit_13 : decode cXM_isDigit 13 = .ok (.goto 4, 3) := by decide +kernel
theorem dXM_isDigit_16 : decode cXM_isDigit 16 = .ok (.iconst 0, 1) := by decide +kernel
theorem dXM_isDigit_17 : decode cXM_isDigit 17 = .ok (.ireturn, 1) := by decide +kernel
theorem dXM_hexadecimal_0 : decode cXM_hexadecimal 0 = .ok (.iload_n 0, 1) := by decide +kernel
theorem dXM_hexadecimal_1 : decode cXM_hexadecimal 1 = .ok (.invokestatic 36, 3) := by decide +kernel
theorem dXM_hexadecimal_4 : decode cXM_hexadecimal 4 = .ok (.ifCond .eq 10, 3) := by decide +kernel
theorem dXM_hexadecimal_7 : decode cXM_hexadecimal 7 = .ok (.iload_n 0, 1) := by decide +kernel
theorem dXM_hexadecimal_8 : decode cXM_hexadecimal 8 = .ok (.bipush 48, 2) := by decide +kernel
theorem dXM_hexadecimal_10 : decode cXM_hexadecimal 10 = .ok (.isub, 1) := by decide +kernel
theorem dXM_hexadecimal_11 : decode cXM_hexadecimal 11 = .ok (.goto 48, 3) := by decide +kernel
theorem dXM_hexadecimal_14 : decode cXM_hexadecimal 14 = .ok (.iload_n 0, 1) := by decide +kernel
theorem dXM_hexadecimal_15 : decode cXM_hexadecimal 15 = .ok (.bipush 97, 2) := by decide +kernel
theorem dXM_hexadecimal_17 : decode cXM_hexadecimal 17 = .ok (.if_icmp .lt 19, 3) := by decide +kernel
theorem dXM_hexadecimal_20 : decode cXM_hexadecimal 20 = .ok (.iload_n 0, 1) := by decide +kernel
theorem dXM_hexadecimal_21 : decode cXM_hexadecimal 21 = .ok (.bipush 102, 2) := by decide +kernel
theorem dXM_hexadecimal_23 : decode cXM_hexadecimal 23 = .ok (.if_icmp .gt 13, 3) := by decide +kernel
theorem dXM_hexadecimal_26 : decode cXM_hexadecimal 26 = .ok (.iload_n 0, 1) := by decide +kernel
theorem dXM_hexadecimal_27 : decode cXM_hexadecimal 27 = .ok (.bipush 97, 2) := by decide +kernel
theorem dXM_hexadecimal_29 : decode cXM_hexadecimal 29 = .ok (.isub, 1) := by decide +kernel
theorem dXM_hexadecimal_30 : decode cXM_hexadecimal 30 = .ok (.bipush 10, 2) := by decide +kernel
theorem dXM_hexadecimal_32 : decode cXM_hexadecimal 32 = .ok (.iadd, 1) := by decide +kernel
theorem dXM_hexadecimal_33 : decode cXM_hexadecimal 33 = .ok (.goto 26, 3) := by decide +kernel
theorem dXM_hexadecimal_36 : decode cXM_hexadecimal 36 = .ok (.iload_n 0, 1) := by decide +kernel
theorem dXM_hexadecimal_37 : decode cXM_hexadecimal 37 = .ok (.bipush 65, 2) := by decide +kernel
theorem dXM_hexadecimal_39 : decode cXM_hexadecimal 39 = .ok (.if_icmp .lt 19, 3) := by decide +kernel
theorem dXM_hexadecimal_42 : decode cXM_hexadecimal 42 = .ok (.iload_n 0, 1) := by decide +kernel
theorem dXM_hexadecimal_43 : decode cXM_hexadecimal 43 = .ok (.bipush 70, 2) := by decide +kernel
theorem dXM_hexadecimal_45 : decode cXM_hexadecimal 45 = .ok (.if_icmp .gt 13, 3) := by decide +kernel
theorem dXM_hexadecimal_48 : decode cXM_hexadecimal 48 = .ok (.iload_n 0, 1) := by decide +kernel
theorem dXM_hexadecimal_49 : decode cXM_hexadecimal 49 = .ok (.bipush 65, 2) := by decide +kernel
theorem dXM_hexadecimal_51 : decode cXM_hexadecimal 51 = .ok (.isub, 1) := by decide +kernel
theorem dXM_hexadecimal_52 : decode cXM_hexadecimal 52 = .ok (.bipush 10, 2) := by decide +kernel
theorem dXM_hexadecimal_54 : decode cXM_hexadecimal 54 = .ok (.iadd, 1) := by decide +kernel
theorem dXM_hexadecimal_55 : decode cXM_hexadecimal 55 = .ok (.goto 4, 3) := by decide +kernel
theorem dXM_hexadecimal_58 : decode cXM_hexadecimal 58 = .ok (.iconst (-1), 1) := by decide +kernel
theorem dXM_hexadecimal_59 : decode cXM_hexadecimal 59 = .ok (.ireturn, 1) := by decide +kernel
theorem dXM_decimal_0 : decode cXM_decimal 0 = .ok (.iload_n 1, 1) := by decide +kernel
theorem dXM_decimal_1 : decode cXM_decimal 1 = .ok (.iload_n 2, 1) := by decide +kernel
theorem dXM_decimal_2 : decode cXM_decimal 2 = .ok (.if_icmp .eq 28, 3) := by decide +kernel
theorem dXM_decimal_5 : decode cXM_decimal 5 = .ok (.iload_n 2, 1) := by decide +kernel
theorem dXM_decimal_6 : decode cXM_decimal 6 = .ok (.iload_n 1, 1) := by decide +kernel
theorem dXM_decimal_7 : decode cXM_decimal 7 = .ok (.isub, 1) := by decide +kernel
theorem dXM_decimal_8 : decode cXM_decimal 8 = .ok (.iconst 3, 1) := by decide +kernel
theorem dXM_decimal_9 : decode cXM_decimal 9 = .ok (.if_icmp .gt 21, 3) := by decide +kernel
theorem dXM_decimal_12 : decode cXM_decimal 12 = .ok (.iload_n 2, 1) := by decide +kernel
theorem dXM_decimal_13 : decode cXM_decimal 13 = .ok (.iload_n 1, 1) := by decide +kernel
theorem dXM_decimal_14 : decode cXM_decimal 14 = .ok (.isub, 1) := by decide +kernel
theorem dXM_decimal_15 : decode cXM_decimal 15 = .ok (.iconst 1, 1) := by decide +kernel
theorem dXM_decimal_16 : decode cXM_decimal 16 = .ok (.if_icmp .le 16, 3) := by decide +kernel
theorem dXM_decimal_19 : decode cXM_decimal 19 = .ok (.aload_n 0, 1) := by decide +kernel
theorem dXM_decimal_20 : decode cXM_decimal 20 = .ok (.getfield 7, 3) := by decide +kernel
theorem dXM_decimal_23 : decode cXM_decimal 23 = .ok (.iload_n 1, 1) := by decide +kernel
theorem dXM_decimal_24 : decode cXM_decimal 24 = .ok (.iaload, 1) := by decide +kernel
theorem dXM_decimal_25 : decode cXM_decimal 25 = .ok (.bipush 48, 2) := by decide +kernel
theorem dXM_decimal_27 : decode cXM_decimal 27 = .ok (.if_icmp .ne 5, 3) := by decide +kernel
theorem dXM_decimal_30 : decode cXM_decimal 30 = .ok (.iconst (-1), 1) := by decide +kernel
theorem dXM_decimal_31 : decode cXM_decimal 31 = .ok (.ireturn, 1) := by decide +kernel
theorem dXM_decimal_32 : decode cXM_decimal 32 = .ok (.iconst 0, 1) := by decide +kernel
theorem dXM_decimal_33 : decode cXM_decimal 33 = .ok (.istore 4, 2) := by decide +kernel
theorem dXM_decimal_35 : decode cXM_decimal 35 = .ok (.iload_n 1, 1) := by decide +kernel
theorem dXM_decimal_36 : decode cXM_decimal 36 = .ok (.istore 5, 2) := by decide +kernel
theorem dXM_decimal_38 : decode cXM_decimal 38 = .ok (.iload 5, 2) := by decide +kernel
theorem dXM_decimal_40 : decode cXM_decimal 40 = .ok (.iload_n 2, 1) := by decide +kernel
theorem dXM_decimal_41 : decode cXM_decimal 41 = .ok (.if_icmp .ge 42, 3) := by decide +kernel
theorem dXM_decimal_44 : decode cXM_decimal 44 = .ok (.aload_n 0, 1) := by decide +kernel
theorem dXM_decimal_45 : decode cXM_decimal 45 = .ok (.getfield 7, 3) := by decide +kernel
theorem dXM_decimal_48 : decode cXM_decimal 48 = .ok (.iload 5, 2) := by decide +kernel
theorem dXM_decimal_50 : decode cXM_decimal 50 = .ok (.iaload, 1) := by decide +kernel
theorem dXM_decimal_51 : decode cXM_decimal 51 = .ok (.invokestatic 36, 3) := by decide +kernel
theorem dXM_decimal_54 : decode cXM_decimal 54 = .ok (.ifCond .ne 5, 3) := by decide +kernel
theorem dXM_decimal_57 : decode cXM_decimal 57 = .ok (.iconst (-1), 1) := by decide +kernel
theorem dXM_decimal_58 : decode cXM_decimal 58 = .ok (.ireturn, 1) := by decide +kernel
theorem dXM_decimal_59 : decode cXM_decimal 59 = .ok (.bipush 10, 2) := by decide +kernel
theorem dXM_decimal_61 : decode cXM_decimal 61 = .ok (.iload 4, 2) := by decide +kernel
theorem dXM_decimal_63 : decode cXM_decimal 63 = .ok (.imul, 1) := by decide +kernel
theorem dXM_decimal_64 : decode cXM_decimal 64 = .ok (.aload_n 0, 1) := by decide +kernel
theorem dXM_decimal_65 : decode cXM_decimal 65 = .ok (.getfield 7, 3) := by decide +kernel
theorem dXM_decimal_68 : decode cXM_decimal 68 = .ok (.iload 5, 2) := by decide +kernel
theorem dXM_decimal_70 : decode cXM_decimal 70 = .ok (.iaload, 1) := by decide +kernel
theorem dXM_decimal_71 : decode cXM_decimal 71 = .ok (.iadd, 1) := by decide +kernel
theorem dXM_decimal_72 : decode cXM_decimal 72 = .ok (.bipush 48, 2) := by decide +kernel
theorem dXM_decimal_74 : decode cXM_decimal 74 = .ok (.isub, 1) := by decide +kernel
theorem dXM_decimal_75 : decode cXM_decimal 75 = .ok (.istore 4, 2) := by decide +kernel
theorem dXM_decimal_77 : decode cXM_decimal 77 = .ok (.iinc 5 1, 3) := by decide +kernel
theorem dXM_decimal_80 : decode cXM_decimal 80 = .ok (.goto (-42), 3) := by decide +kernel
theorem dXM_decimal_83 : decode cXM_decimal 83 = .ok (.iload 4, 2) := by decide +kernel
theorem dXM_decimal_85 : decode cXM_decimal 85 = .ok (.iload_n 3, 1) := by decide +kernel
theorem dXM_decimal_86 : decode cXM_decimal 86 = .ok (.if_icmp .le 7, 3) := by decide +kernel
theorem dXM_decimal_89 : decode cXM_decimal 89 = .ok (.iconst (-1), 1) := by decide +kernel
theorem dXM_decimal_90 : decode cXM_decimal 90 = .ok (.goto 5, 3) := by decide +kernel
theorem dXM_decimal_93 : decode cXM_decimal 93 = .ok (.iload 4, 2) := by decide +kernel
theorem dXM_decimal_95 : decode cXM_decimal 95 = .ok (.ireturn, 1) := by decide +kernel
theorem dXM_isFour_0 : decode cXM_isFour 0 = .ok (.aload_n 0, 1) := by decide +kernel
theorem dXM_isFour_1 : decode cXM_isFour 1 = .ok (.iconst 0, 1) := by decide +kernel
theorem dXM_isFour_2 : decode cXM_isFour 2 = .ok (.putfield 40, 3) := by decide +kernel
theorem dXM_isFour_5 : decode cXM_isFour 5 = .ok (.iconst 0, 1) := by decide +kernel
theorem dXM_isFour_6 : decode cXM_isFour 6 = .ok (.istore_n 1, 1) := by decide +kernel
theorem dXM_isFour_7 : decode cXM_isFour 7 = .ok (.iconst 0, 1) := by decide +kernel
theorem dXM_isFour_8 : decode cXM_isFour 8 = .ok (.istore_n 2, 1) := by decide +kernel
theorem dXM_isFour_9 : decode cXM_isFour 9 = .ok (.iload_n 2, 1) := by decide +kernel
theorem dXM_isFour_10 : decode cXM_isFour 10 = .ok (.aload_n 0, 1) := by decide +kernel
theorem dXM_isFour_11 : decode cXM_isFour 11 = .ok (.getfield 28, 3) := by decide +kernel
theorem dXM_isFour_14 : decode cXM_isFour 14 = .ok (.if_icmp .gt 83, 3) := by decide +kernel
theorem dXM_isFour_17 : decode cXM_isFour 17 = .ok (.iload_n 2, 1) := by decide +kernel
theorem dXM_isFour_18 : decode cXM_isFour 18 = .ok (.aload_n 0, 1) := by decide +kernel
theorem dXM_isFour_19 : decode cXM_isFour 19 = .ok (.getfield 28, 3) := by decide +kernel
theorem dXM_isFour_22 : decode cXM_isFour 22 = .ok (.if_icmp .ge 17, 3) := by decide +kernel
theorem dXM_isFour_25 : decode cXM_isFour 25 = .ok (.aload_n 0, 1) := by decide +kernel
theorem dXM_isFour_26 : decode cXM_isFour 26 = .ok (.getfield 7, 3) := by decide +kernel
theorem dXM_isFour_29 : decode cXM_isFour 29 = .ok (.iload_n 2, 1) := by decide +kernel
theorem dXM_isFour_30 : decode cXM_isFour 30 = .ok (.iaload, 1) := by decide +kernel
theorem dXM_isFour_31 : decode cXM_isFour 31 = .ok (.bipush 46, 2) := by decide +kernel
theorem dXM_isFour_33 : decode cXM_isFour 33 = .ok (.if_icmp .eq 6, 3) := by decide +kernel
theorem dXM_isFour_36 : decode cXM_isFour 36 = .ok (.goto 55, 3) := by decide +kernel
theorem dXM_isFour_39 : decode cXM_isFour 39 = .ok (.aload_n 0, 1) := by decide +kernel
theorem dXM_isFour_40 : decode cXM_isFour 40 = .ok (.getfield 40, 3) := by decide +kernel
theorem dXM_isFour_43 : decode cXM_isFour 43 = .ok (.iconst 4, 1) := by decide +kernel
theorem dXM_isFour_44 : decode cXM_isFour 44 = .ok (.if_icmp .ge 15, 3) := by decide +kernel
theorem dXM_isFour_47 : decode cXM_isFour 47 = .ok (.aload_n 0, 1) := by decide +kernel
theorem dXM_isFour_48 : decode cXM_isFour 48 = .ok (.iload_n 1, 1) := by decide +kernel
theorem dXM_isFour_49 : decode cXM_isFour 49 = .ok (.iload_n 2, 1) := by decide +kernel
theorem dXM_isFour_50 : decode cXM_isFour 50 = .ok (.sipush 255, 3) := by decide +kernel
theorem dXM_isFour_53 : decode cXM_isFour 53 = .ok (.invokevirtual 43, 3) := by decide +kernel
theorem dXM_isFour_56 : decode cXM_isFour 56 = .ok (.goto 4, 3) := by decide +kernel
theorem dXM_isFour_59 : decode cXM_isFour 59 = .ok (.iconst (-1), 1) := by decide +kernel
theorem dXM_isFour_60 : decode cXM_isFour 60 = .ok (.istore_n 3, 1) := by decide +kernel
theorem dXM_isFour_61 : decode cXM_isFour 61 = .ok (.iload_n 3, 1) := by decide +kernel
theorem dXM_isFour_62 : decode cXM_isFour 62 = .ok (.ifCond .ge 5, 3) := by decide +kernel
theorem dXM_isFour_65 : decode cXM_isFour 65 = .ok (.iconst 0, 1) := by decide +kernel
theorem dXM_isFour_66 : decode cXM_isFour 66 = .ok (.ireturn, 1) := by decide +kernel
theorem dXM_isFour_67 : decode cXM_isFour 67 = .ok (.aload_n 0, 1) := by decide +kernel
theorem dXM_isFour_68 : decode cXM_isFour 68 = .ok (.getfield 22, 3) := by decide +kernel
theorem dXM_isFour_71 : decode cXM_isFour 71 = .ok (.aload_n 0, 1) := by decide +kernel
theorem dXM_isFour_72 : decode cXM_isFour 72 = .ok (.getfield 40, 3) := by decide +kernel
theorem dXM_isFour_75 : decode cXM_isFour 75 = .ok (.iload_n 3, 1) := by decide +kernel
theorem dXM_isFour_76 : decode cXM_isFour 76 = .ok (.iastore, 1) := by decide +kernel
theorem dXM_isFour_77 : decode cXM_isFour 77 = .ok (.aload_n 0, 1) := by decide +kernel
theorem dXM_isFour_78 : decode cXM_isFour 78 = .ok (.dup, 1) := by decide +kernel
theorem dXM_isFour_79 : decode cXM_isFour 79 = .ok (.getfield 40, 3) := by decide +kernel
theorem dXM_isFour_82 : decode cXM_isFour 82 = .ok (.iconst 1, 1) := by decide +kernel
theorem dXM_isFour_83 : decode cXM_isFour 83 = .ok (.iadd, 1) := by decide +kernel
theorem dXM_isFour_84 : decode cXM_isFour 84 = .ok (.putfield 40, 3) := by decide +kernel
theorem dXM_isFour_87 : decode cXM_isFour 87 = .ok (.iload_n 2, 1) := by decide +kernel
theorem dXM_isFour_88 : decode cXM_isFour 88 = .ok (.iconst 1, 1) := by decide +kernel
theorem dXM_isFour_89 : decode cXM_isFour 89 = .ok (.iadd, 1) := by decide +kernel
theorem dXM_isFour_90 : decode cXM_isFour 90 = .ok (.istore_n 1, 1) := by decide +kernel
theorem dXM_isFour_91 : decode cXM_isFour 91 = .ok (.iinc 2 1, 3) := by decide +kernel
theorem dXM_isFour_94 : decode cXM_isFour 94 = .ok (.goto (-85), 3) := by decide +kernel
theorem dXM_isFour_97 : decode cXM_isFour 97 = .ok (.aload_n 0, 1) := by decide +kernel
theorem dXM_isFour_98 : decode cXM_isFour 98 = .ok (.getfield 40, 3) := by decide +kernel
theorem dXM_isFour_101 : decode cXM_isFour 101 = .ok (.iconst 4, 1) := by decide +kernel
theorem dXM_isFour_102 : decode cXM_isFour 102 = .ok (.if_icmp .ne 7, 3) := by decide +kernel
theorem dXM_isFour_105 : decode cXM_isFour 105 = .ok (.iconst 1, 1) := by decide +kernel
theorem dXM_isFour_106 : decode cXM_isFour 106 = .ok (.goto 4, 3) := by decide +kernel
theorem dXM_isFour_109 : decode cXM_isFour 109 = .ok (.iconst 0, 1) := by decide +kernel
theorem dXM_isFour_110 : decode cXM_isFour 110 = .ok (.ireturn, 1) := by decide +kernel
theorem dXM_isSix_0 : decode cXM_isSix 0 = .ok (.aload_n 0, 1) := by decide +kernel
theorem dXM_isSix_1 : decode cXM_isSix 1 = .ok (.iconst 0, 1) := by decide +kernel
theorem dXM_isSix_2 : decode cXM_isSix 2 = .ok (.putfield 40, 3) := by decide +kernel
theorem dXM_isSix_5 : decode cXM_isSix 5 = .ok (.aload_n 0, 1) := by decide +kernel
theorem dXM_isSix_6 : decode cXM_isSix 6 = .ok (.iconst (-1), 1) := by decide +kernel
theorem dXM_isSix_7 : decode cXM_isSix 7 = .ok (.putfield 47, 3) := by decide +kernel
theorem dXM_isSix_10 : decode cXM_isSix 10 = .ok (.iconst 0, 1) := by decide +kernel
theorem dXM_isSix_11 : decode cXM_isSix 11 = .ok (.istore_n 1, 1) := by decide +kernel
theorem dXM_isSix_12 : decode cXM_isSix 12 = .ok (.aload_n 0, 1) := by decide +kernel
theorem dXM_isSix_13 : decode cXM_isSix 13 = .ok (.getfield 28, 3) := by decide +kernel
theorem dXM_isSix_16 : decode cXM_isSix 16 = .ok (.iconst 1, 1) := by decide +kernel
theorem dXM_isSix_17 : decode cXM_isSix 17 = .ok (.if_icmp .le 32, 3) := by decide +kernel
theorem dXM_isSix_20 : decode cXM_isSix 20 = .ok (.aload_n 0, 1) := by decide +kernel
theorem dXM_isSix_21 : decode cXM_isSix 21 = .ok (.getfield 7, 3) := by decide +kernel
theorem dXM_isSix_24 : decode cXM_isSix 24 = .ok (.iconst 0, 1) := by decide +kernel
theorem dXM_isSix_25 : decode cXM_isSix 25 = .ok (.iaload, 1) := by decide +kernel
theorem dXM_isSix_26 : decode cXM_isSix 26 = .ok (.bipush 58, 2) := by decide +kernel
theorem dXM_isSix_28 : decode cXM_isSix 28 = .ok (.if_icmp .ne 21, 3) := by decide +kernel
theorem dXM_isSix_31 : decode cXM_isSix 31 = .ok (.aload_n 0, 1) := by decide +kernel
theorem dXM_isSix_32 : decode cXM_isSix 32 = .ok (.getfield 7, 3) := by decide +kernel
theorem dXM_isSix_35 : decode cXM_isSix 35 = .ok (.iconst 1, 1) := by decide +kernel
theorem dXM_isSix_36 : decode cXM_isSix 36 = .ok (.iaload, 1) := by decide +kernel
theorem dXM_isSix_37 : decode cXM_isSix 37 = .ok (.bipush 58, 2) := by decide +kernel
theorem dXM_isSix_39 : decode cXM_isSix 39 = .ok (.if_icmp .ne 10, 3) := by decide +kernel
theorem dXM_isSix_42 : decode cXM_isSix 42 = .ok (.aload_n 0, 1) := by decide +kernel
theorem dXM_isSix_43 : decode cXM_isSix 43 = .ok (.iconst 0, 1) := by decide +kernel
theorem dXM_isSix_44 : decode cXM_isSix 44 = .ok (.putfield 47, 3) := by decide +kernel
theorem dXM_isSix_47 : decode cXM_isSix 47 = .ok (.iconst 2, 1) := by decide +kernel
theorem dXM_isSix_48 : decode cXM_isSix 48 = .ok (.istore_n 1, 1) := by decide +kernel
theorem dXM_isSix_49 : decode cXM_isSix 49 = .ok (.iload_n 1, 1) := by decide +kernel
theorem dXM_isSix_50 : decode cXM_isSix 50 = .ok (.aload_n 0, 1) := by decide +kernel
theorem dXM_isSix_51 : decode cXM_isSix 51 = .ok (.getfield 28, 3) := by decide +kernel
theorem dXM_isSix_54 : decode cXM_isSix 54 = .ok (.if_icmp .ge 165, 3) := by decide +kernel
theorem dXM_isSix_57 : decode cXM_isSix 57 = .ok (.iconst 0, 1) := by decide +kernel
theorem dXM_isSix_58 : decode cXM_isSix 58 = .ok (.istore_n 2, 1) := by decide +kernel
theorem dXM_isSix_59 : decode cXM_isSix 59 = .ok (.iconst 0, 1) := by decide +kernel
theorem dXM_isSix_60 : decode cXM_isSix 60 = .ok (.istore_n 3, 1) := by decide +kernel
theorem dXM_isSix_61 : decode cXM_isSix 61 = .ok (.iload_n 1, 1) := by decide +kernel
theorem dXM_isSix_62 : decode cXM_isSix 62 = .ok (.aload_n 0, 1) := by decide +kernel
theorem dXM_isSix_63 : decode cXM_isSix 63 = .ok (.getfield 28, 3) := by decide +kernel
theorem dXM_isSix_66 : decode cXM_isSix 66 = .ok (.if_icmp .ge 44, 3) := by decide +kernel
theorem dXM_isSix_69 : decode cXM_isSix 69 = .ok (.iload_n 3, 1) := by decide +kernel
theorem dXM_isSix_70 : decode cXM_isSix 70 = .ok (.iconst 4, 1) := by decide +kernel
theorem dXM_isSix_71 : decode cXM_isSix 71 = .ok (.if_icmp .ge 39, 3) := by decide +kernel
theorem dXM_isSix_74 : decode cXM_isSix 74 = .ok (.aload_n 0, 1) := by decide +kernel
theorem dXM_isSix_75 : decode cXM_isSix 75 = .ok (.getfield 7, 3) := by decide +kernel
theorem dXM_isSix_78 : decode cXM_isSix 78 = .ok (.iload_n 1, 1) := by decide +kernel
theorem dXM_isSix_79 : decode cXM_isSix 79 = .ok (.iaload, 1) := by decide +kernel
theorem dXM_isSix_80 : decode cXM_isSix 80 = .ok (.invokestatic 50, 3) := by decide +kernel
theorem dXM_isSix_83 : decode cXM_isSix 83 = .ok (.ifCond .lt 27, 3) := by decide +kernel
theorem dXM_isSix_86 : decode cXM_isSix 86 = .ok (.bipush 16, 2) := by decide +kernel
theorem dXM_isSix_88 : decode cXM_isSix 88 = .ok (.iload_n 2, 1) := by decide +kernel
theorem dXM_isSix_89 : decode cXM_isSix 89 = .ok (.imul, 1) := by decide +kernel
theorem dXM_isSix_90 : decode cXM_isSix 90 = .ok (.aload_n 0, 1) := by decide +kernel
theorem dXM_isSix_91 : decode cXM_isSix 91 = .ok (.getfield 7, 3) := by decide +kernel
theorem dXM_isSix_94 : decode cXM_isSix 94 = .ok (.iload_n 1, 1) := by decide +kernel
theorem dXM_isSix_95 : decode cXM_isSix 95 = .ok (.iaload, 1) := by decide +kernel
theorem dXM_isSix_96 : decode cXM_isSix 96 = .ok (.invokestatic 50, 3) := by decide +kernel
theorem dXM_isSix_99 : decode cXM_isSix 99 = .ok (.iadd, 1) := by decide +kernel
theorem dXM_isSix_100 : decode cXM_isSix 100 = .ok (.istore_n 2, 1) := by decide +kernel
theorem dXM_isSix_101 : decode cXM_isSix 101 = .ok (.iinc 3 1, 3) := by decide +kernel
theorem dXM_isSix_104 : decode cXM_isSix 104 = .ok (.iinc 1 1, 3) := by decide +kernel
theorem dXM_isSix_107 : decode cXM_isSix 107 = .ok (.goto (-46), 3) := by decide +kernel
theorem dXM_isSix_110 : decode cXM_isSix 110 = .ok (.iload_n 3, 1) := by decide +kernel
theorem dXM_isSix_111 : decode cXM_isSix 111 = .ok (.ifCond .eq 12, 3) := by decide +kernel
theorem dXM_isSix_114 : decode cXM_isSix 114 = .ok (.aload_n 0, 1) := by decide +kernel
theorem dXM_isSix_115 : decode cXM_isSix 115 = .ok (.getfield 40, 3) := by decide +kernel
theorem dXM_isSix_118 : decode cXM_isSix 118 = .ok (.bipush 8, 2) := by decide +kernel
theorem dXM_isSix_120 : decode cXM_isSix 120 = .ok (.if_icmp .ne 5, 3) := by decide +kernel
theorem dXM_isSix_123 : decode cXM_isSix 123 = .ok (.iconst 0, 1) := by decide +kernel
theorem dXM_isSix_124 : decode cXM_isSix 124 = .ok (.ireturn, 1) := by decide +kernel
theorem dXM_isSix_125 : decode cXM_isSix 125 = .ok (.aload_n 0, 1) := by decide +kernel
theorem dXM_isSix_126 : decode cXM_isSix 126 = .ok (.getfield 22, 3) := by decide +kernel
theorem dXM_isSix_129 : decode cXM_isSix 129 = .ok (.aload_n 0, 1) := by decide +kernel
theorem dXM_isSix_130 : decode cXM_isSix 130 = .ok (.getfield 40, 3) := by decide +kernel
theorem dXM_isSix_133 : decode cXM_isSix 133 = .ok (.iload_n 2, 1) := by decide +kernel
theorem dXM_isSix_134 : decode cXM_isSix 134 = .ok (.iastore, 1) := by decide +kernel
theorem dXM_isSix_135 : decode cXM_isSix 135 = .ok (.aload_n 0, 1) := by decide +kernel
theorem dXM_isSix_136 : decode cXM_isSix 136 = .ok (.dup, 1) := by decide +kernel
theorem dXM_isSix_137 : decode cXM_isSix 137 = .ok (.getfield 40, 3) := by decide +kernel
theorem dXM_isSix_140 : decode cXM_isSix 140 = .ok (.iconst 1, 1) := by decide +kernel
theorem dXM_isSix_141 : decode cXM_isSix 141 = .ok (.iadd, 1) := by decide +kernel
theorem dXM_isSix_142 : decode cXM_isSix 142 = .ok (.putfield 40, 3) := by decide +kernel
theorem dXM_isSix_145 : decode cXM_isSix 145 = .ok (.iload_n 1, 1) := by decide +kernel
theorem dXM_isSix_146 : decode cXM_isSix 146 = .ok (.aload_n 0, 1) := by decide +kernel
theorem dXM_isSix_147 : decode cXM_isSix 147 = .ok (.getfield 28, 3) := by decide +kernel
theorem dXM_isSix_150 : decode cXM_isSix 150 = .ok (.if_icmp .ne 6, 3) := by decide +kernel
theorem dXM_isSix_153 : decode cXM_isSix 153 = .ok (.goto 66, 3) := by decide +kernel
theorem dXM_isSix_156 : decode cXM_isSix 156 = .ok (.aload_n 0, 1) := by decide +kernel
theorem dXM_isSix_157 : decode cXM_isSix 157 = .ok (.getfield 7, 3) := by decide +kernel
theorem dXM_isSix_160 : decode cXM_isSix 160 = .ok (.iload_n 1, 1) := by decide +kernel
theorem dXM_isSix_161 : decode cXM_isSix 161 = .ok (.iaload, 1) := by decide +kernel
theorem dXM_isSix_162 : decode cXM_isSix 162 = .ok (.bipush 58, 2) := by decide +kernel
theorem dXM_isSix_164 : decode cXM_isSix 164 = .ok (.if_icmp .ne 13, 3) := by decide +kernel
theorem dXM_isSix_167 : decode cXM_isSix 167 = .ok (.iload_n 1, 1) := by decide +kernel
theorem dXM_isSix_168 : decode cXM_isSix 168 = .ok (.iconst 1, 1) := by decide +kernel
theorem dXM_isSix_169 : decode cXM_isSix 169 = .ok (.iadd, 1) := by decide +kernel
theorem dXM_isSix_170 : decode cXM_isSix 170 = .ok (.aload_n 0, 1) := by decide +kernel
theorem dXM_isSix_171 : decode cXM_isSix 171 = .ok (.getfield 28, 3) := by decide +kernel
theorem dXM_isSix_174 : decode cXM_isSix 174 = .ok (.if_icmp .ne 5, 3) := by decide +kernel
theorem dXM_isSix_177 : decode cXM_isSix 177 = .ok (.iconst 0, 1) := by decide +kernel
theorem dXM_isSix_178 : decode cXM_isSix 178 = .ok (.ireturn, 1) := by decide +kernel
theorem dXM_isSix_179 : decode cXM_isSix 179 = .ok (.iinc 1 1, 3) := by decide +kernel
theorem dXM_isSix_182 : decode cXM_isSix 182 = .ok (.aload_n 0, 1) := by decide +kernel
theorem dXM_isSix_183 : decode cXM_isSix 183 = .ok (.getfield 7, 3) := by decide +kernel
theorem dXM_isSix_186 : decode cXM_isSix 186 = .ok (.iload_n 1, 1) := by decide +kernel
theorem dXM_isSix_187 : decode cXM_isSix 187 = .ok (.iaload, 1) := by decide +kernel
theorem dXM_isSix_188 : decode cXM_isSix 188 = .ok (.bipush 58, 2) := by decide +kernel
theorem dXM_isSix_190 : decode cXM_isSix 190 = .ok (.if_icmp .eq 6, 3) := by decide +kernel
theorem dXM_isSix_193 : decode cXM_isSix 193 = .ok (.goto (-144), 3) := by decide +kernel
theorem dXM_isSix_196 : decode cXM_isSix 196 = .ok (.aload_n 0, 1) := by decide +kernel
theorem dXM_isSix_197 : decode cXM_isSix 197 = .ok (.getfield 47, 3) := by decide +kernel
theorem dXM_isSix_200 : decode cXM_isSix 200 = .ok (.ifCond .lt 5, 3) := by decide +kernel
theorem dXM_isSix_203 : decode cXM_isSix 203 = .ok (.iconst 0, 1) := by decide +kernel
theorem dXM_isSix_204 : decode cXM_isSix 204 = .ok (.ireturn, 1) := by decide +kernel
theorem dXM_isSix_205 : decode cXM_isSix 205 = .ok (.aload_n 0, 1) := by decide +kernel
theorem dXM_isSix_206 : decode cXM_isSix 206 = .ok (.aload_n 0, 1) := by decide +kernel
theorem dXM_isSix_207 : decode cXM_isSix 207 = .ok (.getfield 40, 3) := by decide +kernel
theorem dXM_isSix_210 : decode cXM_isSix 210 = .ok (.putfield 47, 3) := by decide +kernel
theorem dXM_isSix_213 : decode cXM_isSix 213 = .ok (.iinc 1 1, 3) := by decide +kernel
theorem dXM_isSix_216 : decode cXM_isSix 216 = .ok (.goto (-167), 3) := by decide +kernel
theorem dXM_isSix_219 : decode cXM_isSix 219 = .ok (.aload_n 0, 1) := by decide +kernel
theorem dXM_isSix_220 : decode cXM_isSix 220 = .ok (.getfield 47, 3) := by decide +kernel
theorem dXM_isSix_223 : decode cXM_isSix 223 = .ok (.ifCond .ge 20, 3) := by decide +kernel
theorem dXM_isSix_226 : decode cXM_isSix 226 = .ok (.aload_n 0, 1) := by decide +kernel
theorem dXM_isSix_227 : decode cXM_isSix 227 = .ok (.getfield 40, 3) := by decide +kernel
theorem dXM_isSix_230 : decode cXM_isSix 230 = .ok (.bipush 8, 2) := by decide +kernel
theorem dXM_isSix_232 : decode cXM_isSix 232 = .ok (.if_icmp .ne 7, 3) := by decide +kernel
theorem dXM_isSix_235 : decode cXM_isSix 235 = .ok (.iconst 1, 1) := by decide +kernel
theorem dXM_isSix_236 : decode cXM_isSix 236 = .ok (.goto 21, 3) := by decide +kernel
theorem dXM_isSix_239 : decode cXM_isSix 239 = .ok (.iconst 0, 1) := by decide +kernel
theorem dXM_isSix_240 : decode cXM_isSix 240 = .ok (.goto 17, 3) := by decide +kernel
theorem dXM_isSix_243 : decode cXM_isSix 243 = .ok (.aload_n 0, 1) := by decide +kernel
theorem dXM_isSix_244 : decode cXM_isSix 244 = .ok (.getfield 40, 3) := by decide +kernel
theorem dXM_isSix_247 : decode cXM_isSix 247 = .ok (.bipush 8, 2) := by decide +kernel
theorem dXM_isSix_249 : decode cXM_isSix 249 = .ok (.if_icmp .ge 7, 3) := by decide +kernel
theorem dXM_isSix_252 : decode cXM_isSix 252 = .ok (.iconst 1, 1) := by decide +kernel
theorem dXM_isSix_253 : decode cXM_isSix 253 = .ok (.goto 4, 3) := by decide +kernel
theorem dXM_isSix_256 : decode cXM_isSix 256 = .ok (.iconst 0, 1) := by decide +kernel
theorem dXM_isSix_257 : decode cXM_isSix 257 = .ok (.ireturn, 1) := by decide +kernel
theorem dXM_read_0 : decode cXM_read 0 = .ok (.iconst 0, 1) := by decide +kernel
theorem dXM_read_1 : decode cXM_read 1 = .ok (.istore_n 1, 1) := by decide +kernel
theorem dXM_read_2 : decode cXM_read 2 = .ok (.iconst 0, 1) := by decide +kernel
theorem dXM_read_3 : decode cXM_read 3 = .ok (.istore_n 2, 1) := by decide +kernel
theorem dXM_read_4 : decode cXM_read 4 = .ok (.iload_n 2, 1) := by decide +kernel
theorem dXM_read_5 : decode cXM_read 5 = .ok (.aload_n 0, 1) := by decide +kernel
theorem dXM_read_6 : decode cXM_read 6 = .ok (.getfield 28, 3) := by decide +kernel
theorem dXM_read_9 : decode cXM_read 9 = .ok (.if_icmp .ge 30, 3) := by decide +kernel
theorem dXM_read_12 : decode cXM_read 12 = .ok (.iload_n 1, 1) := by decide +kernel
theorem dXM_read_13 : decode cXM_read 13 = .ok (.ifCond .ne 14, 3) := by decide +kernel
theorem dXM_read_16 : decode cXM_read 16 = .ok (.aload_n 0, 1) := by decide +kernel
theorem dXM_read_17 : decode cXM_read 17 = .ok (.getfield 7, 3) := by decide +kernel
theorem dXM_read_20 : decode cXM_read 20 = .ok (.iload_n 2, 1) := by decide +kernel
theorem dXM_read_21 : decode cXM_read 21 = .ok (.iaload, 1) := by decide +kernel
theorem dXM_read_22 : decode cXM_read 22 = .ok (.bipush 58, 2) := by decide +kernel
theorem dXM_read_24 : decode cXM_read 24 = .ok (.if_icmp .ne 7, 3) := by decide +kernel
theorem dXM_read_27 : decode cXM_read 27 = .ok (.iconst 1, 1) := by decide +kernel
theorem dXM_read_28 : decode cXM_read 28 = .ok (.goto 4, 3) := by decide +kernel
theorem dXM_read_31 : decode cXM_read 31 = .ok (.iconst 0, 1) := by decide +kernel
theorem dXM_read_32 : decode cXM_read 32 = .ok (.istore_n 1, 1) := by decide +kernel
theorem dXM_read_33 : decode cXM_read 33 = .ok (.iinc 2 1, 3) := by decide +kernel
theorem dXM_read_36 : decode cXM_read 36 = .ok (.goto (-32), 3) := by decide +kernel
theorem dXM_read_39 : decode cXM_read 39 = .ok (.iload_n 1, 1) := by decide +kernel
theorem dXM_read_40 : decode cXM_read 40 = .ok (.ifCond .eq 10, 3) := by decide +kernel
theorem dXM_read_43 : decode cXM_read 43 = .ok (.aload_n 0, 1) := by decide +kernel
theorem dXM_read_44 : decode cXM_read 44 = .ok (.invokevirtual 54, 3) := by decide +kernel
theorem dXM_read_47 : decode cXM_read 47 = .ok (.goto 7, 3) := by decide +kernel
theorem dXM_read_50 : decode cXM_read 50 = .ok (.aload_n 0, 1) := by decide +kernel
theorem dXM_read_51 : decode cXM_read 51 = .ok (.invokevirtual 58, 3) := by decide +kernel
theorem dXM_read_54 : decode cXM_read 54 = .ok (.istore_n 2, 1) := by decide +kernel
theorem dXM_read_55 : decode cXM_read 55 = .ok (.aload_n 0, 1) := by decide +kernel
theorem dXM_read_56 : decode cXM_read 56 = .ok (.iconst 0, 1) := by decide +kernel
theorem dXM_read_57 : decode cXM_read 57 = .ok (.putfield 28, 3) := by decide +kernel
theorem dXM_read_60 : decode cXM_read 60 = .ok (.iload_n 2, 1) := by decide +kernel
theorem dXM_read_61 : decode cXM_read 61 = .ok (.ifCond .ne 5, 3) := by decide +kernel
theorem dXM_read_64 : decode cXM_read 64 = .ok (.iconst (-1), 1) := by decide +kernel
theorem dXM_read_65 : decode cXM_read 65 = .ok (.ireturn, 1) := by decide +kernel
theorem dXM_read_66 : decode cXM_read 66 = .ok (.iconst 0, 1) := by decide +kernel
theorem dXM_read_67 : decode cXM_read 67 = .ok (.istore_n 3, 1) := by decide +kernel
theorem dXM_read_68 : decode cXM_read 68 = .ok (.iload_n 3, 1) := by decide +kernel
theorem dXM_read_69 : decode cXM_read 69 = .ok (.bipush 16, 2) := by decide +kernel
theorem dXM_read_71 : decode cXM_read 71 = .ok (.if_icmp .ge 31, 3) := by decide +kernel
theorem dXM_read_74 : decode cXM_read 74 = .ok (.aload_n 0, 1) := by decide +kernel
theorem dXM_read_75 : decode cXM_read 75 = .ok (.getfield 13, 3) := by decide +kernel
theorem dXM_read_78 : decode cXM_read 78 = .ok (.bipush 16, 2) := by decide +kernel
theorem dXM_read_80 : decode cXM_read 80 = .ok (.iload_n 3, 1) := by decide +kernel
theorem dXM_read_81 : decode cXM_read 81 = .ok (.iadd, 1) := by decide +kernel
theorem dXM_read_82 : decode cXM_read 82 = .ok (.aload_n 0, 1) := by decide +kernel
theorem dXM_read_83 : decode cXM_read 83 = .ok (.getfield 13, 3) := by decide +kernel
theorem dXM_read_86 : decode cXM_read 86 = .ok (.iload_n 3, 1) := by decide +kernel
theorem dXM_read_87 : decode cXM_read 87 = .ok (.iaload, 1) := by decide +kernel
theorem dXM_read_88 : decode cXM_read 88 = .ok (.iastore, 1) := by decide +kernel
theorem dXM_read_89 : decode cXM_read 89 = .ok (.aload_n 0, 1) := by decide +kernel
theorem dXM_read_90 : decode cXM_read 90 = .ok (.getfield 13, 3) := by decide +kernel
theorem dXM_read_93 : decode cXM_read 93 = .ok (.iload_n 3, 1) := by decide +kernel
theorem dXM_read_94 : decode cXM_read 94 = .ok (.iconst 0, 1) := by decide +kernel
theorem dXM_read_95 : decode cXM_read 95 = .ok (.iastore, 1) := by decide +kernel
theorem dXM_read_96 : decode cXM_read 96 = .ok (.iinc 3 1, 3) := by decide +kernel
theorem dXM_read_99 : decode cXM_read 99 = .ok (.goto (-31), 3) := by decide +kernel
theorem dXM_read_102 : decode cXM_read 102 = .ok (.aload_n 0, 1) := by decide +kernel
theorem dXM_read_103 : decode cXM_read 103 = .ok (.getfield 16, 3) := by decide +kernel
theorem dXM_read_106 : decode cXM_read 106 = .ok (.iconst 1, 1) := by decide +kernel
theorem dXM_read_107 : decode cXM_read 107 = .ok (.aload_n 0, 1) := by decide +kernel
theorem dXM_read_108 : decode cXM_read 108 = .ok (.getfield 16, 3) := by decide +kernel
theorem dXM_read_111 : decode cXM_read 111 = .ok (.iconst 0, 1) := by decide +kernel
theorem dXM_read_112 : decode cXM_read 112 = .ok (.iaload, 1) := by decide +kernel
theorem dXM_read_113 : decode cXM_read 113 = .ok (.iastore, 1) := by decide +kernel
theorem dXM_read_114 : decode cXM_read 114 = .ok (.aload_n 0, 1) := by decide +kernel
theorem dXM_read_115 : decode cXM_read 115 = .ok (.getfield 19, 3) := by decide +kernel
theorem dXM_read_118 : decode cXM_read 118 = .ok (.iconst 1, 1) := by decide +kernel
theorem dXM_read_119 : decode cXM_read 119 = .ok (.aload_n 0, 1) := by decide +kernel
theorem dXM_read_120 : decode cXM_read 120 = .ok (.getfield 19, 3) := by decide +kernel
theorem dXM_read_123 : decode cXM_read 123 = .ok (.iconst 0, 1) := by decide +kernel
theorem dXM_read_124 : decode cXM_read 124 = .ok (.iaload, 1) := by decide +kernel
theorem dXM_read_125 : decode cXM_read 125 = .ok (.iastore, 1) := by decide +kernel
theorem dXM_read_126 : decode cXM_read 126 = .ok (.aload_n 0, 1) := by decide +kernel
theorem dXM_read_127 : decode cXM_read 127 = .ok (.getfield 16, 3) := by decide +kernel
theorem dXM_read_130 : decode cXM_read 130 = .ok (.iconst 0, 1) := by decide +kernel
theorem dXM_read_131 : decode cXM_read 131 = .ok (.iload_n 1, 1) := by decide +kernel
theorem dXM_read_132 : decode cXM_read 132 = .ok (.ifCond .eq 8, 3) := by decide +kernel
theorem dXM_read_135 : decode cXM_read 135 = .ok (.bipush 6, 2) := by decide +kernel
theorem dXM_read_137 : decode cXM_read 137 = .ok (.goto 4, 3) := by decide +kernel
theorem dXM_read_140 : decode cXM_read 140 = .ok (.iconst 4, 1) := by decide +kernel
theorem dXM_read_141 : decode cXM_read 141 = .ok (.iastore, 1) := by decide +kernel
theorem dXM_read_142 : decode cXM_read 142 = .ok (.aload_n 0, 1) := by decide +kernel
theorem dXM_read_143 : decode cXM_read 143 = .ok (.getfield 19, 3) := by decide +kernel
theorem dXM_read_146 : decode cXM_read 146 = .ok (.iconst 0, 1) := by decide +kernel
theorem dXM_read_147 : decode cXM_read 147 = .ok (.iload_n 1, 1) := by decide +kernel
theorem dXM_read_148 : decode cXM_read 148 = .ok (.ifCond .eq 9, 3) := by decide +kernel
theorem dXM_read_151 : decode cXM_read 151 = .ok (.sipush 128, 3) := by decide +kernel
theorem dXM_read_154 : decode cXM_read 154 = .ok (.goto 5, 3) := by decide +kernel
theorem dXM_read_157 : decode cXM_read 157 = .ok (.bipush 32, 2) := by decide +kernel
theorem dXM_read_159 : decode cXM_read 159 = .ok (.iastore, 1) := by decide +kernel
theorem dXM_read_160 : decode cXM_read 160 = .ok (.iconst 0, 1) := by decide +kernel
theorem dXM_read_161 : decode cXM_read 161 = .ok (.istore_n 3, 1) := by decide +kernel
theorem dXM_read_162 : decode cXM_read 162 = .ok (.iload_n 3, 1) := by decide +kernel
theorem dXM_read_163 : decode cXM_read 163 = .ok (.aload_n 0, 1) := by decide +kernel
theorem dXM_read_164 : decode cXM_read 164 = .ok (.getfield 40, 3) := by decide +kernel
theorem dXM_read_167 : decode cXM_read 167 = .ok (.if_icmp .ge 100, 3) := by decide +kernel
theorem dXM_read_170 : decode cXM_read 170 = .ok (.iload_n 1, 1) := by decide +kernel
theorem dXM_read_171 : decode cXM_read 171 = .ok (.ifCond .ne 21, 3) := by decide +kernel
theorem dXM_read_174 : decode cXM_read 174 = .ok (.aload_n 0, 1) := by decide +kernel
theorem dXM_read_175 : decode cXM_read 175 = .ok (.getfield 13, 3) := by decide +kernel
theorem dXM_read_178 : decode cXM_read 178 = .ok (.bipush 12, 2) := by decide +kernel
theorem dXM_read_180 : decode cXM_read 180 = .ok (.iload_n 3, 1) := by decide +kernel
theorem dXM_read_181 : decode cXM_read 181 = .ok (.iadd, 1) := by decide +kernel
theorem dXM_read_182 : decode cXM_read 182 = .ok (.aload_n 0, 1) := by decide +kernel
theorem dXM_read_183 : decode cXM_read 183 = .ok (.getfield 22, 3) := by decide +kernel
theorem dXM_read_186 : decode cXM_read 186 = .ok (.iload_n 3, 1) := by decide +kernel
theorem dXM_read_187 : decode cXM_read 187 = .ok (.iaload, 1) := by decide +kernel
theorem dXM_read_188 : decode cXM_read 188 = .ok (.iastore, 1) := by decide +kernel
theorem dXM_read_189 : decode cXM_read 189 = .ok (.goto 72, 3) := by decide +kernel
theorem dXM_read_192 : decode cXM_read 192 = .ok (.aload_n 0, 1) := by decide +kernel
theorem dXM_read_193 : decode cXM_read 193 = .ok (.getfield 47, 3) := by decide +kernel
theorem dXM_read_196 : decode cXM_read 196 = .ok (.ifCond .lt 23, 3) := by decide +kernel
theorem dXM_read_199 : decode cXM_read 199 = .ok (.iload_n 3, 1) := by decide +kernel
theorem dXM_read_200 : decode cXM_read 200 = .ok (.aload_n 0, 1) := by decide +kernel
theorem dXM_read_201 : decode cXM_read 201 = .ok (.getfield 47, 3) := by decide +kernel
theorem dXM_read_204 : decode cXM_read 204 = .ok (.if_icmp .lt 15, 3) := by decide +kernel
theorem dXM_read_207 : decode cXM_read 207 = .ok (.bipush 8, 2) := by decide +kernel
theorem dXM_read_209 : decode cXM_read 209 = .ok (.aload_n 0, 1) := by decide +kernel
theorem dXM_read_210 : decode cXM_read 210 = .ok (.getfield 40, 3) := by decide +kernel
theorem dXM_read_213 : decode cXM_read 213 = .ok (.isub, 1) := by decide +kernel
theorem dXM_read_214 : decode cXM_read 214 = .ok (.iload_n 3, 1) := by decide +kernel
theorem dXM_read_215 : decode cXM_read 215 = .ok (.iadd, 1) := by decide +kernel
theorem dXM_read_216 : decode cXM_read 216 = .ok (.goto 4, 3) := by decide +kernel
theorem dXM_read_219 : decode cXM_read 219 = .ok (.iload_n 3, 1) := by decide +kernel
theorem dXM_read_220 : decode cXM_read 220 = .ok (.istore 4, 2) := by decide +kernel
theorem dXM_read_222 : decode cXM_read 222 = .ok (.aload_n 0, 1) := by decide +kernel
theorem dXM_read_223 : decode cXM_read 223 = .ok (.getfield 13, 3) := by decide +kernel
theorem dXM_read_226 : decode cXM_read 226 = .ok (.iconst 2, 1) := by decide +kernel
theorem dXM_read_227 : decode cXM_read 227 = .ok (.iload 4, 2) := by decide +kernel
theorem dXM_read_229 : decode cXM_read 229 = .ok (.imul, 1) := by decide +kernel
theorem dXM_read_230 : decode cXM_read 230 = .ok (.aload_n 0, 1) := by decide +kernel
theorem dXM_read_231 : decode cXM_read 231 = .ok (.getfield 22, 3) := by decide +kernel
theorem dXM_read_234 : decode cXM_read 234 = .ok (.iload_n 3, 1) := by decide +kernel
theorem dXM_read_235 : decode cXM_read 235 = .ok (.iaload, 1) := by decide +kernel
theorem dXM_read_236 : decode cXM_read 236 = .ok (.bipush 8, 2) := by decide +kernel
theorem dXM_read_238 : decode cXM_read 238 = .ok (.ishr, 1) := by decide +kernel
theorem dXM_read_239 : decode cXM_read 239 = .ok (.iastore, 1) := by decide +kernel
theorem dXM_read_240 : decode cXM_read 240 = .ok (.aload_n 0, 1) := by decide +kernel
theorem dXM_read_241 : decode cXM_read 241 = .ok (.getfield 13, 3) := by decide +kernel
theorem dXM_read_244 : decode cXM_read 244 = .ok (.iconst 2, 1) := by decide +kernel
theorem dXM_read_245 : decode cXM_read 245 = .ok (.iload 4, 2) := by decide +kernel
theorem dXM_read_247 : decode cXM_read 247 = .ok (.imul, 1) := by decide +kernel
theorem dXM_read_248 : decode cXM_read 248 = .ok (.iconst 1, 1) := by decide +kernel
theorem dXM_read_249 : decode cXM_read 249 = .ok (.iadd, 1) := by decide +kernel
theorem dXM_read_250 : decode cXM_read 250 = .ok (.aload_n 0, 1) := by decide +kernel
theorem dXM_read_251 : decode cXM_read 251 = .ok (.getfield 22, 3) := by decide +kernel
theorem dXM_read_254 : decode cXM_read 254 = .ok (.iload_n 3, 1) := by decide +kernel
theorem dXM_read_255 : decode cXM_read 255 = .ok (.iaload, 1) := by decide +kernel
theorem dXM_read_256 : decode cXM_read 256 = .ok (.sipush 255, 3) := by decide +kernel
theorem dXM_read_259 : decode cXM_read 259 = .ok (.iand, 1) := by decide +kernel
theorem dXM_read_260 : decode cXM_read 260 = .ok (.iastore, 1) := by decide +kernel
theorem dXM_read_261 : decode cXM_read 261 = .ok (.iinc 3 1, 3) := by decide +kernel
theorem dXM_read_264 : decode cXM_read 264 = .ok (.goto (-102), 3) := by decide +kernel
theorem dXM_read_267 : decode cXM_read 267 = .ok (.aload_n 0, 1) := by decide +kernel
theorem dXM_read_268 : decode cXM_read 268 = .ok (.getfield 16, 3) := by decide +kernel
theorem dXM_read_271 : decode cXM_read 271 = .ok (.iconst 0, 1) := by decide +kernel
theorem dXM_read_272 : decode cXM_read 272 = .ok (.iaload, 1) := by decide +kernel
theorem dXM_read_273 : decode cXM_read 273 = .ok (.ireturn, 1) := by decide +kernel
theorem dXM_length_0 : decode cXM_length 0 = .ok (.aload_n 0, 1) := by decide +kernel
theorem dXM_length_1 : decode cXM_length 1 = .ok (.iconst 0, 1) := by decide +kernel
theorem dXM_length_2 : decode cXM_length 2 = .ok (.aload_n 0, 1) := by decide +kernel
theorem dXM_length_3 : decode cXM_length 3 = .ok (.getfield 28, 3) := by decide +kernel
theorem dXM_length_6 : decode cXM_length 6 = .ok (.aload_n 0, 1) := by decide +kernel
theorem dXM_length_7 : decode cXM_length 7 = .ok (.getfield 16, 3) := by decide +kernel
theorem dXM_length_10 : decode cXM_length 10 = .ok (.iconst 0, 1) := by decide +kernel
theorem dXM_length_11 : decode cXM_length 11 = .ok (.iaload, 1) := by decide +kernel
theorem dXM_length_12 : decode cXM_length 12 = .ok (.iconst 4, 1) := by decide +kernel
theorem dXM_length_13 : decode cXM_length 13 = .ok (.if_icmp .ne 8, 3) := by decide +kernel
theorem dXM_length_16 : decode cXM_length 16 = .ok (.bipush 32, 2) := by decide +kernel
theorem dXM_length_18 : decode cXM_length 18 = .ok (.goto 6, 3) := by decide +kernel
theorem dXM_length_21 : decode cXM_length 21 = .ok (.sipush 128, 3) := by decide +kernel
theorem dXM_length_24 : decode cXM_length 24 = .ok (.invokevirtual 43, 3) := by decide +kernel
theorem dXM_length_27 : decode cXM_length 27 = .ok (.istore_n 1, 1) := by decide +kernel
theorem dXM_length_28 : decode cXM_length 28 = .ok (.aload_n 0, 1) := by decide +kernel
theorem dXM_length_29 : decode cXM_length 29 = .ok (.iconst 0, 1) := by decide +kernel
theorem dXM_length_30 : decode cXM_length 30 = .ok (.putfield 28, 3) := by decide +kernel
theorem dXM_length_33 : decode cXM_length 33 = .ok (.iload_n 1, 1) := by decide +kernel
theorem dXM_length_34 : decode cXM_length 34 = .ok (.ifCond .lt 10, 3) := by decide +kernel
theorem dXM_length_37 : decode cXM_length 37 = .ok (.aload_n 0, 1) := by decide +kernel
theorem dXM_length_38 : decode cXM_length 38 = .ok (.getfield 19, 3) := by decide +kernel
theorem dXM_length_41 : decode cXM_length 41 = .ok (.iconst 0, 1) := by decide +kernel
theorem dXM_length_42 : decode cXM_length 42 = .ok (.iload_n 1, 1) := by decide +kernel
theorem dXM_length_43 : decode cXM_length 43 = .ok (.iastore, 1) := by decide +kernel
theorem dXM_length_44 : decode cXM_length 44 = .ok (.iload_n 1, 1) := by decide +kernel
theorem dXM_length_45 : decode cXM_length 45 = .ok (.ireturn, 1) := by decide +kernel
theorem dXM_bit_0 : decode cXM_bit 0 = .ok (.aload_n 0, 1) := by decide +kernel
theorem dXM_bit_1 : decode cXM_bit 1 = .ok (.getfield 16, 3) := by decide +kernel
theorem dXM_bit_4 : decode cXM_bit 4 = .ok (.iload_n 1, 1) := by decide +kernel
theorem dXM_bit_5 : decode cXM_bit 5 = .ok (.iaload, 1) := by decide +kernel
theorem dXM_bit_6 : decode cXM_bit 6 = .ok (.iconst 4, 1) := by decide +kernel
theorem dXM_bit_7 : decode cXM_bit 7 = .ok (.if_icmp .ne 10, 3) := by decide +kernel
theorem dXM_bit_10 : decode cXM_bit 10 = .ok (.bipush 96, 2) := by decide +kernel
theorem dXM_bit_12 : decode cXM_bit 12 = .ok (.iload_n 2, 1) := by decide +kernel
theorem dXM_bit_13 : decode cXM_bit 13 = .ok (.iadd, 1) := by decide +kernel
theorem dXM_bit_14 : decode cXM_bit 14 = .ok (.goto 4, 3) := by decide +kernel
theorem dXM_bit_17 : decode cXM_bit 17 = .ok (.iload_n 2, 1) := by decide +kernel
theorem dXM_bit_18 : decode cXM_bit 18 = .ok (.istore_n 3, 1) := by decide +kernel
theorem dXM_bit_19 : decode cXM_bit 19 = .ok (.aload_n 0, 1) := by decide +kernel
theorem dXM_bit_20 : decode cXM_bit 20 = .ok (.getfield 13, 3) := by decide +kernel
theorem dXM_bit_23 : decode cXM_bit 23 = .ok (.bipush 16, 2) := by decide +kernel
theorem dXM_bit_25 : decode cXM_bit 25 = .ok (.iload_n 1, 1) := by decide +kernel
theorem dXM_bit_26 : decode cXM_bit 26 = .ok (.imul, 1) := by decide +kernel
theorem dXM_bit_27 : decode cXM_bit 27 = .ok (.iload_n 3, 1) := by decide +kernel
theorem dXM_bit_28 : decode cXM_bit 28 = .ok (.bipush 8, 2) := by decide +kernel
theorem dXM_bit_30 : decode cXM_bit 30 = .ok (.idiv, 1) := by decide +kernel
theorem dXM_bit_31 : decode cXM_bit 31 = .ok (.iadd, 1) := by decide +kernel
theorem dXM_bit_32 : decode cXM_bit 32 = .ok (.iaload, 1) := by decide +kernel
theorem dXM_bit_33 : decode cXM_bit 33 = .ok (.bipush 7, 2) := by decide +kernel
theorem dXM_bit_35 : decode cXM_bit 35 = .ok (.iload_n 3, 1) := by decide +kernel
theorem dXM_bit_36 : decode cXM_bit 36 = .ok (.bipush 8, 2) := by decide +kernel
theorem dXM_bit_38 : decode cXM_bit 38 = .ok (.irem, 1) := by decide +kernel
theorem dXM_bit_39 : decode cXM_bit 39 = .ok (.isub, 1) := by decide +kernel
theorem dXM_bit_40 : decode cXM_bit 40 = .ok (.ishr, 1) := by decide +kernel
theorem dXM_bit_41 : decode cXM_bit 41 = .ok (.iconst 1, 1) := by decide +kernel
theorem dXM_bit_42 : decode cXM_bit 42 = .ok (.iand, 1) := by decide +kernel
theorem dXM_bit_43 : decode cXM_bit 43 = .ok (.ireturn, 1) := by decide +kernel
theorem dXM_cut_0 : decode cXM_cut 0 = .ok (.iconst 0, 1) := by decide +kernel
theorem dXM_cut_1 : decode cXM_cut 1 = .ok (.istore_n 1, 1) := by decide +kernel
theorem dXM_cut_2 : decode cXM_cut 2 = .ok (.aload_n 0, 1) := by decide +kernel
theorem dXM_cut_3 : decode cXM_cut 3 = .ok (.getfield 16, 3) := by decide +kernel
theorem dXM_cut_6 : decode cXM_cut 6 = .ok (.iconst 0, 1) := by decide +kernel
theorem dXM_cut_7 : decode cXM_cut 7 = .ok (.iaload, 1) := by decide +kernel
theorem dXM_cut_8 : decode cXM_cut 8 = .ok (.iconst 4, 1) := by decide +kernel
theorem dXM_cut_9 : decode cXM_cut 9 = .ok (.if_icmp .ne 8, 3) := by decide +kernel
theorem dXM_cut_12 : decode cXM_cut 12 = .ok (.bipush 32, 2) := by decide +kernel
theorem dXM_cut_14 : decode cXM_cut 14 = .ok (.goto 6, 3) := by decide +kernel
theorem dXM_cut_17 : decode cXM_cut 17 = .ok (.sipush 128, 3) := by decide +kernel
theorem dXM_cut_20 : decode cXM_cut 20 = .ok (.istore_n 2, 1) := by decide +kernel
theorem dXM_cut_21 : decode cXM_cut 21 = .ok (.aload_n 0, 1) := by decide +kernel
theorem dXM_cut_22 : decode cXM_cut 22 = .ok (.getfield 19, 3) := by decide +kernel
theorem dXM_cut_25 : decode cXM_cut 25 = .ok (.iconst 0, 1) := by decide +kernel
theorem dXM_cut_26 : decode cXM_cut 26 = .ok (.iaload, 1) := by decide +kernel
theorem dXM_cut_27 : decode cXM_cut 27 = .ok (.istore_n 3, 1) := by decide +kernel
theorem dXM_cut_28 : decode cXM_cut 28 = .ok (.iload_n 3, 1) := by decide +kernel
theorem dXM_cut_29 : decode cXM_cut 29 = .ok (.iload_n 2, 1) := by decide +kernel
theorem dXM_cut_30 : decode cXM_cut 30 = .ok (.if_icmp .ge 69, 3) := by decide +kernel
theorem dXM_cut_33 : decode cXM_cut 33 = .ok (.iload_n 1, 1) := by decide +kernel
theorem dXM_cut_34 : decode cXM_cut 34 = .ok (.ifCond .ne 13, 3) := by decide +kernel
theorem dXM_cut_37 : decode cXM_cut 37 = .ok (.aload_n 0, 1) := by decide +kernel
theorem dXM_cut_38 : decode cXM_cut 38 = .ok (.iconst 0, 1) := by decide +kernel
theorem dXM_cut_39 : decode cXM_cut 39 = .ok (.iload_n 3, 1) := by decide +kernel
theorem dXM_cut_40 : decode cXM_cut 40 = .ok (.invokevirtual 61, 3) := by decide +kernel
theorem dXM_cut_43 : decode cXM_cut 43 = .ok (.iconst 1, 1) := by decide +kernel
theorem dXM_cut_44 : decode cXM_cut 44 = .ok (.if_icmp .ne 7, 3) := by decide +kernel
theorem dXM_cut_47 : decode cXM_cut 47 = .ok (.iconst 1, 1) := by decide +kernel
theorem dXM_cut_48 : decode cXM_cut 48 = .ok (.goto 4, 3) := by decide +kernel
theorem dXM_cut_51 : decode cXM_cut 51 = .ok (.iconst 0, 1) := by decide +kernel
theorem dXM_cut_52 : decode cXM_cut 52 = .ok (.istore_n 1, 1) := by decide +kernel
theorem dXM_cut_53 : decode cXM_cut 53 = .ok (.iload_n 2, 1) := by decide +kernel
theorem dXM_cut_54 : decode cXM_cut 54 = .ok (.bipush 32, 2) := by decide +kernel
theorem dXM_cut_56 : decode cXM_cut 56 = .ok (.if_icmp .ne 10, 3) := by decide +kernel
theorem dXM_cut_59 : decode cXM_cut 59 = .ok (.bipush 96, 2) := by decide +kernel
theorem dXM_cut_61 : decode cXM_cut 61 = .ok (.iload_n 3, 1) := by decide +kernel
theorem dXM_cut_62 : decode cXM_cut 62 = .ok (.iadd, 1) := by decide +kernel
theorem dXM_cut_63 : decode cXM_cut 63 = .ok (.goto 4, 3) := by decide +kernel
theorem dXM_cut_66 : decode cXM_cut 66 = .ok (.iload_n 3, 1) := by decide +kernel
theorem dXM_cut_67 : decode cXM_cut 67 = .ok (.istore 4, 2) := by decide +kernel
theorem dXM_cut_69 : decode cXM_cut 69 = .ok (.aload_n 0, 1) := by decide +kernel
theorem dXM_cut_70 : decode cXM_cut 70 = .ok (.getfield 13, 3) := by decide +kernel
theorem dXM_cut_73 : decode cXM_cut 73 = .ok (.iload 4, 2) := by decide +kernel
theorem dXM_cut_75 : decode cXM_cut 75 = .ok (.bipush 8, 2) := by decide +kernel
theorem dXM_cut_77 : decode cXM_cut 77 = .ok (.idiv, 1) := by decide +kernel
theorem dXM_cut_78 : decode cXM_cut 78 = .ok (.dup2, 1) := by decide +kernel
theorem dXM_cut_79 : decode cXM_cut 79 = .ok (.iaload, 1) := by decide +kernel
theorem dXM_cut_80 : decode cXM_cut 80 = .ok (.sipush 128, 3) := by decide +kernel
theorem dXM_cut_83 : decode cXM_cut 83 = .ok (.iload 4, 2) := by decide +kernel
theorem dXM_cut_85 : decode cXM_cut 85 = .ok (.bipush 8, 2) := by decide +kernel
theorem dXM_cut_87 : decode cXM_cut 87 = .ok (.irem, 1) := by decide +kernel
theorem dXM_cut_88 : decode cXM_cut 88 = .ok (.ishr, 1) := by decide +kernel
theorem dXM_cut_89 : decode cXM_cut 89 = .ok (.iconst (-1), 1) := by decide +kernel
theorem dXM_cut_90 : decode cXM_cut 90 = .ok (.ixor, 1) := by decide +kernel
theorem dXM_cut_91 : decode cXM_cut 91 = .ok (.iand, 1) := by decide +kernel
theorem dXM_cut_92 : decode cXM_cut 92 = .ok (.iastore, 1) := by decide +kernel
theorem dXM_cut_93 : decode cXM_cut 93 = .ok (.iinc 3 1, 3) := by decide +kernel
theorem dXM_cut_96 : decode cXM_cut 96 = .ok (.goto (-68), 3) := by decide +kernel
theorem dXM_cut_99 : decode cXM_cut 99 = .ok (.iload_n 1, 1) := by decide +kernel
theorem dXM_cut_100 : decode cXM_cut 100 = .ok (.ireturn, 1) := by decide +kernel
theorem dXM_covers_0 : decode cXM_covers 0 = .ok (.aload_n 0, 1) := by decide +kernel
theorem dXM_covers_1 : decode cXM_covers 1 = .ok (.getfield 16, 3) := by decide +kernel
theorem dXM_covers_4 : decode cXM_covers 4 = .ok (.iconst 0, 1) := by decide +kernel
theorem dXM_covers_5 : decode cXM_covers 5 = .ok (.iaload, 1) := by decide +kernel
theorem dXM_covers_6 : decode cXM_covers 6 = .ok (.aload_n 0, 1) := by decide +kernel
theorem dXM_covers_7 : decode cXM_covers 7 = .ok (.getfield 16, 3) := by decide +kernel
theorem dXM_covers_10 : decode cXM_covers 10 = .ok (.iconst 1, 1) := by decide +kernel
theorem dXM_covers_11 : decode cXM_covers 11 = .ok (.iaload, 1) := by decide +kernel
theorem dXM_covers_12 : decode cXM_covers 12 = .ok (.if_icmp .ne 22, 3) := by decide +kernel
theorem dXM_covers_15 : decode cXM_covers 15 = .ok (.aload_n 0, 1) := by decide +kernel
theorem dXM_covers_16 : decode cXM_covers 16 = .ok (.getfield 19, 3) := by decide +kernel
theorem dXM_covers_19 : decode cXM_covers 19 = .ok (.iconst 0, 1) := by decide +kernel
theorem dXM_covers_20 : decode cXM_covers 20 = .ok (.iaload, 1) := by decide +kernel
theorem dXM_covers_21 : decode cXM_covers 21 = .ok (.aload_n 0, 1) := by decide +kernel
theorem dXM_covers_22 : decode cXM_covers 22 = .ok (.getfield 19, 3) := by decide +kernel
theorem dXM_covers_25 : decode cXM_covers 25 = .ok (.iconst 1, 1) := by decide +kernel
theorem dXM_covers_26 : decode cXM_covers 26 = .ok (.iaload, 1) := by decide +kernel
theorem dXM_covers_27 : decode cXM_covers 27 = .ok (.if_icmp .gt 7, 3) := by decide +kernel
theorem dXM_covers_30 : decode cXM_covers 30 = .ok (.iconst 1, 1) := by decide +kernel
theorem dXM_covers_31 : decode cXM_covers 31 = .ok (.goto 4, 3) := by decide +kernel
theorem dXM_covers_34 : decode cXM_covers 34 = .ok (.iconst 0, 1) := by decide +kernel
theorem dXM_covers_35 : decode cXM_covers 35 = .ok (.istore_n 1, 1) := by decide +kernel
theorem dXM_covers_36 : decode cXM_covers 36 = .ok (.iconst 0, 1) := by decide +kernel
theorem dXM_covers_37 : decode cXM_covers 37 = .ok (.istore_n 2, 1) := by decide +kernel
theorem dXM_covers_38 : decode cXM_covers 38 = .ok (.iload_n 2, 1) := by decide +kernel
theorem dXM_covers_39 : decode cXM_covers 39 = .ok (.aload_n 0, 1) := by decide +kernel
theorem dXM_covers_40 : decode cXM_covers 40 = .ok (.getfield 19, 3) := by decide +kernel
theorem dXM_covers_43 : decode cXM_covers 43 = .ok (.iconst 0, 1) := by decide +kernel
theorem dXM_covers_44 : decode cXM_covers 44 = .ok (.iaload, 1) := by decide +kernel
theorem dXM_covers_45 : decode cXM_covers 45 = .ok (.if_icmp .ge 34, 3) := by decide +kernel
theorem dXM_covers_48 : decode cXM_covers 48 = .ok (.iload_n 1, 1) := by decide +kernel
theorem dXM_covers_49 : decode cXM_covers 49 = .ok (.ifCond .eq 30, 3) := by decide +kernel
theorem dXM_covers_52 : decode cXM_covers 52 = .ok (.aload_n 0, 1) := by decide +kernel
theorem dXM_covers_53 : decode cXM_covers 53 = .ok (.iconst 0, 1) := by decide +kernel
theorem dXM_covers_54 : decode cXM_covers 54 = .ok (.iload_n 2, 1) := by decide +kernel
theorem dXM_covers_55 : decode cXM_covers 55 = .ok (.invokevirtual 61, 3) := by decide +kernel
theorem dXM_covers_58 : decode cXM_covers 58 = .ok (.aload_n 0, 1) := by decide +kernel
theorem dXM_covers_59 : decode cXM_covers 59 = .ok (.iconst 1, 1) := by decide +kernel
theorem dXM_covers_60 : decode cXM_covers 60 = .ok (.iload_n 2, 1) := by decide +kernel
theorem dXM_covers_61 : decode cXM_covers 61 = .ok (.invokevirtual 61, 3) := by decide +kernel
theorem dXM_covers_64 : decode cXM_covers 64 = .ok (.if_icmp .ne 7, 3) := by decide +kernel
theorem dXM_covers_67 : decode cXM_covers 67 = .ok (.iconst 1, 1) := by decide +kernel
theorem dXM_covers_68 : decode cXM_covers 68 = .ok (.goto 4, 3) := by decide +kernel
theorem dXM_covers_71 : decode cXM_covers 71 = .ok (.iconst 0, 1) := by decide +kernel
theorem dXM_covers_72 : decode cXM_covers 72 = .ok (.istore_n 1, 1) := by decide +kernel
theorem dXM_covers_73 : decode cXM_covers 73 = .ok (.iinc 2 1, 3) := by decide +kernel
theorem dXM_covers_76 : decode cXM_covers 76 = .ok (.goto (-38), 3) := by decide +kernel
theorem dXM_covers_79 : decode cXM_covers 79 = .ok (.iload_n 1, 1) := by decide +kernel
theorem dXM_covers_80 : decode cXM_covers 80 = .ok (.ireturn, 1) := by decide +kernel
theorem dXM_order_0 : decode cXM_order 0 = .ok (.aload_n 0, 1) := by decide +kernel
theorem dXM_order_1 : decode cXM_order 1 = .ok (.getfield 16, 3) := by decide +kernel
theorem dXM_order_4 : decode cXM_order 4 = .ok (.iconst 0, 1) := by decide +kernel
theorem dXM_order_5 : decode cXM_order 5 = .ok (.iaload, 1) := by decide +kernel
theorem dXM_order_6 : decode cXM_order 6 = .ok (.aload_n 0, 1) := by decide +kernel
theorem dXM_order_7 : decode cXM_order 7 = .ok (.getfield 16, 3) := by decide +kernel
theorem dXM_order_10 : decode cXM_order 10 = .ok (.iconst 1, 1) := by decide +kernel
theorem dXM_order_11 : decode cXM_order 11 = .ok (.iaload, 1) := by decide +kernel
theorem dXM_order_12 : decode cXM_order 12 = .ok (.if_icmp .eq 24, 3) := by decide +kernel
theorem dXM_order_15 : decode cXM_order 15 = .ok (.aload_n 0, 1) := by decide +kernel
theorem dXM_order_16 : decode cXM_order 16 = .ok (.getfield 16, 3) := by decide +kernel
theorem dXM_order_19 : decode cXM_order 19 = .ok (.iconst 0, 1) := by decide +kernel
theorem dXM_order_20 : decode cXM_order 20 = .ok (.iaload, 1) := by decide +kernel
theorem dXM_order_21 : decode cXM_order 21 = .ok (.aload_n 0, 1) := by decide +kernel
theorem dXM_order_22 : decode cXM_order 22 = .ok (.getfield 16, 3) := by decide +kernel
theorem dXM_order_25 : decode cXM_order 25 = .ok (.iconst 1, 1) := by decide +kernel
theorem dXM_order_26 : decode cXM_order 26 = .ok (.iaload, 1) := by decide +kernel
theorem dXM_order_27 : decode cXM_order 27 = .ok (.if_icmp .ge 7, 3) := by decide +kernel
theorem dXM_order_30 : decode cXM_order 30 = .ok (.iconst (-1), 1) := by decide +kernel
theorem dXM_order_31 : decode cXM_order 31 = .ok (.goto 4, 3) := by decide +kernel
theorem dXM_order_34 : decode cXM_order 34 = .ok (.iconst 1, 1) := by decide +kernel
theorem dXM_order_35 : decode cXM_order 35 = .ok (.ireturn, 1) := by decide +kernel
theorem dXM_order_36 : decode cXM_order 36 = .ok (.iconst 0, 1) := by decide +kernel
theorem dXM_order_37 : decode cXM_order 37 = .ok (.istore_n 1, 1) := by decide +kernel
theorem dXM_order_38 : decode cXM_order 38 = .ok (.iload_n 1, 1) := by decide +kernel
theorem dXM_order_39 : decode cXM_order 39 = .ok (.bipush 16, 2) := by decide +kernel
theorem dXM_order_41 : decode cXM_order 41 = .ok (.if_icmp .ge 51, 3) := by decide +kernel
theorem dXM_order_44 : decode cXM_order 44 = .ok (.aload_n 0, 1) := by decide +kernel
theorem dXM_order_45 : decode cXM_order 45 = .ok (.getfield 13, 3) := by decide +kernel
theorem dXM_order_48 : decode cXM_order 48 = .ok (.iload_n 1, 1) := by decide +kernel
theorem dXM_order_49 : decode cXM_order 49 = .ok (.iaload, 1) := by decide +kernel
theorem dXM_order_50 : decode cXM_order 50 = .ok (.aload_n 0, 1) := by decide +kernel
theorem dXM_order_51 : decode cXM_order 51 = .ok (.getfield 13, 3) := by decide +kernel
theorem dXM_order_54 : decode cXM_order 54 = .ok (.bipush 16, 2) := by decide +kernel
theorem dXM_order_56 : decode cXM_order 56 = .ok (.iload_n 1, 1) := by decide +kernel
theorem dXM_order_57 : decode cXM_order 57 = .ok (.iadd, 1) := by decide +kernel
theorem dXM_order_58 : decode cXM_order 58 = .ok (.iaload, 1) := by decide +kernel
theorem dXM_order_59 : decode cXM_order 59 = .ok (.if_icmp .eq 27, 3) := by decide +kernel
theorem dXM_order_62 : decode cXM_order 62 = .ok (.aload_n 0, 1) := by decide +kernel
theorem dXM_order_63 : decode cXM_order 63 = .ok (.getfield 13, 3) := by decide +kernel
theorem dXM_order_66 : decode cXM_order 66 = .ok (.iload_n 1, 1) := by decide +kernel
theorem dXM_order_67 : decode cXM_order 67 = .ok (.iaload, 1) := by decide +kernel
theorem dXM_order_68 : decode cXM_order 68 = .ok (.aload_n 0, 1) := by decide +kernel
theorem dXM_order_69 : decode cXM_order 69 = .ok (.getfield 13, 3) := by decide +kernel
theorem dXM_order_72 : decode cXM_order 72 = .ok (.bipush 16, 2) := by decide +kernel
theorem dXM_order_74 : decode cXM_order 74 = .ok (.iload_n 1, 1) := by decide +kernel
theorem dXM_order_75 : decode cXM_order 75 = .ok (.iadd, 1) := by decide +kernel
theorem dXM_order_76 : decode cXM_order 76 = .ok (.iaload, 1) := by decide +kernel
theorem dXM_order_77 : decode cXM_order 77 = .ok (.if_icmp .ge 7, 3) := by decide +kernel
theorem dXM_order_80 : decode cXM_order 80 = .ok (.iconst (-1), 1) := by decide +kernel
theorem dXM_order_81 : decode cXM_order 81 = .ok (.goto 4, 3) := by decide +kernel
theorem dXM_order_84 : decode cXM_order 84 = .ok (.iconst 1, 1) := by decide +kernel
theorem dXM_order_85 : decode cXM_order 85 = .ok (.ireturn, 1) := by decide +kernel
theorem dXM_order_86 : decode cXM_order 86 = .ok (.iinc 1 1, 3) := by decide +kernel
theorem dXM_order_89 : decode cXM_order 89 = .ok (.goto (-51), 3) := by decide +kernel
theorem dXM_order_92 : decode cXM_order 92 = .ok (.aload_n 0, 1) := by decide +kernel
theorem dXM_order_93 : decode cXM_order 93 = .ok (.getfield 19, 3) := by decide +kernel
theorem dXM_order_96 : decode cXM_order 96 = .ok (.iconst 0, 1) := by decide +kernel
theorem dXM_order_97 : decode cXM_order 97 = .ok (.iaload, 1) := by decide +kernel
theorem dXM_order_98 : decode cXM_order 98 = .ok (.aload_n 0, 1) := by decide +kernel
theorem dXM_order_99 : decode cXM_order 99 = .ok (.getfield 19, 3) := by decide +kernel
theorem dXM_order_102 : decode cXM_order 102 = .ok (.iconst 1, 1) := by decide +kernel
theorem dXM_order_103 : decode cXM_order 103 = .ok (.iaload, 1) := by decide +kernel
theorem dXM_order_104 : decode cXM_order 104 = .ok (.if_icmp .ge 7, 3) := by decide +kernel
theorem dXM_order_107 : decode cXM_order 107 = .ok (.iconst (-1), 1) := by decide +kernel
theorem dXM_order_108 : decode cXM_order 108 = .ok (.goto 23, 3) := by decide +kernel
theorem dXM_order_111 : decode cXM_order 111 = .ok (.aload_n 0, 1) := by decide +kernel
theorem dXM_order_112 : decode cXM_order 112 = .ok (.getfield 19, 3) := by decide +kernel
theorem dXM_order_115 : decode cXM_order 115 = .ok (.iconst 0, 1) := by decide +kernel
theorem dXM_order_116 : decode cXM_order 116 = .ok (.iaload, 1) := by decide +kernel
theorem dXM_order_117 : decode cXM_order 117 = .ok (.aload_n 0, 1) := by decide +kernel
theorem dXM_order_118 : decode cXM_order 118 = .ok (.getfield 19, 3) := by decide +kernel
theorem dXM_order_121 : decode cXM_order 121 = .ok (.iconst 1, 1) := by decide +kernel
theorem dXM_order_122 : decode cXM_order 122 = .ok (.iaload, 1) := by decide +kernel
theorem dXM_order_123 : decode cXM_order 123 = .ok (.if_icmp .le 7, 3) := by decide +kernel
theorem dXM_order_126 : decode cXM_order 126 = .ok (.iconst 1, 1) := by decide +kernel
theorem dXM_order_127 : decode cXM_order 127 = .ok (.goto 4, 3) := by decide +kernel
theorem dXM_order_130 : decode cXM_order 130 = .ok (.iconst 0, 1) := by decide +kernel
theorem dXM_order_131 : decode cXM_order 131 = .ok (.ireturn, 1) := by decide +kernel
theorem dXM_turn_0 : decode cXM_turn 0 = .ok (.iconst 0, 1) := by decide +kernel
theorem dXM_turn_1 : decode cXM_turn 1 = .ok (.istore_n 1, 1) := by decide +kernel
theorem dXM_turn_2 : decode cXM_turn 2 = .ok (.iload_n 1, 1) := by decide +kernel
theorem dXM_turn_3 : decode cXM_turn 3 = .ok (.bipush 16, 2) := by decide +kernel
theorem dXM_turn_5 : decode cXM_turn 5 = .ok (.if_icmp .ge 41, 3) := by decide +kernel
theorem dXM_turn_8 : decode cXM_turn 8 = .ok (.aload_n 0, 1) := by decide +kernel
theorem dXM_turn_9 : decode cXM_turn 9 = .ok (.getfield 13, 3) := by decide +kernel
theorem dXM_turn_12 : decode cXM_turn 12 = .ok (.iload_n 1, 1) := by decide +kernel
theorem dXM_turn_13 : decode cXM_turn 13 = .ok (.iaload, 1) := by decide +kernel
theorem dXM_turn_14 : decode cXM_turn 14 = .ok (.istore_n 2, 1) := by decide +kernel
theorem dXM_turn_15 : decode cXM_turn 15 = .ok (.aload_n 0, 1) := by decide +kernel
theorem dXM_turn_16 : decode cXM_turn 16 = .ok (.getfield 13, 3) := by decide +kernel
theorem dXM_turn_19 : decode cXM_turn 19 = .ok (.iload_n 1, 1) := by decide +kernel
theorem dXM_turn_20 : decode cXM_turn 20 = .ok (.aload_n 0, 1) := by decide +kernel
theorem dXM_turn_21 : decode cXM_turn 21 = .ok (.getfield 13, 3) := by decide +kernel
theorem dXM_turn_24 : decode cXM_turn 24 = .ok (.bipush 16, 2) := by decide +kernel
theorem dXM_turn_26 : decode cXM_turn 26 = .ok (.iload_n 1, 1) := by decide +kernel
theorem dXM_turn_27 : decode cXM_turn 27 = .ok (.iadd, 1) := by decide +kernel
theorem dXM_turn_28 : decode cXM_turn 28 = .ok (.iaload, 1) := by decide +kernel
theorem dXM_turn_29 : decode cXM_turn 29 = .ok (.iastore, 1) := by decide +kernel
theorem dXM_turn_30 : decode cXM_turn 30 = .ok (.aload_n 0, 1) := by decide +kernel
theorem dXM_turn_31 : decode cXM_turn 31 = .ok (.getfield 13, 3) := by decide +kernel
theorem dXM_turn_34 : decode cXM_turn 34 = .ok (.bipush 16, 2) := by decide +kernel
theorem dXM_turn_36 : decode cXM_turn 36 = .ok (.iload_n 1, 1) := by decide +kernel
theorem dXM_turn_37 : decode cXM_turn 37 = .ok (.iadd, 1) := by decide +kernel
theorem dXM_turn_38 : decode cXM_turn 38 = .ok (.iload_n 2, 1) := by decide +kernel
theorem dXM_turn_39 : decode cXM_turn 39 = .ok (.iastore, 1) := by decide +kernel
theorem dXM_turn_40 : decode cXM_turn 40 = .ok (.iinc 1 1, 3) := by decide +kernel
theorem dXM_turn_43 : decode cXM_turn 43 = .ok (.goto (-41), 3) := by decide +kernel
theorem dXM_turn_46 : decode cXM_turn 46 = .ok (.aload_n 0, 1) := by decide +kernel
theorem dXM_turn_47 : decode cXM_turn 47 = .ok (.getfield 16, 3) := by decide +kernel
theorem dXM_turn_50 : decode cXM_turn 50 = .ok (.iconst 0, 1) := by decide +kernel
theorem dXM_turn_51 : decode cXM_turn 51 = .ok (.iaload, 1) := by decide +kernel
theorem dXM_turn_52 : decode cXM_turn 52 = .ok (.istore_n 1, 1) := by decide +kernel
theorem dXM_turn_53 : decode cXM_turn 53 = .ok (.aload_n 0, 1) := by decide +kernel
theorem dXM_turn_54 : decode cXM_turn 54 = .ok (.getfield 16, 3) := by decide +kernel
theorem dXM_turn_57 : decode cXM_turn 57 = .ok (.iconst 0, 1) := by decide +kernel
theorem dXM_turn_58 : decode cXM_turn 58 = .ok (.aload_n 0, 1) := by decide +kernel
theorem dXM_turn_59 : decode cXM_turn 59 = .ok (.getfield 16, 3) := by decide +kernel
theorem dXM_turn_62 : decode cXM_turn 62 = .ok (.iconst 1, 1) := by decide +kernel
theorem dXM_turn_63 : decode cXM_turn 63 = .ok (.iaload, 1) := by decide +kernel
theorem dXM_turn_64 : decode cXM_turn 64 = .ok (.iastore, 1) := by decide +kernel
theorem dXM_turn_65 : decode cXM_turn 65 = .ok (.aload_n 0, 1) := by decide +kernel
theorem dXM_turn_66 : decode cXM_turn 66 = .ok (.getfield 16, 3) := by decide +kernel
theorem dXM_turn_69 : decode cXM_turn 69 = .ok (.iconst 1, 1) := by decide +kernel
theorem dXM_turn_70 : decode cXM_turn 70 = .ok (.iload_n 1, 1) := by decide +kernel
theorem dXM_turn_71 : decode cXM_turn 71 = .ok (.iastore, 1) := by decide +kernel
theorem dXM_turn_72 : decode cXM_turn 72 = .ok (.aload_n 0, 1) := by decide +kernel
theorem dXM_turn_73 : decode cXM_turn 73 = .ok (.getfield 19, 3) := by decide +kernel
theorem dXM_turn_76 : decode cXM_turn 76 = .ok (.iconst 0, 1) := by decide +kernel
theorem dXM_turn_77 : decode cXM_turn 77 = .ok (.iaload, 1) := by decide +kernel
theorem dXM_turn_78 : decode cXM_turn 78 = .ok (.istore_n 2, 1) := by decide +kernel
theorem dXM_turn_79 : decode cXM_turn 79 = .ok (.aload_n 0, 1) := by decide +kernel
theorem dXM_turn_80 : decode cXM_turn 80 = .ok (.getfield 19, 3) := by decide +kernel
theorem dXM_turn_83 : decode cXM_turn 83 = .ok (.iconst 0, 1) := by decide +kernel
theorem dXM_turn_84 : decode cXM_turn 84 = .ok (.aload_n 0, 1) := by decide +kernel
theorem dXM_turn_85 : decode cXM_turn 85 = .ok (.getfield 19, 3) := by decide +kernel
theorem dXM_turn_88 : decode cXM_turn 88 = .ok (.iconst 1, 1) := by decide +kernel
theorem dXM_turn_89 : decode cXM_turn 89 = .ok (.iaload, 1) := by decide +kernel
theorem dXM_turn_90 : decode cXM_turn 90 = .ok (.iastore, 1) := by decide +kernel
theorem dXM_turn_91 : decode cXM_turn 91 = .ok (.aload_n 0, 1) := by decide +kernel
theorem dXM_turn_92 : decode cXM_turn 92 = .ok (.getfield 19, 3) := by decide +kernel
theorem dXM_turn_95 : decode cXM_turn 95 = .ok (.iconst 1, 1) := by decide +kernel
theorem dXM_turn_96 : decode cXM_turn 96 = .ok (.iload_n 2, 1) := by decide +kernel
theorem dXM_turn_97 : decode cXM_turn 97 = .ok (.iastore, 1) := by decide +kernel
theorem dXM_turn_98 : decode cXM_turn 98 = .ok (.return_, 1) := by decide +kernel
theorem dXM_say_0 : decode cXM_say 0 = .ok (.aload_n 0, 1) := by decide +kernel
theorem dXM_say_1 : decode cXM_say 1 = .ok (.getfield 25, 3) := by decide +kernel
theorem dXM_say_4 : decode cXM_say 4 = .ok (.aload_n 0, 1) := by decide +kernel
theorem dXM_say_5 : decode cXM_say 5 = .ok (.getfield 65, 3) := by decide +kernel
theorem dXM_say_8 : decode cXM_say 8 = .ok (.iload_n 1, 1) := by decide +kernel
theorem dXM_say_9 : decode cXM_say 9 = .ok (.iastore, 1) := by decide +kernel
theorem dXM_say_10 : decode cXM_say 10 = .ok (.aload_n 0, 1) := by decide +kernel
theorem dXM_say_11 : decode cXM_say 11 = .ok (.dup, 1) := by decide +kernel
theorem dXM_say_12 : decode cXM_say 12 = .ok (.getfield 65, 3) := by decide +kernel
theorem dXM_say_15 : decode cXM_say 15 = .ok (.iconst 1, 1) := by decide +kernel
theorem dXM_say_16 : decode cXM_say 16 = .ok (.iadd, 1) := by decide +kernel
theorem dXM_say_17 : decode cXM_say 17 = .ok (.putfield 65, 3) := by decide +kernel
theorem dXM_say_20 : decode cXM_say 20 = .ok (.return_, 1) := by decide +kernel
theorem dXM_sayDecimal_0 : decode cXM_sayDecimal 0 = .ok (.iload_n 1, 1) := by decide +kernel
theorem dXM_sayDecimal_1 : decode cXM_sayDecimal 1 = .ok (.bipush 99, 2) := by decide +kernel
theorem dXM_sayDecimal_3 : decode cXM_sayDecimal 3 = .ok (.if_icmp .le 14, 3) := by decide +kernel
theorem dXM_sayDecimal_6 : decode cXM_sayDecimal 6 = .ok (.aload_n 0, 1) := by decide +kernel
theorem dXM_sayDecimal_7 : decode cXM_sayDecimal 7 = .ok (.bipush 48, 2) := by decide +kernel
theorem dXM_sayDecimal_9 : decode cXM_sayDecimal 9 = .ok (.iload_n 1, 1) := by decide +kernel
theorem dXM_sayDecimal_10 : decode cXM_sayDecimal 10 = .ok (.bipush 100, 2) := by decide +kernel
theorem dXM_sayDecimal_12 : decode cXM_sayDecimal 12 = .ok (.idiv, 1) := by decide +kernel
theorem dXM_sayDecimal_13 : decode cXM_sayDecimal 13 = .ok (.iadd, 1) := by decide +kernel
theorem dXM_sayDecimal_14 : decode cXM_sayDecimal 14 = .ok (.invokevirtual 68, 3) := by decide +kernel
theorem dXM_sayDecimal_17 : decode cXM_sayDecimal 17 = .ok (.iload_n 1, 1) := by decide +kernel
theorem dXM_sayDecimal_18 : decode cXM_sayDecimal 18 = .ok (.bipush 9, 2) := by decide +kernel
theorem dXM_sayDecimal_20 : decode cXM_sayDecimal 20 = .ok (.if_icmp .le 17, 3) := by decide +kernel
theorem dXM_sayDecimal_23 : decode cXM_sayDecimal 23 = .ok (.aload_n 0, 1) := by decide +kernel
theorem dXM_sayDecimal_24 : decode cXM_sayDecimal 24 = .ok (.bipush 48, 2) := by decide +kernel
theorem dXM_sayDecimal_26 : decode cXM_sayDecimal 26 = .ok (.iload_n 1, 1) := by decide +kernel
theorem dXM_sayDecimal_27 : decode cXM_sayDecimal 27 = .ok (.bipush 10, 2) := by decide +kernel
theorem dXM_sayDecimal_29 : decode cXM_sayDecimal 29 = .ok (.idiv, 1) := by decide +kernel
theorem dXM_sayDecimal_30 : decode cXM_sayDecimal 30 = .ok (.bipush 10, 2) := by decide +kernel
theorem dXM_sayDecimal_32 : decode cXM_sayDecimal 32 = .ok (.irem, 1) := by decide +kernel
theorem dXM_sayDecimal_33 : decode cXM_sayDecimal 33 = .ok (.iadd, 1) := by decide +kernel
theorem dXM_sayDecimal_34 : decode cXM_sayDecimal 34 = .ok (.invokevirtual 68, 3) := by decide +kernel
theorem dXM_sayDecimal_37 : decode cXM_sayDecimal 37 = .ok (.aload_n 0, 1) := by decide +kernel
theorem dXM_sayDecimal_38 : decode cXM_sayDecimal 38 = .ok (.bipush 48, 2) := by decide +kernel
theorem dXM_sayDecimal_40 : decode cXM_sayDecimal 40 = .ok (.iload_n 1, 1) := by decide +kernel
theorem dXM_sayDecimal_41 : decode cXM_sayDecimal 41 = .ok (.bipush 10, 2) := by decide +kernel
theorem dXM_sayDecimal_43 : decode cXM_sayDecimal 43 = .ok (.irem, 1) := by decide +kernel
theorem dXM_sayDecimal_44 : decode cXM_sayDecimal 44 = .ok (.iadd, 1) := by decide +kernel
theorem dXM_sayDecimal_45 : decode cXM_sayDecimal 45 = .ok (.invokevirtual 68, 3) := by decide +kernel
theorem dXM_sayDecimal_48 : decode cXM_sayDecimal 48 = .ok (.return_, 1) := by decide +kernel
theorem dXM_sayPart_0 : decode cXM_sayPart 0 = .ok (.bipush 12, 2) := by decide +kernel
theorem dXM_sayPart_2 : decode cXM_sayPart 2 = .ok (.istore_n 2, 1) := by decide +kernel
theorem dXM_sayPart_3 : decode cXM_sayPart 3 = .ok (.iload_n 2, 1) := by decide +kernel
theorem dXM_sayPart_4 : decode cXM_sayPart 4 = .ok (.ifCond .lt 55, 3) := by decide +kernel
theorem dXM_sayPart_7 : decode cXM_sayPart 7 = .ok (.iload_n 1, 1) := by decide +kernel
theorem dXM_sayPart_8 : decode cXM_sayPart 8 = .ok (.iload_n 2, 1) := by decide +kernel
theorem dXM_sayPart_9 : decode cXM_sayPart 9 = .ok (.ishr, 1) := by decide +kernel
theorem dXM_sayPart_10 : decode cXM_sayPart 10 = .ok (.ifCond .gt 7, 3) := by decide +kernel
theorem dXM_sayPart_13 : decode cXM_sayPart 13 = .ok (.iload_n 2, 1) := by decide +kernel
theorem dXM_sayPart_14 : decode cXM_sayPart 14 = .ok (.ifCond .ne 39, 3) := by decide +kernel
theorem dXM_sayPart_17 : decode cXM_sayPart 17 = .ok (.aload_n 0, 1) := by decide +kernel
theorem dXM_sayPart_18 : decode cXM_sayPart 18 = .ok (.iload_n 1, 1) := by decide +kernel
theorem dXM_sayPart_19 : decode cXM_sayPart 19 = .ok (.iload_n 2, 1) := by decide +kernel
theorem dXM_sayPart_20 : decode cXM_sayPart 20 = .ok (.ishr, 1) := by decide +kernel
theorem dXM_sayPart_21 : decode cXM_sayPart 21 = .ok (.bipush 15, 2) := by decide +kernel
theorem dXM_sayPart_23 : decode cXM_sayPart 23 = .ok (.iand, 1) := by decide +kernel
theorem dXM_sayPart_24 : decode cXM_sayPart 24 = .ok (.bipush 10, 2) := by decide +kernel
theorem dXM_sayPart_26 : decode cXM_sayPart 26 = .ok (.if_icmp .ge 15, 3) := by decide +kernel
theorem dXM_sayPart_29 : decode cXM_sayPart 29 = .ok (.bipush 48, 2) := by decide +kernel
theorem dXM_sayPart_31 : decode cXM_sayPart 31 = .ok (.iload_n 1, 1) := by decide +kernel
theorem dXM_sayPart_32 : decode cXM_sayPart 32 = .ok (.iload_n 2, 1) := by decide +kernel
theorem dXM_sayPart_33 : decode cXM_sayPart 33 = .ok (.ishr, 1) := by decide +kernel
theorem dXM_sayPart_34 : decode cXM_sayPart 34 = .ok (.bipush 15, 2) := by decide +kernel
theorem dXM_sayPart_36 : decode cXM_sayPart 36 = .ok (.iand, 1) := by decide +kernel
theorem dXM_sayPart_37 : decode cXM_sayPart 37 = .ok (.iadd, 1) := by decide +kernel
theorem dXM_sayPart_38 : decode cXM_sayPart 38 = .ok (.goto 12, 3) := by decide +kernel
theorem dXM_sayPart_41 : decode cXM_sayPart 41 = .ok (.bipush 87, 2) := by decide +kernel
theorem dXM_sayPart_43 : decode cXM_sayPart 43 = .ok (.iload_n 1, 1) := by decide +kernel
theorem dXM_sayPart_44 : decode cXM_sayPart 44 = .ok (.iload_n 2, 1) := by decide +kernel
theorem dXM_sayPart_45 : decode cXM_sayPart 45 = .ok (.ishr, 1) := by decide +kernel
theorem dXM_sayPart_46 : decode cXM_sayPart 46 = .ok (.bipush 15, 2) := by decide +kernel
theorem dXM_sayPart_48 : decode cXM_sayPart 48 = .ok (.iand, 1) := by decide +kernel
theorem dXM_sayPart_49 : decode cXM_sayPart 49 = .ok (.iadd, 1) := by decide +kernel
theorem dXM_sayPart_50 : decode cXM_sayPart 50 = .ok (.invokevirtual 68, 3) := by decide +kernel
theorem dXM_sayPart_53 : decode cXM_sayPart 53 = .ok (.iinc 2 (-4), 3) := by decide +kernel
theorem dXM_sayPart_56 : decode cXM_sayPart 56 = .ok (.goto (-53), 3) := by decide +kernel
theorem dXM_sayPart_59 : decode cXM_sayPart 59 = .ok (.return_, 1) := by decide +kernel
theorem dXM_part_0 : decode cXM_part 0 = .ok (.aload_n 0, 1) := by decide +kernel
theorem dXM_part_1 : decode cXM_part 1 = .ok (.getfield 13, 3) := by decide +kernel
theorem dXM_part_4 : decode cXM_part 4 = .ok (.iconst 2, 1) := by decide +kernel
theorem dXM_part_5 : decode cXM_part 5 = .ok (.iload_n 1, 1) := by decide +kernel
theorem dXM_part_6 : decode cXM_part 6 = .ok (.imul, 1) := by decide +kernel
theorem dXM_part_7 : decode cXM_part 7 = .ok (.iaload, 1) := by decide +kernel
theorem dXM_part_8 : decode cXM_part 8 = .ok (.bipush 8, 2) := by decide +kernel
theorem dXM_part_10 : decode cXM_part 10 = .ok (.ishl, 1) := by decide +kernel
theorem dXM_part_11 : decode cXM_part 11 = .ok (.aload_n 0, 1) := by decide +kernel
theorem dXM_part_12 : decode cXM_part 12 = .ok (.getfield 13, 3) := by decide +kernel
theorem dXM_part_15 : decode cXM_part 15 = .ok (.iconst 2, 1) := by decide +kernel
theorem dXM_part_16 : decode cXM_part 16 = .ok (.iload_n 1, 1) := by decide +kernel
theorem dXM_part_17 : decode cXM_part 17 = .ok (.imul, 1) := by decide +kernel
theorem dXM_part_18 : decode cXM_part 18 = .ok (.iconst 1, 1) := by decide +kernel
theorem dXM_part_19 : decode cXM_part 19 = .ok (.iadd, 1) := by decide +kernel
theorem dXM_part_20 : decode cXM_part 20 = .ok (.iaload, 1) := by decide +kernel
theorem dXM_part_21 : decode cXM_part 21 = .ok (.ior, 1) := by decide +kernel
theorem dXM_part_22 : decode cXM_part 22 = .ok (.ireturn, 1) := by decide +kernel
theorem dXM_noughts_0 : decode cXM_noughts 0 = .ok (.iload_n 1, 1) := by decide +kernel
theorem dXM_noughts_1 : decode cXM_noughts 1 = .ok (.istore_n 2, 1) := by decide +kernel
theorem dXM_noughts_2 : decode cXM_noughts 2 = .ok (.iload_n 2, 1) := by decide +kernel
theorem dXM_noughts_3 : decode cXM_noughts 3 = .ok (.bipush 8, 2) := by decide +kernel
theorem dXM_noughts_5 : decode cXM_noughts 5 = .ok (.if_icmp .ge 17, 3) := by decide +kernel
theorem dXM_noughts_8 : decode cXM_noughts 8 = .ok (.aload_n 0, 1) := by decide +kernel
theorem dXM_noughts_9 : decode cXM_noughts 9 = .ok (.iload_n 2, 1) := by decide +kernel
theorem dXM_noughts_10 : decode cXM_noughts 10 = .ok (.invokevirtual 71, 3) := by decide +kernel
theorem dXM_noughts_13 : decode cXM_noughts 13 = .ok (.ifCond .ne 9, 3) := by decide +kernel
theorem dXM_noughts_16 : decode cXM_noughts 16 = .ok (.iinc 2 1, 3) := by decide +kernel
theorem dXM_noughts_19 : decode cXM_noughts 19 = .ok (.goto (-17), 3) := by decide +kernel
theorem dXM_noughts_22 : decode cXM_noughts 22 = .ok (.iload_n 2, 1) := by decide +kernel
theorem dXM_noughts_23 : decode cXM_noughts 23 = .ok (.iload_n 1, 1) := by decide +kernel
theorem dXM_noughts_24 : decode cXM_noughts 24 = .ok (.isub, 1) := by decide +kernel
theorem dXM_noughts_25 : decode cXM_noughts 25 = .ok (.ireturn, 1) := by decide +kernel
theorem dXM_write_0 : decode cXM_write 0 = .ok (.aload_n 0, 1) := by decide +kernel
theorem dXM_write_1 : decode cXM_write 1 = .ok (.iconst 0, 1) := by decide +kernel
theorem dXM_write_2 : decode cXM_write 2 = .ok (.putfield 65, 3) := by decide +kernel
theorem dXM_write_5 : decode cXM_write 5 = .ok (.aload_n 0, 1) := by decide +kernel
theorem dXM_write_6 : decode cXM_write 6 = .ok (.getfield 16, 3) := by decide +kernel
theorem dXM_write_9 : decode cXM_write 9 = .ok (.iconst 0, 1) := by decide +kernel
theorem dXM_write_10 : decode cXM_write 10 = .ok (.iaload, 1) := by decide +kernel
theorem dXM_write_11 : decode cXM_write 11 = .ok (.iconst 4, 1) := by decide +kernel
theorem dXM_write_12 : decode cXM_write 12 = .ok (.if_icmp .ne 44, 3) := by decide +kernel
theorem dXM_write_15 : decode cXM_write 15 = .ok (.iconst 0, 1) := by decide +kernel
theorem dXM_write_16 : decode cXM_write 16 = .ok (.istore_n 1, 1) := by decide +kernel
theorem dXM_write_17 : decode cXM_write 17 = .ok (.iload_n 1, 1) := by decide +kernel
theorem dXM_write_18 : decode cXM_write 18 = .ok (.iconst 4, 1) := by decide +kernel
theorem dXM_write_19 : decode cXM_write 19 = .ok (.if_icmp .ge 32, 3) := by decide +kernel
theorem dXM_write_22 : decode cXM_write 22 = .ok (.iload_n 1, 1) := by decide +kernel
theorem dXM_write_23 : decode cXM_write 23 = .ok (.ifCond .le 9, 3) := by decide +kernel
theorem dXM_write_26 : decode cXM_write 26 = .ok (.aload_n 0, 1) := by decide +kernel
theorem dXM_write_27 : decode cXM_write 27 = .ok (.bipush 46, 2) := by decide +kernel
theorem dXM_write_29 : decode cXM_write 29 = .ok (.invokevirtual 68, 3) := by decide +kernel
theorem dXM_write_32 : decode cXM_write 32 = .ok (.aload_n 0, 1) := by decide +kernel
theorem dXM_write_33 : decode cXM_write 33 = .ok (.aload_n 0, 1) := by decide +kernel
theorem dXM_write_34 : decode cXM_write 34 = .ok (.getfield 13, 3) := by decide +kernel
theorem dXM_write_37 : decode cXM_write 37 = .ok (.bipush 12, 2) := by decide +kernel
theorem dXM_write_39 : decode cXM_write 39 = .ok (.iload_n 1, 1) := by decide +kernel
theorem dXM_write_40 : decode cXM_write 40 = .ok (.iadd, 1) := by decide +kernel
theorem dXM_write_41 : decode cXM_write 41 = .ok (.iaload, 1) := by decide +kernel
theorem dXM_write_42 : decode cXM_write 42 = .ok (.invokevirtual 74, 3) := by decide +kernel
theorem dXM_write_45 : decode cXM_write 45 = .ok (.iinc 1 1, 3) := by decide +kernel
theorem dXM_write_48 : decode cXM_write 48 = .ok (.goto (-31), 3) := by decide +kernel
theorem dXM_write_51 : decode cXM_write 51 = .ok (.aload_n 0, 1) := by decide +kernel
theorem dXM_write_52 : decode cXM_write 52 = .ok (.getfield 65, 3) := by decide +kernel
theorem dXM_write_55 : decode cXM_write 55 = .ok (.ireturn, 1) := by decide +kernel
theorem dXM_write_56 : decode cXM_write 56 = .ok (.iconst 0, 1) := by decide +kernel
theorem dXM_write_57 : decode cXM_write 57 = .ok (.istore_n 1, 1) := by decide +kernel
theorem dXM_write_58 : decode cXM_write 58 = .ok (.iconst 1, 1) := by decide +kernel
theorem dXM_write_59 : decode cXM_write 59 = .ok (.istore_n 2, 1) := by decide +kernel
theorem dXM_write_60 : decode cXM_write 60 = .ok (.iload_n 2, 1) := by decide +kernel
theorem dXM_write_61 : decode cXM_write 61 = .ok (.bipush 8, 2) := by decide +kernel
theorem dXM_write_63 : decode cXM_write 63 = .ok (.if_icmp .ge 28, 3) := by decide +kernel
theorem dXM_write_66 : decode cXM_write 66 = .ok (.aload_n 0, 1) := by decide +kernel
theorem dXM_write_67 : decode cXM_write 67 = .ok (.iload_n 2, 1) := by decide +kernel
theorem dXM_write_68 : decode cXM_write 68 = .ok (.invokevirtual 77, 3) := by decide +kernel
theorem dXM_write_71 : decode cXM_write 71 = .ok (.aload_n 0, 1) := by decide +kernel
theorem dXM_write_72 : decode cXM_write 72 = .ok (.iload_n 1, 1) := by decide +kernel
theorem dXM_write_73 : decode cXM_write 73 = .ok (.invokevirtual 77, 3) := by decide +kernel
theorem dXM_write_76 : decode cXM_write 76 = .ok (.if_icmp .le 7, 3) := by decide +kernel
theorem dXM_write_79 : decode cXM_write 79 = .ok (.iload_n 2, 1) := by decide +kernel
theorem dXM_write_80 : decode cXM_write 80 = .ok (.goto 4, 3) := by decide +kernel
theorem dXM_write_83 : decode cXM_write 83 = .ok (.iload_n 1, 1) := by decide +kernel
theorem dXM_write_84 : decode cXM_write 84 = .ok (.istore_n 1, 1) := by decide +kernel
theorem dXM_write_85 : decode cXM_write 85 = .ok (.iinc 2 1, 3) := by decide +kernel
theorem dXM_write_88 : decode cXM_write 88 = .ok (.goto (-28), 3) := by decide +kernel
theorem dXM_write_91 : decode cXM_write 91 = .ok (.aload_n 0, 1) := by decide +kernel
theorem dXM_write_92 : decode cXM_write 92 = .ok (.iload_n 1, 1) := by decide +kernel
theorem dXM_write_93 : decode cXM_write 93 = .ok (.invokevirtual 77, 3) := by decide +kernel
theorem dXM_write_96 : decode cXM_write 96 = .ok (.iconst 1, 1) := by decide +kernel
theorem dXM_write_97 : decode cXM_write 97 = .ok (.if_icmp .le 11, 3) := by decide +kernel
theorem dXM_write_100 : decode cXM_write 100 = .ok (.aload_n 0, 1) := by decide +kernel
theorem dXM_write_101 : decode cXM_write 101 = .ok (.iload_n 1, 1) := by decide +kernel
theorem dXM_write_102 : decode cXM_write 102 = .ok (.invokevirtual 77, 3) := by decide +kernel
theorem dXM_write_105 : decode cXM_write 105 = .ok (.goto 4, 3) := by decide +kernel
theorem dXM_write_108 : decode cXM_write 108 = .ok (.iconst 0, 1) := by decide +kernel
theorem dXM_write_109 : decode cXM_write 109 = .ok (.istore_n 2, 1) := by decide +kernel
theorem dXM_write_110 : decode cXM_write 110 = .ok (.iconst 0, 1) := by decide +kernel
theorem dXM_write_111 : decode cXM_write 111 = .ok (.istore_n 3, 1) := by decide +kernel
theorem dXM_write_112 : decode cXM_write 112 = .ok (.iload_n 3, 1) := by decide +kernel
theorem dXM_write_113 : decode cXM_write 113 = .ok (.bipush 8, 2) := by decide +kernel
theorem dXM_write_115 : decode cXM_write 115 = .ok (.if_icmp .ge 84, 3) := by decide +kernel
theorem dXM_write_118 : decode cXM_write 118 = .ok (.iload_n 2, 1) := by decide +kernel
theorem dXM_write_119 : decode cXM_write 119 = .ok (.ifCond .le 44, 3) := by decide +kernel
theorem dXM_write_122 : decode cXM_write 122 = .ok (.iload_n 3, 1) := by decide +kernel
theorem dXM_write_123 : decode cXM_write 123 = .ok (.iload_n 1, 1) := by decide +kernel
theorem dXM_write_124 : decode cXM_write 124 = .ok (.if_icmp .lt 39, 3) := by decide +kernel
theorem dXM_write_127 : decode cXM_write 127 = .ok (.iload_n 3, 1) := by decide +kernel
theorem dXM_write_128 : decode cXM_write 128 = .ok (.iload_n 1, 1) := by decide +kernel
theorem dXM_write_129 : decode cXM_write 129 = .ok (.iload_n 2, 1) := by decide +kernel
theorem dXM_write_130 : decode cXM_write 130 = .ok (.iadd, 1) := by decide +kernel
theorem dXM_write_131 : decode cXM_write 131 = .ok (.if_icmp .ge 32, 3) := by decide +kernel
theorem dXM_write_134 : decode cXM_write 134 = .ok (.iload_n 3, 1) := by decide +kernel
theorem dXM_write_135 : decode cXM_write 135 = .ok (.iload_n 1, 1) := by decide +kernel
theorem dXM_write_136 : decode cXM_write 136 = .ok (.if_icmp .ne 9, 3) := by decide +kernel
theorem dXM_write_139 : decode cXM_write 139 = .ok (.aload_n 0, 1) := by decide +kernel
theorem dXM_write_140 : decode cXM_write 140 = .ok (.bipush 58, 2) := by decide +kernel
theorem dXM_write_142 : decode cXM_write 142 = .ok (.invokevirtual 68, 3) := by decide +kernel
theorem dXM_write_145 : decode cXM_write 145 = .ok (.iload_n 3, 1) := by decide +kernel
theorem dXM_write_146 : decode cXM_write 146 = .ok (.iload_n 1, 1) := by decide +kernel
theorem dXM_write_147 : decode cXM_write 147 = .ok (.iload_n 2, 1) := by decide +kernel
theorem dXM_write_148 : decode cXM_write 148 = .ok (.iadd, 1) := by decide +kernel
theorem dXM_write_149 : decode cXM_write 149 = .ok (.iconst 1, 1) := by decide +kernel
theorem dXM_write_150 : decode cXM_write 150 = .ok (.isub, 1) := by decide +kernel
theorem dXM_write_151 : decode cXM_write 151 = .ok (.if_icmp .ne 42, 3) := by decide +kernel
theorem dXM_write_154 : decode cXM_write 154 = .ok (.aload_n 0, 1) := by decide +kernel
theorem dXM_write_155 : decode cXM_write 155 = .ok (.bipush 58, 2) := by decide +kernel
theorem dXM_write_157 : decode cXM_write 157 = .ok (.invokevirtual 68, 3) := by decide +kernel
theorem dXM_write_160 : decode cXM_write 160 = .ok (.goto 33, 3) := by decide +kernel
theorem dXM_write_163 : decode cXM_write 163 = .ok (.iload_n 3, 1) := by decide +kernel
theorem dXM_write_164 : decode cXM_write 164 = .ok (.ifCond .le 20, 3) := by decide +kernel
theorem dXM_write_167 : decode cXM_write 167 = .ok (.iload_n 2, 1) := by decide +kernel
theorem dXM_write_168 : decode cXM_write 168 = .ok (.ifCond .le 10, 3) := by decide +kernel
theorem dXM_write_171 : decode cXM_write 171 = .ok (.iload_n 3, 1) := by decide +kernel
theorem dXM_write_172 : decode cXM_write 172 = .ok (.iload_n 1, 1) := by decide +kernel
theorem dXM_write_173 : decode cXM_write 173 = .ok (.iload_n 2, 1) := by decide +kernel
theorem dXM_write_174 : decode cXM_write 174 = .ok (.iadd, 1) := by decide +kernel
theorem dXM_write_175 : decode cXM_write 175 = .ok (.if_icmp .eq 9, 3) := by decide +kernel
theorem dXM_write_178 : decode cXM_write 178 = .ok (.aload_n 0, 1) := by decide +kernel
theorem dXM_write_179 : decode cXM_write 179 = .ok (.bipush 58, 2) := by decide +kernel
theorem dXM_write_181 : decode cXM_write 181 = .ok (.invokevirtual 68, 3) := by decide +kernel
theorem dXM_write_184 : decode cXM_write 184 = .ok (.aload_n 0, 1) := by decide +kernel
theorem dXM_write_185 : decode cXM_write 185 = .ok (.aload_n 0, 1) := by decide +kernel
theorem dXM_write_186 : decode cXM_write 186 = .ok (.iload_n 3, 1) := by decide +kernel
theorem dXM_write_187 : decode cXM_write 187 = .ok (.invokevirtual 71, 3) := by decide +kernel
theorem dXM_write_190 : decode cXM_write 190 = .ok (.invokevirtual 80, 3) := by decide +kernel
theorem dXM_write_193 : decode cXM_write 193 = .ok (.iinc 3 1, 3) := by decide +kernel
theorem dXM_write_196 : decode cXM_write 196 = .ok (.goto (-84), 3) := by decide +kernel
theorem dXM_write_199 : decode cXM_write 199 = .ok (.aload_n 0, 1) := by decide +kernel
theorem dXM_write_200 : decode cXM_write 200 = .ok (.getfield 65, 3) := by decide +kernel
theorem dXM_write_203 : decode cXM_write 203 = .ok (.ireturn, 1) := by decide +kernel
theorem dXM_writtenAt_0 : decode cXM_writtenAt 0 = .ok (.iload_n 1, 1) := by decide +kernel
theorem dXM_writtenAt_1 : decode cXM_writtenAt 1 = .ok (.ifCond .lt 11, 3) := by decide +kernel
theorem dXM_writtenAt_4 : decode cXM_writtenAt 4 = .ok (.iload_n 1, 1) := by decide +kernel
theorem dXM_writtenAt_5 : decode cXM_writtenAt 5 = .ok (.aload_n 0, 1) := by decide +kernel
theorem dXM_writtenAt_6 : decode cXM_writtenAt 6 = .ok (.getfield 65, 3) := by decide +kernel
theorem dXM_writtenAt_9 : decode cXM_writtenAt 9 = .ok (.if_icmp .lt 7, 3) := by decide +kernel
theorem dXM_writtenAt_12 : decode cXM_writtenAt 12 = .ok (.iconst (-1), 1) := by decide +kernel
theorem dXM_writtenAt_13 : decode cXM_writtenAt 13 = .ok (.goto 9, 3) := by decide +kernel
theorem dXM_writtenAt_16 : decode cXM_writtenAt 16 = .ok (.aload_n 0, 1) := by decide +kernel
theorem dXM_writtenAt_17 : decode cXM_writtenAt 17 = .ok (.getfield 25, 3) := by decide +kernel
theorem dXM_writtenAt_20 : decode cXM_writtenAt 20 = .ok (.iload_n 1, 1) := by decide +kernel
theorem dXM_writtenAt_21 : decode cXM_writtenAt 21 = .ok (.iaload, 1) := by decide +kernel
theorem dXM_writtenAt_22 : decode cXM_writtenAt 22 = .ok (.ireturn, 1) := by decide +kernel
theorem dXM_bits_0 : decode cXM_bits 0 = .ok (.iload_n 1, 1) := by decide +kernel
theorem dXM_bits_1 : decode cXM_bits 1 = .ok (.ifCond .eq 10, 3) := by decide +kernel
theorem dXM_bits_4 : decode cXM_bits 4 = .ok (.iload_n 1, 1) := by decide +kernel
theorem dXM_bits_5 : decode cXM_bits 5 = .ok (.iconst 1, 1) := by decide +kernel
theorem dXM_bits_6 : decode cXM_bits 6 = .ok (.if_icmp .eq 5, 3) := by decide +kernel
theorem dXM_bits_9 : decode cXM_bits 9 = .ok (.lconst 0, 1) := by decide +kernel
theorem dXM_bits_10 : decode cXM_bits 10 = .ok (.lreturn, 1) := by decide +kernel
theorem dXM_bits_11 : decode cXM_bits 11 = .ok (.lconst 0, 1) := by decide +kernel
theorem dXM_bits_12 : decode cXM_bits 12 = .ok (.lstore_n 2, 1) := by decide +kernel
theorem dXM_bits_13 : decode cXM_bits 13 = .ok (.iconst 0, 1) := by decide +kernel
theorem dXM_bits_14 : decode cXM_bits 14 = .ok (.istore 4, 2) := by decide +kernel
theorem dXM_bits_16 : decode cXM_bits 16 = .ok (.iload 4, 2) := by decide +kernel
theorem dXM_bits_18 : decode cXM_bits 18 = .ok (.bipush 8, 2) := by decide +kernel
theorem dXM_bits_20 : decode cXM_bits 20 = .ok (.if_icmp .ge 28, 3) := by decide +kernel
theorem dXM_bits_23 : decode cXM_bits 23 = .ok (.lload_n 2, 1) := by decide +kernel
theorem dXM_bits_24 : decode cXM_bits 24 = .ok (.bipush 8, 2) := by decide +kernel
theorem dXM_bits_26 : decode cXM_bits 26 = .ok (.lshl, 1) := by decide +kernel
theorem dXM_bits_27 : decode cXM_bits 27 = .ok (.aload_n 0, 1) := by decide +kernel
theorem dXM_bits_28 : decode cXM_bits 28 = .ok (.getfield 13, 3) := by decide +kernel
theorem dXM_bits_31 : decode cXM_bits 31 = .ok (.bipush 8, 2) := by decide +kernel
theorem dXM_bits_33 : decode cXM_bits 33 = .ok (.iload_n 1, 1) := by decide +kernel
theorem dXM_bits_34 : decode cXM_bits 34 = .ok (.imul, 1) := by decide +kernel
theorem dXM_bits_35 : decode cXM_bits 35 = .ok (.iload 4, 2) := by decide +kernel
theorem dXM_bits_37 : decode cXM_bits 37 = .ok (.iadd, 1) := by decide +kernel
theorem dXM_bits_38 : decode cXM_bits 38 = .ok (.iaload, 1) := by decide +kernel
theorem dXM_bits_39 : decode cXM_bits 39 = .ok (.i2l, 1) := by decide +kernel
theorem dXM_bits_40 : decode cXM_bits 40 = .ok (.lor, 1) := by decide +kernel
theorem dXM_bits_41 : decode cXM_bits 41 = .ok (.lstore_n 2, 1) := by decide +kernel
theorem dXM_bits_42 : decode cXM_bits 42 = .ok (.iinc 4 1, 3) := by decide +kernel
theorem dXM_bits_45 : decode cXM_bits 45 = .ok (.goto (-29), 3) := by decide +kernel
theorem dXM_bits_48 : decode cXM_bits 48 = .ok (.lload_n 2, 1) := by decide +kernel
theorem dXM_bits_49 : decode cXM_bits 49 = .ok (.lreturn, 1) := by decide +kernel
set_option maxRecDepth 20000 in
theorem ggXM_feed_XM_lay : GoodIn wsXM_feed wsXM_lay := goodIn_r _ [6, 7, 1, 8, 9, 10, 11, 12, 13, 14, 15, 16, 17] (by decide +kernel) (by decide +kernel)
set_option maxRecDepth 20000 in
theorem gXM_feed_XM_lay : GoodIn wsXM_feed (wsV RXM 32 RXM yXM_lay wsXM_lay) := goodIn_app (goodIn_of _ (by decide +kernel)) ggXM_feed_XM_lay
set_option maxRecDepth 20000 in
theorem ggXM_hexadecimal_XM_isDigit : GoodIn wsXM_hexadecimal wsXM_isDigit := goodIn_r _ [4, 5, 6, 7, 8, 9, 10, 11, 12, 13, 14] (by decide +kernel) (by decide +kernel)
set_option maxRecDepth 20000 in
theorem gXM_hexadecimal_XM_isDigit : GoodIn wsXM_hexadecimal (wsS RXM 36 yXM_isDigit wsXM_isDigit) := goodIn_app (goodIn_of _ (by decide +kernel)) ggXM_hexadecimal_XM_isDigit
set_option maxRecDepth 20000 in
theorem ggXM_decimal_XM_isDigit : GoodIn wsXM_decimal wsXM_isDigit := goodIn_r _ [5, 6, 7, 8, 9, 10, 11, 12, 13, 14, 15] (by decide +kernel) (by decide +kernel)
set_option maxRecDepth 20000 in
theorem gXM_decimal_XM_isDigit : GoodIn wsXM_decimal (wsS RXM 36 yXM_isDigit wsXM_isDigit) := goodIn_app (goodIn_of _ (by decide +kernel)) ggXM_decimal_XM_isDigit
set_option maxRecDepth 20000 in
theorem ggXM_isFour_XM_decimal : GoodIn wsXM_isFour wsXM_decimal := goodIn_r _ [9, 3, 10, 11, 7, 12, 13, 14, 15, 16, 17, 18, 19, 20, 21, 22] (by decide +kernel) (by decide +kernel)
set_option maxRecDepth 20000 in
theorem gXM_isFour_XM_decimal : GoodIn wsXM_isFour (wsV RXM 43 RXM yXM_decimal wsXM_decimal) := goodIn_app (goodIn_of _ (by decide +kernel)) ggXM_isFour_XM_decimal
set_option maxRecDepth 20000 in
theorem ggXM_isSix_XM_hexadecimal : GoodIn wsXM_isSix wsXM_hexadecimal := goodIn_r _ [9, 10, 11, 7, 12, 13, 14, 15, 16, 17, 18, 19, 20, 21, 22] (by decide +kernel) (by decide +kernel)
set_option maxRecDepth 20000 in
theorem gXM_isSix_XM_hexadecimal : GoodIn wsXM_isSix (wsS RXM 50 yXM_hexadecimal wsXM_hexadecimal) := goodIn_app (goodIn_of _ (by decide +kernel)) ggXM_isSix_XM_hexadecimal
set_option maxRecDepth 20000 in
theorem ggXM_read_XM_isSix : GoodIn wsXM_read wsXM_isSix := goodIn_r _ [16, 13, 15, 1, 2, 17, 18, 6, 14, 19, 20, 21, 22, 28, 29, 30, 31, 32, 33, 34, 35, 36, 37] (by decide +kernel) (by decide +kernel)
set_option maxRecDepth 20000 in
theorem gXM_read_XM_isSix : GoodIn wsXM_read (wsV RXM 54 RXM yXM_isSix wsXM_isSix) := goodIn_app (goodIn_of _ (by decide +kernel)) ggXM_read_XM_isSix
set_option maxRecDepth 20000 in
theorem ggXM_read_XM_isFour : GoodIn wsXM_read wsXM_isFour := goodIn_r _ [23, 13, 1, 2, 24, 25, 26, 6, 14, 27, 20, 21, 22, 28, 29, 30, 31, 32, 33, 34, 35, 36, 37] (by decide +kernel) (by decide +kernel)
set_option maxRecDepth 20000 in
theorem gXM_read_XM_isFour : GoodIn wsXM_read (wsV RXM 58 RXM yXM_isFour wsXM_isFour) := goodIn_app (goodIn_of _ (by decide +kernel)) ggXM_read_XM_isFour
set_option maxRecDepth 20000 in
theorem ggXM_length_XM_decimal : GoodIn wsXM_length wsXM_decimal := goodIn_r _ [8, 9, 10, 11, 6, 12, 13, 14, 15, 16, 17, 18, 19, 20, 21, 22] (by decide +kernel) (by decide +kernel)
set_option maxRecDepth 20000 in
theorem gXM_length_XM_decimal : GoodIn wsXM_length (wsV RXM 43 RXM yXM_decimal wsXM_decimal) := goodIn_app (goodIn_of _ (by decide +kernel)) ggXM_length_XM_decimal
set_option maxRecDepth 20000 in
theorem ggXM_cut_XM_bit : GoodIn wsXM_cut wsXM_bit := goodIn_r _ [8, 1, 7, 9, 10, 11, 12, 13, 14, 15, 16, 17, 18] (by decide +kernel) (by decide +kernel)
set_option maxRecDepth 20000 in
theorem gXM_cut_XM_bit : GoodIn wsXM_cut (wsV RXM 61 RXM yXM_bit wsXM_bit) := goodIn_app (goodIn_of _ (by decide +kernel)) ggXM_cut_XM_bit
set_option maxRecDepth 20000 in
theorem ggXM_covers_XM_bit : GoodIn wsXM_covers wsXM_bit := goodIn_r _ [7, 1, 8, 9, 10, 11, 12, 13, 14, 15, 16, 17, 18] (by decide +kernel) (by decide +kernel)
set_option maxRecDepth 20000 in
theorem gXM_covers_XM_bit : GoodIn wsXM_covers (wsV RXM 61 RXM yXM_bit wsXM_bit) := goodIn_app (goodIn_of _ (by decide +kernel)) ggXM_covers_XM_bit
set_option maxRecDepth 20000 in
theorem ggXM_sayDecimal_XM_say : GoodIn wsXM_sayDecimal wsXM_say := goodIn_r _ [5, 6, 7, 8, 9, 10, 11, 12, 13, 14, 15, 16, 17] (by decide +kernel) (by decide +kernel)
set_option maxRecDepth 20000 in
theorem gXM_sayDecimal_XM_say : GoodIn wsXM_sayDecimal (wsV RXM 68 RXM yXM_say wsXM_say) := goodIn_app (goodIn_of _ (by decide +kernel)) ggXM_sayDecimal_XM_say
set_option maxRecDepth 20000 in
theorem ggXM_sayPart_XM_say : GoodIn wsXM_sayPart wsXM_say := goodIn_r _ [5, 6, 7, 8, 9, 10, 11, 12, 13, 14, 15, 16, 17] (by decide +kernel) (by decide +kernel)
set_option maxRecDepth 20000 in
theorem gXM_sayPart_XM_say : GoodIn wsXM_sayPart (wsV RXM 68 RXM yXM_say wsXM_say) := goodIn_app (goodIn_of _ (by decide +kernel)) ggXM_sayPart_XM_say
set_option maxRecDepth 20000 in
theorem ggXM_noughts_XM_part : GoodIn wsXM_noughts wsXM_part := goodIn_r _ [5, 6, 7, 8, 9, 10, 11, 12, 13, 14, 15, 16] (by decide +kernel) (by decide +kernel)
set_option maxRecDepth 20000 in
theorem gXM_noughts_XM_part : GoodIn wsXM_noughts (wsV RXM 71 RXM yXM_part wsXM_part) := goodIn_app (goodIn_of _ (by decide +kernel)) ggXM_noughts_XM_part
set_option maxRecDepth 20000 in
theorem ggXM_write_XM_say : GoodIn wsXM_write wsXM_say := goodIn_r _ [20, 21, 1, 26, 27, 28, 29, 30, 31, 32, 33, 34, 35] (by decide +kernel) (by decide +kernel)
set_option maxRecDepth 20000 in
theorem gXM_write_XM_say : GoodIn wsXM_write (wsV RXM 68 RXM yXM_say wsXM_say) := goodIn_app (goodIn_of _ (by decide +kernel)) ggXM_write_XM_say
set_option maxRecDepth 20000 in
theorem ggXM_write_XM_sayDecimal : GoodIn wsXM_write wsXM_sayDecimal := goodIn_r _ [22, 3, 4, 5, 6, 20, 21, 1, 26, 27, 28, 29, 30, 31, 32, 33, 34, 35] (by decide +kernel) (by decide +kernel)
set_option maxRecDepth 20000 in
theorem gXM_write_XM_sayDecimal : GoodIn wsXM_write (wsV RXM 74 RXM yXM_sayDecimal wsXM_sayDecimal) := goodIn_app (goodIn_of _ (by decide +kernel)) ggXM_write_XM_sayDecimal
set_option maxRecDepth 20000 in
theorem ggXM_write_XM_noughts : GoodIn wsXM_write wsXM_noughts := goodIn_r _ [23, 14, 15, 16, 6, 24, 7, 26, 27, 28, 29, 30, 31, 32, 33, 34, 35] (by decide +kernel) (by decide +kernel)
set_option maxRecDepth 20000 in
theorem gXM_write_XM_noughts : GoodIn wsXM_write (wsV RXM 77 RXM yXM_noughts wsXM_noughts) := goodIn_app (goodIn_of _ (by decide +kernel)) ggXM_write_XM_noughts
set_option maxRecDepth 20000 in
theorem ggXM_write_XM_part : GoodIn wsXM_write wsXM_part := goodIn_r _ [24, 7, 26, 27, 28, 29, 30, 31, 32, 33, 34, 35] (by decide +kernel) (by decide +kernel)
set_option maxRecDepth 20000 in
theorem gXM_write_XM_part : GoodIn wsXM_write (wsV RXM 71 RXM yXM_part wsXM_part) := goodIn_app (goodIn_of _ (by decide +kernel)) ggXM_write_XM_part
set_option maxRecDepth 20000 in
theorem ggXM_write_XM_sayPart : GoodIn wsXM_write wsXM_sayPart := goodIn_r _ [25, 3, 4, 5, 6, 20, 21, 1, 26, 27, 28, 29, 30, 31, 32, 33, 34, 35] (by decide +kernel) (by decide +kernel)
set_option maxRecDepth 20000 in
theorem gXM_write_XM_sayPart : GoodIn wsXM_write (wsV RXM 80 RXM yXM_sayPart wsXM_sayPart) := goodIn_app (goodIn_of _ (by decide +kernel)) ggXM_write_XM_sayPart
abbrev azCl : List vw_C := [(RX0, TX0, 4), (RX1, TX1, 7), (RXM, TXM, 10)]
