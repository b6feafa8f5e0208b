section
-- ===== PART A: goes FIRST, ahead of the names: the tables' words, and 'selects' of the private methods out of them =====
/-- a private method of a class that the tables say can be made, by its rows of tables_1 -/
def lw_okq (q : MethodName × Nat) : Prop := (q.1.cls ≠ "java/lang/invoke/MethodHandle" ∧ q.1.cls ≠ "java/lang/invoke/VarHandle") ∧ Cond.instantiable q.1.cls q.2 ∈ tables_1 ∧ Cond.privateMethod q.1 ∈ tables_1 ∧ Cond.instanceMethod q.1 ∈ tables_1
theorem lw_p0 : lw_okq (⟨"AddressTexts", "tapeNumber", "(I)V"⟩, 7) := ⟨⟨by decide +kernel, by decide +kernel⟩, List.mem_of_getElem? (i := 6) (by decide +kernel), List.mem_of_getElem? (i := 64) (by decide +kernel), List.mem_of_getElem? (i := 65) (by decide +kernel)⟩
theorem lw_p1 : lw_okq (⟨"AddressTexts", "tapeByte", "(I)V"⟩, 7) := ⟨⟨by decide +kernel, by decide +kernel⟩, List.mem_of_getElem? (i := 6) (by decide +kernel), List.mem_of_getElem? (i := 68) (by decide +kernel), List.mem_of_getElem? (i := 69) (by decide +kernel)⟩
theorem lw_p2 : lw_okq (⟨"AddressTexts", "readText", "()Z"⟩, 7) := ⟨⟨by decide +kernel, by decide +kernel⟩, List.mem_of_getElem? (i := 6) (by decide +kernel), List.mem_of_getElem? (i := 80) (by decide +kernel), List.mem_of_getElem? (i := 81) (by decide +kernel)⟩
theorem lw_p3 : lw_okq (⟨"AddressTexts", "placeOf", "(CI)I"⟩, 7) := ⟨⟨by decide +kernel, by decide +kernel⟩, List.mem_of_getElem? (i := 6) (by decide +kernel), List.mem_of_getElem? (i := 84) (by decide +kernel), List.mem_of_getElem? (i := 85) (by decide +kernel)⟩
theorem lw_p4 : lw_okq (⟨"AddressTexts", "tapeAt", "(I)I"⟩, 7) := ⟨⟨by decide +kernel, by decide +kernel⟩, List.mem_of_getElem? (i := 6) (by decide +kernel), List.mem_of_getElem? (i := 88) (by decide +kernel), List.mem_of_getElem? (i := 89) (by decide +kernel)⟩
theorem lw_p5 : lw_okq (⟨"AddressTexts", "readSix", "()Z"⟩, 7) := ⟨⟨by decide +kernel, by decide +kernel⟩, List.mem_of_getElem? (i := 6) (by decide +kernel), List.mem_of_getElem? (i := 92) (by decide +kernel), List.mem_of_getElem? (i := 93) (by decide +kernel)⟩
theorem lw_p6 : lw_okq (⟨"AddressTexts", "placeOfGap", "()I"⟩, 7) := ⟨⟨by decide +kernel, by decide +kernel⟩, List.mem_of_getElem? (i := 6) (by decide +kernel), List.mem_of_getElem? (i := 104) (by decide +kernel), List.mem_of_getElem? (i := 105) (by decide +kernel)⟩
theorem lw_p7 : lw_okq (⟨"AddressTexts", "partsIn", "(II)I"⟩, 7) := ⟨⟨by decide +kernel, by decide +kernel⟩, List.mem_of_getElem? (i := 6) (by decide +kernel), List.mem_of_getElem? (i := 108) (by decide +kernel), List.mem_of_getElem? (i := 109) (by decide +kernel)⟩
theorem lw_p8 : lw_okq (⟨"AddressTexts", "readParts", "(III)Z"⟩, 7) := ⟨⟨by decide +kernel, by decide +kernel⟩, List.mem_of_getElem? (i := 6) (by decide +kernel), List.mem_of_getElem? (i := 112) (by decide +kernel), List.mem_of_getElem? (i := 113) (by decide +kernel)⟩
theorem lw_p9 : lw_okq (⟨"AddressTexts", "hexadecimalIn", "(II)I"⟩, 7) := ⟨⟨by decide +kernel, by decide +kernel⟩, List.mem_of_getElem? (i := 6) (by decide +kernel), List.mem_of_getElem? (i := 119) (by decide +kernel), List.mem_of_getElem? (i := 120) (by decide +kernel)⟩
theorem lw_p10 : lw_okq (⟨"AddressTexts", "digitAt", "(I)I"⟩, 7) := ⟨⟨by decide +kernel, by decide +kernel⟩, List.mem_of_getElem? (i := 6) (by decide +kernel), List.mem_of_getElem? (i := 123) (by decide +kernel), List.mem_of_getElem? (i := 124) (by decide +kernel)⟩
theorem lw_p11 : lw_okq (⟨"AddressTexts", "readFour", "()Z"⟩, 7) := ⟨⟨by decide +kernel, by decide +kernel⟩, List.mem_of_getElem? (i := 6) (by decide +kernel), List.mem_of_getElem? (i := 134) (by decide +kernel), List.mem_of_getElem? (i := 135) (by decide +kernel)⟩
theorem lw_p12 : lw_okq (⟨"AddressTexts", "decimalIn", "(III)I"⟩, 7) := ⟨⟨by decide +kernel, by decide +kernel⟩, List.mem_of_getElem? (i := 6) (by decide +kernel), List.mem_of_getElem? (i := 138) (by decide +kernel), List.mem_of_getElem? (i := 139) (by decide +kernel)⟩
theorem lw_p13 : lw_okq (⟨"AddressTexts$Address", "keptOfAll", "()I"⟩, 4) := ⟨⟨by decide +kernel, by decide +kernel⟩, List.mem_of_getElem? (i := 14) (by decide +kernel), List.mem_of_getElem? (i := 155) (by decide +kernel), List.mem_of_getElem? (i := 156) (by decide +kernel)⟩
theorem lw_p14 : lw_okq (⟨"AddressTexts", "writeNumbers", "()V"⟩, 7) := ⟨⟨by decide +kernel, by decide +kernel⟩, List.mem_of_getElem? (i := 6) (by decide +kernel), List.mem_of_getElem? (i := 187) (by decide +kernel), List.mem_of_getElem? (i := 188) (by decide +kernel)⟩
theorem lw_p15 : lw_okq (⟨"AddressTexts", "writeByte", "(I)V"⟩, 7) := ⟨⟨by decide +kernel, by decide +kernel⟩, List.mem_of_getElem? (i := 6) (by decide +kernel), List.mem_of_getElem? (i := 191) (by decide +kernel), List.mem_of_getElem? (i := 192) (by decide +kernel)⟩
def lw_privs_1 : List (MethodName × Nat) := [(⟨"AddressTexts", "tapeNumber", "(I)V"⟩, 7), (⟨"AddressTexts", "tapeByte", "(I)V"⟩, 7), (⟨"AddressTexts", "readText", "()Z"⟩, 7), (⟨"AddressTexts", "placeOf", "(CI)I"⟩, 7), (⟨"AddressTexts", "tapeAt", "(I)I"⟩, 7), (⟨"AddressTexts", "readSix", "()Z"⟩, 7), (⟨"AddressTexts", "placeOfGap", "()I"⟩, 7), (⟨"AddressTexts", "partsIn", "(II)I"⟩, 7), (⟨"AddressTexts", "readParts", "(III)Z"⟩, 7), (⟨"AddressTexts", "hexadecimalIn", "(II)I"⟩, 7), (⟨"AddressTexts", "digitAt", "(I)I"⟩, 7), (⟨"AddressTexts", "readFour", "()Z"⟩, 7), (⟨"AddressTexts", "decimalIn", "(III)I"⟩, 7), (⟨"AddressTexts$Address", "keptOfAll", "()I"⟩, 4), (⟨"AddressTexts", "writeNumbers", "()V"⟩, 7), (⟨"AddressTexts", "writeByte", "(I)V"⟩, 7)]
theorem lw_r1 : ∀ q ∈ lw_privs_1, lw_okq q := List.forall_mem_cons.mpr ⟨lw_p0, List.forall_mem_cons.mpr ⟨lw_p1, List.forall_mem_cons.mpr ⟨lw_p2, List.forall_mem_cons.mpr ⟨lw_p3, List.forall_mem_cons.mpr ⟨lw_p4, List.forall_mem_cons.mpr ⟨lw_p5, List.forall_mem_cons.mpr ⟨lw_p6, List.forall_mem_cons.mpr ⟨lw_p7, List.forall_mem_cons.mpr ⟨lw_p8, List.forall_mem_cons.mpr ⟨lw_p9, List.forall_mem_cons.mpr ⟨lw_p10, List.forall_mem_cons.mpr ⟨lw_p11, List.forall_mem_cons.mpr ⟨lw_p12, List.forall_mem_cons.mpr ⟨lw_p13, List.forall_mem_cons.mpr ⟨lw_p14, List.forall_mem_cons.mpr ⟨lw_p15, fun _ h => absurd h List.not_mem_nil⟩⟩⟩⟩⟩⟩⟩⟩⟩⟩⟩⟩⟩⟩⟩⟩
theorem lw_p16 : lw_okq (⟨"AddressTexts", "writeDecimal", "(I)V"⟩, 7) := ⟨⟨by decide +kernel, by decide +kernel⟩, List.mem_of_getElem? (i := 6) (by decide +kernel), List.mem_of_getElem? (i := 195) (by decide +kernel), List.mem_of_getElem? (i := 196) (by decide +kernel)⟩
theorem lw_p17 : lw_okq (⟨"AddressTexts", "writeDigit", "(I)V"⟩, 7) := ⟨⟨by decide +kernel, by decide +kernel⟩, List.mem_of_getElem? (i := 6) (by decide +kernel), List.mem_of_getElem? (i := 199) (by decide +kernel), List.mem_of_getElem? (i := 200) (by decide +kernel)⟩
theorem lw_p18 : lw_okq (⟨"AddressTexts", "writeParts", "()V"⟩, 7) := ⟨⟨by decide +kernel, by decide +kernel⟩, List.mem_of_getElem? (i := 6) (by decide +kernel), List.mem_of_getElem? (i := 203) (by decide +kernel), List.mem_of_getElem? (i := 204) (by decide +kernel)⟩
theorem lw_p19 : lw_okq (⟨"AddressTexts", "writeHexadecimal", "(I)V"⟩, 7) := ⟨⟨by decide +kernel, by decide +kernel⟩, List.mem_of_getElem? (i := 6) (by decide +kernel), List.mem_of_getElem? (i := 222) (by decide +kernel), List.mem_of_getElem? (i := 223) (by decide +kernel)⟩
theorem lw_p20 : lw_okq (⟨"AddressTextsModel", "lay", "(I)V"⟩, 10) := ⟨⟨by decide +kernel, by decide +kernel⟩, List.mem_of_getElem? (i := 234) (by decide +kernel), List.mem_of_getElem? (i := 276) (by decide +kernel), List.mem_of_getElem? (i := 277) (by decide +kernel)⟩
theorem lw_p21 : lw_okq (⟨"AddressTextsModel", "isSix", "()Z"⟩, 10) := ⟨⟨by decide +kernel, by decide +kernel⟩, List.mem_of_getElem? (i := 234) (by decide +kernel), List.mem_of_getElem? (i := 288) (by decide +kernel), List.mem_of_getElem? (i := 289) (by decide +kernel)⟩
theorem lw_p22 : lw_okq (⟨"AddressTextsModel", "isFour", "()Z"⟩, 10) := ⟨⟨by decide +kernel, by decide +kernel⟩, List.mem_of_getElem? (i := 234) (by decide +kernel), List.mem_of_getElem? (i := 298) (by decide +kernel), List.mem_of_getElem? (i := 299) (by decide +kernel)⟩
theorem lw_p23 : lw_okq (⟨"AddressTextsModel", "decimal", "(III)I"⟩, 10) := ⟨⟨by decide +kernel, by decide +kernel⟩, List.mem_of_getElem? (i := 234) (by decide +kernel), List.mem_of_getElem? (i := 302) (by decide +kernel), List.mem_of_getElem? (i := 303) (by decide +kernel)⟩
theorem lw_p24 : lw_okq (⟨"AddressTextsModel", "bit", "(II)I"⟩, 10) := ⟨⟨by decide +kernel, by decide +kernel⟩, List.mem_of_getElem? (i := 234) (by decide +kernel), List.mem_of_getElem? (i := 314) (by decide +kernel), List.mem_of_getElem? (i := 315) (by decide +kernel)⟩
theorem lw_p25 : lw_okq (⟨"AddressTextsModel", "say", "(I)V"⟩, 10) := ⟨⟨by decide +kernel, by decide +kernel⟩, List.mem_of_getElem? (i := 234) (by decide +kernel), List.mem_of_getElem? (i := 334) (by decide +kernel), List.mem_of_getElem? (i := 335) (by decide +kernel)⟩
theorem lw_p26 : lw_okq (⟨"AddressTextsModel", "sayDecimal", "(I)V"⟩, 10) := ⟨⟨by decide +kernel, by decide +kernel⟩, List.mem_of_getElem? (i := 234) (by decide +kernel), List.mem_of_getElem? (i := 338) (by decide +kernel), List.mem_of_getElem? (i := 339) (by decide +kernel)⟩
theorem lw_p27 : lw_okq (⟨"AddressTextsModel", "noughts", "(I)I"⟩, 10) := ⟨⟨by decide +kernel, by decide +kernel⟩, List.mem_of_getElem? (i := 234) (by decide +kernel), List.mem_of_getElem? (i := 342) (by decide +kernel), List.mem_of_getElem? (i := 343) (by decide +kernel)⟩
theorem lw_p28 : lw_okq (⟨"AddressTextsModel", "part", "(I)I"⟩, 10) := ⟨⟨by decide +kernel, by decide +kernel⟩, List.mem_of_getElem? (i := 234) (by decide +kernel), List.mem_of_getElem? (i := 346) (by decide +kernel), List.mem_of_getElem? (i := 347) (by decide +kernel)⟩
theorem lw_p29 : lw_okq (⟨"AddressTextsModel", "sayPart", "(I)V"⟩, 10) := ⟨⟨by decide +kernel, by decide +kernel⟩, List.mem_of_getElem? (i := 234) (by decide +kernel), List.mem_of_getElem? (i := 350) (by decide +kernel), List.mem_of_getElem? (i := 351) (by decide +kernel)⟩
def lw_privs_2 : List (MethodName × Nat) := [(⟨"AddressTexts", "writeDecimal", "(I)V"⟩, 7), (⟨"AddressTexts", "writeDigit", "(I)V"⟩, 7), (⟨"AddressTexts", "writeParts", "()V"⟩, 7), (⟨"AddressTexts", "writeHexadecimal", "(I)V"⟩, 7), (⟨"AddressTextsModel", "lay", "(I)V"⟩, 10), (⟨"AddressTextsModel", "isSix", "()Z"⟩, 10), (⟨"AddressTextsModel", "isFour", "()Z"⟩, 10), (⟨"AddressTextsModel", "decimal", "(III)I"⟩, 10), (⟨"AddressTextsModel", "bit", "(II)I"⟩, 10), (⟨"AddressTextsModel", "say", "(I)V"⟩, 10), (⟨"AddressTextsModel", "sayDecimal", "(I)V"⟩, 10), (⟨"AddressTextsModel", "noughts", "(I)I"⟩, 10), (⟨"AddressTextsModel", "part", "(I)I"⟩, 10), (⟨"AddressTextsModel", "sayPart", "(I)V"⟩, 10)]
theorem lw_r2 : ∀ q ∈ lw_privs_2, lw_okq q := List.forall_mem_cons.mpr ⟨lw_p16, List.forall_mem_cons.mpr ⟨lw_p17, List.forall_mem_cons.mpr ⟨lw_p18, List.forall_mem_cons.mpr ⟨lw_p19, List.forall_mem_cons.mpr ⟨lw_p20, List.forall_mem_cons.mpr ⟨lw_p21, List.forall_mem_cons.mpr ⟨lw_p22, List.forall_mem_cons.mpr ⟨lw_p23, List.forall_mem_cons.mpr ⟨lw_p24, List.forall_mem_cons.mpr ⟨lw_p25, List.forall_mem_cons.mpr ⟨lw_p26, List.forall_mem_cons.mpr ⟨lw_p27, List.forall_mem_cons.mpr ⟨lw_p28, List.forall_mem_cons.mpr ⟨lw_p29, fun _ h => absurd h List.not_mem_nil⟩⟩⟩⟩⟩⟩⟩⟩⟩⟩⟩⟩⟩⟩
def lw_privs : List (MethodName × Nat) := lw_privs_1 ++ (lw_privs_2)
def lw_tbl : List Cond := k2_sels lw_privs ++ tables_1
theorem lw_privs_ok : ∀ q ∈ lw_privs, lw_okq q := by
  show ∀ q ∈ lw_privs_1 ++ (lw_privs_2), lw_okq q
  exact List.forall_mem_append.mpr ⟨lw_r1, lw_r2⟩
end
section
/-! ===== BEGIN words of one list among another's, by their places ===== -/
theorem goodIn_r {big : List Cond} (ws : List Cond) (ps : List Nat) (hp : ws = ps.filterMap (fun i => big[i]?)) (h : ws.all goodWord = true) : GoodIn big ws := by
  intro w hw
  have h1 := List.all_eq_true.mp h w hw
  rw [hp] at hw
  obtain ⟨i, -, hi⟩ := List.mem_filterMap.mp hw
  have hm : w ∈ big := by first | exact List.mem_of_getElem? hi | exact List.getElem?_mem hi
  exact ⟨hm, good_of_word h1⟩
theorem goodIn_app {big a b : List Cond} (ha : GoodIn big a) (hb : GoodIn big b) : GoodIn big (a ++ b) := fun w h => (List.mem_append.mp h).elim (ha w) (hb w)
theorem goodIn_ca {big a b : List Cond} {c : Cond} (ha : GoodIn big (c :: a)) (hb : GoodIn big b) : GoodIn big (c :: (a ++ b)) := fun w h => (List.mem_cons.mp h).elim (fun e => ha w (List.mem_cons.mpr (Or.inl e))) (fun h => (List.mem_append.mp h).elim (fun h => ha w (List.mem_cons.mpr (Or.inr h))) (hb w))
theorem goodIn_sub {big ws : List Cond} (hm : ∀ w ∈ ws, w ∈ big) (h : ws.all goodWord = true) : GoodIn big ws := fun w hw => ⟨hm w hw, good_of_word (List.all_eq_true.mp h w hw)⟩
/-! ===== END ===== -/

/-! ===== BEGIN printed: names, fields, word lists, decode rows ===== -/
def RX0 : String := "AddressTexts$Address"
def TX0 : u_T := fun k => match k with
  | 0 => ("AddressTexts$Address", "family", "I", false)
  | 1 => ("AddressTexts$Address", "prefixLength", "I", false)
  | 2 => ("AddressTexts$Address", "upper", "J", false)
  | _ => ("AddressTexts$Address", "lower", "J", false)
def tyX0 : Nat → FieldType := fun k => match k with
  | 0 => .int
  | 1 => .int
  | 2 => .long
  | _ => .long
abbrev wsX00 : List Cond := u_ws RX0 TX0 4
theorem nmX0 : ∀ a, a < 4 → ∀ b, b < 4 → a ≠ b → (TX0 a).2.1 ≠ (TX0 b).2.1 := by decide +kernel
theorem tyX0_ok : ∀ k, k < 4 → parseFieldDescriptor (TX0 k).2.2.1 = some (tyX0 k) := by decide +kernel
abbrev cX0_init : ByteArray := prog_2_method_1_code
def yX0_init : MethodName := ⟨RX0, "<init>", "()V"⟩
abbrev cX0_clear : ByteArray := prog_2_method_2_code
def yX0_clear : MethodName := ⟨RX0, "clear", "(I)V"⟩
abbrev cX0_wholeLength : ByteArray := prog_2_method_3_code
def yX0_wholeLength : MethodName := ⟨RX0, "wholeLength", "()I"⟩
abbrev cX0_upperMask : ByteArray := prog_2_method_4_code
def yX0_upperMask : MethodName := ⟨RX0, "upperMask", "()J"⟩
abbrev cX0_lowerMask : ByteArray := prog_2_method_5_code
def yX0_lowerMask : MethodName := ⟨RX0, "lowerMask", "()J"⟩
abbrev cX0_keptOfAll : ByteArray := prog_2_method_6_code
def yX0_keptOfAll : MethodName := ⟨RX0, "keptOfAll", "()I"⟩
abbrev cX0_highestBits : ByteArray := prog_2_method_7_code
def yX0_highestBits : MethodName := ⟨RX0, "highestBits", "(I)J"⟩
abbrev cX0_part : ByteArray := prog_2_method_8_code
def yX0_part : MethodName := ⟨RX0, "part", "(I)I"⟩
abbrev cX0_setPart : ByteArray := prog_2_method_9_code
def yX0_setPart : MethodName := ⟨RX0, "setPart", "(II)V"⟩
abbrev cX0_shiftOf : ByteArray := prog_2_method_10_code
def yX0_shiftOf : MethodName := ⟨RX0, "shiftOf", "(I)I"⟩
abbrev cX0_zerosFrom : ByteArray := prog_2_method_11_code
def yX0_zerosFrom : MethodName := ⟨RX0, "zerosFrom", "(I)I"⟩
abbrev cX0_longestRowOfZeros : ByteArray := prog_2_method_12_code
def yX0_longestRowOfZeros : MethodName := ⟨RX0, "longestRowOfZeros", "()I"⟩
def RX1 : String := "AddressTexts"
def TX1 : u_T := fun k => match k with
  | 0 => ("AddressTexts", "tape", "[B", true)
  | 1 => ("AddressTexts", "tapeCount", "I", false)
  | 2 => ("AddressTexts", "written", "[B", true)
  | 3 => ("AddressTexts", "writtenCount", "I", false)
  | 4 => ("AddressTexts", "one", "LAddressTexts$Address;", false)
  | 5 => ("AddressTexts", "two", "LAddressTexts$Address;", false)
  | _ => ("AddressTexts", "spare", "LAddressTexts$Address;", false)
def tyX1 : Nat → FieldType := fun k => match k with
  | 0 => .array .byte
  | 1 => .int
  | 2 => .array .byte
  | 3 => .int
  | 4 => .object "AddressTexts$Address"
  | 5 => .object "AddressTexts$Address"
  | _ => .object "AddressTexts$Address"
abbrev wsX10 : List Cond := u_ws RX1 TX1 7
theorem nmX1 : ∀ a, a < 7 → ∀ b, b < 7 → a ≠ b → (TX1 a).2.1 ≠ (TX1 b).2.1 := by decide +kernel
theorem tyX1_ok : ∀ k, k < 7 → parseFieldDescriptor (TX1 k).2.2.1 = some (tyX1 k) := by decide +kernel
abbrev cX1_init : ByteArray := prog_1_method_1_code
def yX1_init : MethodName := ⟨RX1, "<init>", "()V"⟩
abbrev cX1_feed : ByteArray := prog_1_method_2_code
def yX1_feed : MethodName := ⟨RX1, "feed", "(IIIII)Z"⟩
abbrev cX1_end : ByteArray := prog_1_method_3_code
def yX1_end : MethodName := ⟨RX1, "end", "(I)Z"⟩
abbrev cX1_read : ByteArray := prog_1_method_4_code
def yX1_read : MethodName := ⟨RX1, "read", "()I"⟩
abbrev cX1_length : ByteArray := prog_1_method_5_code
def yX1_length : MethodName := ⟨RX1, "length", "()I"⟩
abbrev cX1_cut : ByteArray := prog_1_method_6_code
def yX1_cut : MethodName := ⟨RX1, "cut", "()Z"⟩
abbrev cX1_covers : ByteArray := prog_1_method_7_code
def yX1_covers : MethodName := ⟨RX1, "covers", "()Z"⟩
abbrev cX1_order : ByteArray := prog_1_method_8_code
def yX1_order : MethodName := ⟨RX1, "order", "()I"⟩
abbrev cX1_turn : ByteArray := prog_1_method_9_code
def yX1_turn : MethodName := ⟨RX1, "turn", "()V"⟩
abbrev cX1_write : ByteArray := prog_1_method_10_code
def yX1_write : MethodName := ⟨RX1, "write", "()I"⟩
abbrev cX1_writtenAt : ByteArray := prog_1_method_11_code
def yX1_writtenAt : MethodName := ⟨RX1, "writtenAt", "(I)I"⟩
abbrev cX1_bits : ByteArray := prog_1_method_12_code
def yX1_bits : MethodName := ⟨RX1, "bits", "(I)J"⟩
abbrev cX1_tapeNumber : ByteArray := prog_1_method_13_code
def yX1_tapeNumber : MethodName := ⟨RX1, "tapeNumber", "(I)V"⟩
abbrev cX1_tapeByte : ByteArray := prog_1_method_14_code
def yX1_tapeByte : MethodName := ⟨RX1, "tapeByte", "(I)V"⟩
abbrev cX1_tapeAt : ByteArray := prog_1_method_15_code
def yX1_tapeAt : MethodName := ⟨RX1, "tapeAt", "(I)I"⟩
abbrev cX1_placeOf : ByteArray := prog_1_method_16_code
def yX1_placeOf : MethodName := ⟨RX1, "placeOf", "(CI)I"⟩
abbrev cX1_placeOfGap : ByteArray := prog_1_method_17_code
def yX1_placeOfGap : MethodName := ⟨RX1, "placeOfGap", "()I"⟩
abbrev cX1_readText : ByteArray := prog_1_method_18_code
def yX1_readText : MethodName := ⟨RX1, "readText", "()Z"⟩
abbrev cX1_readFour : ByteArray := prog_1_method_19_code
def yX1_readFour : MethodName := ⟨RX1, "readFour", "()Z"⟩
abbrev cX1_readSix : ByteArray := prog_1_method_20_code
def yX1_readSix : MethodName := ⟨RX1, "readSix", "()Z"⟩
abbrev cX1_partsIn : ByteArray := prog_1_method_21_code
def yX1_partsIn : MethodName := ⟨RX1, "partsIn", "(II)I"⟩
abbrev cX1_readParts : ByteArray := prog_1_method_22_code
def yX1_readParts : MethodName := ⟨RX1, "readParts", "(III)Z"⟩
abbrev cX1_decimalIn : ByteArray := prog_1_method_23_code
def yX1_decimalIn : MethodName := ⟨RX1, "decimalIn", "(III)I"⟩
abbrev cX1_hexadecimalIn : ByteArray := prog_1_method_24_code
def yX1_hexadecimalIn : MethodName := ⟨RX1, "hexadecimalIn", "(II)I"⟩
abbrev cX1_digitAt : ByteArray := prog_1_method_25_code
def yX1_digitAt : MethodName := ⟨RX1, "digitAt", "(I)I"⟩
abbrev cX1_writeNumbers : ByteArray := prog_1_method_26_code
def yX1_writeNumbers : MethodName := ⟨RX1, "writeNumbers", "()V"⟩
abbrev cX1_writeParts : ByteArray := prog_1_method_27_code
def yX1_writeParts : MethodName := ⟨RX1, "writeParts", "()V"⟩
abbrev cX1_writeDecimal : ByteArray := prog_1_method_28_code
def yX1_writeDecimal : MethodName := ⟨RX1, "writeDecimal", "(I)V"⟩
abbrev cX1_writeHexadecimal : ByteArray := prog_1_method_29_code
def yX1_writeHexadecimal : MethodName := ⟨RX1, "writeHexadecimal", "(I)V"⟩
abbrev cX1_writeDigit : ByteArray := prog_1_method_30_code
def yX1_writeDigit : MethodName := ⟨RX1, "writeDigit", "(I)V"⟩
abbrev cX1_writeByte : ByteArray := prog_1_method_31_code
def yX1_writeByte : MethodName := ⟨RX1, "writeByte", "(I)V"⟩
abbrev cX1_isBelow : ByteArray := prog_1_method_32_code
def yX1_isBelow : MethodName := ⟨RX1, "isBelow", "(JJ)Z"⟩
def RX2 : String := "AddressTextsModel"
def RL : String := "AddressTextsLaw"
abbrev cL_law : ByteArray := code
def yL_law : MethodName := ⟨RL, "law", "([I)Z"⟩
def wsX0_init : List Cond := .code yX0_init cX0_init 1 none :: ([.methodLink RX0 3 objectInit, .instanceMethod objectInit, .code objectInit ⟨#[0xb1]⟩ 1 none, .fieldLink RX0 9 "AddressTexts$Address" "family" "I", .fieldLink RX0 15 "AddressTexts$Address" "prefixLength" "I", .fieldLink RX0 18 "AddressTexts$Address" "upper" "J", .fieldLink RX0 22 "AddressTexts$Address" "lower" "J"] ++ wsX00)
def wsX0_wholeLength : List Cond := .code yX0_wholeLength cX0_wholeLength 1 (some .int) :: ([.fieldLink RX0 9 "AddressTexts$Address" "family" "I"] ++ wsX00)
def wsX0_clear : List Cond := .code yX0_clear cX0_clear 2 none :: ([.fieldLink RX0 9 "AddressTexts$Address" "family" "I", .fieldLink RX0 15 "AddressTexts$Address" "prefixLength" "I", .fieldLink RX0 18 "AddressTexts$Address" "upper" "J", .fieldLink RX0 22 "AddressTexts$Address" "lower" "J", .methodLink RX0 25 yX0_wholeLength, .instanceMethod yX0_wholeLength, .selects RX0 yX0_wholeLength yX0_wholeLength, .initialized RX0, .code yX0_wholeLength cX0_wholeLength 1 (some .int)] ++ wsX00)
def wsX0_keptOfAll : List Cond := .code yX0_keptOfAll cX0_keptOfAll 1 (some .int) :: ([.fieldLink RX0 15 "AddressTexts$Address" "prefixLength" "I", .methodLink RX0 25 yX0_wholeLength, .instanceMethod yX0_wholeLength, .selects RX0 yX0_wholeLength yX0_wholeLength, .initialized RX0, .code yX0_wholeLength cX0_wholeLength 1 (some .int), .fieldLink RX0 9 "AddressTexts$Address" "family" "I"] ++ wsX00)
def wsX0_highestBits : List Cond := .code yX0_highestBits cX0_highestBits 1 (some .long) :: ([.constantLong RX0 36 (-1)])
def wsX0_upperMask : List Cond := .code yX0_upperMask cX0_upperMask 1 (some .long) :: ([.methodLink RX0 29 yX0_keptOfAll, .instanceMethod yX0_keptOfAll, .selects RX0 yX0_keptOfAll yX0_keptOfAll, .initialized RX0, .code yX0_keptOfAll cX0_keptOfAll 1 (some .int), .fieldLink RX0 15 "AddressTexts$Address" "prefixLength" "I", .methodLink RX0 25 yX0_wholeLength, .instanceMethod yX0_wholeLength, .selects RX0 yX0_wholeLength yX0_wholeLength, .code yX0_wholeLength cX0_wholeLength 1 (some .int), .fieldLink RX0 9 "AddressTexts$Address" "family" "I", .methodLink RX0 32 yX0_highestBits, .static yX0_highestBits, .code yX0_highestBits cX0_highestBits 1 (some .long), .constantLong RX0 36 (-1)] ++ wsX00)
def wsX0_lowerMask : List Cond := .code yX0_lowerMask cX0_lowerMask 1 (some .long) :: ([.methodLink RX0 29 yX0_keptOfAll, .instanceMethod yX0_keptOfAll, .selects RX0 yX0_keptOfAll yX0_keptOfAll, .initialized RX0, .code yX0_keptOfAll cX0_keptOfAll 1 (some .int), .fieldLink RX0 15 "AddressTexts$Address" "prefixLength" "I", .methodLink RX0 25 yX0_wholeLength, .instanceMethod yX0_wholeLength, .selects RX0 yX0_wholeLength yX0_wholeLength, .code yX0_wholeLength cX0_wholeLength 1 (some .int), .fieldLink RX0 9 "AddressTexts$Address" "family" "I", .methodLink RX0 32 yX0_highestBits, .static yX0_highestBits, .code yX0_highestBits cX0_highestBits 1 (some .long), .constantLong RX0 36 (-1)] ++ wsX00)
def wsX0_shiftOf : List Cond := .code yX0_shiftOf cX0_shiftOf 1 (some .int) :: ([])
def wsX0_part : List Cond := .code yX0_part cX0_part 4 (some .int) :: ([.fieldLink RX0 18 "AddressTexts$Address" "upper" "J", .fieldLink RX0 22 "AddressTexts$Address" "lower" "J", .constant RX0 42 (65535), .methodLink RX0 38 yX0_shiftOf, .static yX0_shiftOf, .initialized RX0, .code yX0_shiftOf cX0_shiftOf 1 (some .int)] ++ wsX00)
def wsX0_setPart : List Cond := .code yX0_setPart cX0_setPart 5 none :: ([.fieldLink RX0 18 "AddressTexts$Address" "upper" "J", .fieldLink RX0 22 "AddressTexts$Address" "lower" "J", .methodLink RX0 38 yX0_shiftOf, .static yX0_shiftOf, .initialized RX0, .code yX0_shiftOf cX0_shiftOf 1 (some .int)] ++ wsX00)
def wsX0_zerosFrom : List Cond := .code yX0_zerosFrom cX0_zerosFrom 3 (some .int) :: ([.methodLink RX0 43 yX0_part, .instanceMethod yX0_part, .selects RX0 yX0_part yX0_part, .initialized RX0, .code yX0_part cX0_part 4 (some .int), .fieldLink RX0 18 "AddressTexts$Address" "upper" "J", .fieldLink RX0 22 "AddressTexts$Address" "lower" "J", .constant RX0 42 (65535), .methodLink RX0 38 yX0_shiftOf, .static yX0_shiftOf, .code yX0_shiftOf cX0_shiftOf 1 (some .int)] ++ wsX00)
def wsX0_longestRowOfZeros : List Cond := .code yX0_longestRowOfZeros cX0_longestRowOfZeros 5 (some .int) :: ([.methodLink RX0 46 yX0_zerosFrom, .instanceMethod yX0_zerosFrom, .selects RX0 yX0_zerosFrom yX0_zerosFrom, .initialized RX0, .code yX0_zerosFrom cX0_zerosFrom 3 (some .int), .methodLink RX0 43 yX0_part, .instanceMethod yX0_part, .selects RX0 yX0_part yX0_part, .code yX0_part cX0_part 4 (some .int), .fieldLink RX0 18 "AddressTexts$Address" "upper" "J", .fieldLink RX0 22 "AddressTexts$Address" "lower" "J", .constant RX0 42 (65535), .methodLink RX0 38 yX0_shiftOf, .static yX0_shiftOf, .code yX0_shiftOf cX0_shiftOf 1 (some .int)] ++ wsX00)
def wsX1_init : List Cond := .code yX1_init cX1_init 1 none :: ([.methodLink RX1 1 objectInit, .instanceMethod objectInit, .code objectInit ⟨#[0xb1]⟩ 1 none, .arrayClass .byte, .fieldLink RX1 9 "AddressTexts" "tape" "[B", .fieldLink RX1 13 "AddressTexts" "tapeCount" "I", .fieldLink RX1 17 "AddressTexts" "written" "[B", .fieldLink RX1 20 "AddressTexts" "writtenCount" "I", .classLink RX1 23 RX0, .instantiable RX0 4, .initialized RX0, .fieldLink RX1 26 "AddressTexts" "one" "LAddressTexts$Address;", .fieldLink RX1 30 "AddressTexts" "two" "LAddressTexts$Address;", .fieldLink RX1 33 "AddressTexts" "spare" "LAddressTexts$Address;", .methodLink RX1 25 yX0_init, .instanceMethod yX0_init, .code yX0_init cX0_init 1 none, .methodLink RX0 3 objectInit, .fieldLink RX0 9 "AddressTexts$Address" "family" "I", .fieldLink RX0 15 "AddressTexts$Address" "prefixLength" "I", .fieldLink RX0 18 "AddressTexts$Address" "upper" "J", .fieldLink RX0 22 "AddressTexts$Address" "lower" "J"] ++ wsX10 ++ wsX00)
def wsX1_tapeByte : List Cond := .code yX1_tapeByte cX1_tapeByte 2 none :: ([.fieldLink RX1 13 "AddressTexts" "tapeCount" "I", .fieldLink RX1 9 "AddressTexts" "tape" "[B"] ++ wsX10)
def wsX1_tapeNumber : List Cond := .code yX1_tapeNumber cX1_tapeNumber 3 none :: ([.methodLink RX1 82 yX1_tapeByte, .instanceMethod yX1_tapeByte, .selects RX1 yX1_tapeByte yX1_tapeByte, .initialized RX1, .code yX1_tapeByte cX1_tapeByte 2 none, .fieldLink RX1 13 "AddressTexts" "tapeCount" "I", .fieldLink RX1 9 "AddressTexts" "tape" "[B"] ++ wsX10)
def wsX1_feed : List Cond := .code yX1_feed cX1_feed 6 (some .boolean) :: ([.fieldLink RX1 13 "AddressTexts" "tapeCount" "I", .methodLink RX1 36 yX1_tapeNumber, .instanceMethod yX1_tapeNumber, .selects RX1 yX1_tapeNumber yX1_tapeNumber, .initialized RX1, .code yX1_tapeNumber cX1_tapeNumber 3 none, .methodLink RX1 82 yX1_tapeByte, .instanceMethod yX1_tapeByte, .selects RX1 yX1_tapeByte yX1_tapeByte, .code yX1_tapeByte cX1_tapeByte 2 none, .fieldLink RX1 9 "AddressTexts" "tape" "[B"] ++ wsX10)
def wsX1_end : List Cond := .code yX1_end cX1_end 2 (some .boolean) :: ([.fieldLink RX1 13 "AddressTexts" "tapeCount" "I"] ++ wsX10)
def wsX1_tapeAt : List Cond := .code yX1_tapeAt cX1_tapeAt 2 (some .int) :: ([.fieldLink RX1 13 "AddressTexts" "tapeCount" "I", .fieldLink RX1 9 "AddressTexts" "tape" "[B"] ++ wsX10)
def wsX1_placeOf : List Cond := .code yX1_placeOf cX1_placeOf 4 (some .int) :: ([.fieldLink RX1 13 "AddressTexts" "tapeCount" "I", .methodLink RX1 85 yX1_tapeAt, .instanceMethod yX1_tapeAt, .selects RX1 yX1_tapeAt yX1_tapeAt, .initialized RX1, .code yX1_tapeAt cX1_tapeAt 2 (some .int), .fieldLink RX1 9 "AddressTexts" "tape" "[B"] ++ wsX10)
def wsX1_placeOfGap : List Cond := .code yX1_placeOfGap cX1_placeOfGap 2 (some .int) :: ([.fieldLink RX1 13 "AddressTexts" "tapeCount" "I", .methodLink RX1 85 yX1_tapeAt, .instanceMethod yX1_tapeAt, .selects RX1 yX1_tapeAt yX1_tapeAt, .initialized RX1, .code yX1_tapeAt cX1_tapeAt 2 (some .int), .fieldLink RX1 9 "AddressTexts" "tape" "[B"] ++ wsX10)
def wsX1_partsIn : List Cond := .code yX1_partsIn cX1_partsIn 5 (some .int) :: ([.methodLink RX1 85 yX1_tapeAt, .instanceMethod yX1_tapeAt, .selects RX1 yX1_tapeAt yX1_tapeAt, .initialized RX1, .code yX1_tapeAt cX1_tapeAt 2 (some .int), .fieldLink RX1 13 "AddressTexts" "tapeCount" "I", .fieldLink RX1 9 "AddressTexts" "tape" "[B"] ++ wsX10)
def wsX1_digitAt : List Cond := .code yX1_digitAt cX1_digitAt 3 (some .int) :: ([.methodLink RX1 85 yX1_tapeAt, .instanceMethod yX1_tapeAt, .selects RX1 yX1_tapeAt yX1_tapeAt, .initialized RX1, .code yX1_tapeAt cX1_tapeAt 2 (some .int), .fieldLink RX1 13 "AddressTexts" "tapeCount" "I", .fieldLink RX1 9 "AddressTexts" "tape" "[B"] ++ wsX10)
def wsX1_hexadecimalIn : List Cond := .code yX1_hexadecimalIn cX1_hexadecimalIn 6 (some .int) :: ([.methodLink RX1 125 yX1_digitAt, .instanceMethod yX1_digitAt, .selects RX1 yX1_digitAt yX1_digitAt, .initialized RX1, .code yX1_digitAt cX1_digitAt 3 (some .int), .methodLink RX1 85 yX1_tapeAt, .instanceMethod yX1_tapeAt, .selects RX1 yX1_tapeAt yX1_tapeAt, .code yX1_tapeAt cX1_tapeAt 2 (some .int), .fieldLink RX1 13 "AddressTexts" "tapeCount" "I", .fieldLink RX1 9 "AddressTexts" "tape" "[B"] ++ wsX10)
def wsX1_readParts_r1 : List Cond := [Cond.methodLink RX1 113 Lib.Math.min.name, Cond.static Lib.Math.min.name, Cond.initialized "java/lang/Math", Cond.code Lib.Math.min.name Lib.Math.min.code 2 (some .int), Cond.fieldLink RX1 33 "AddressTexts" "spare" "LAddressTexts$Address;", Cond.methodLink RX1 105 yX1_partsIn, Cond.instanceMethod yX1_partsIn, Cond.selects RX1 yX1_partsIn yX1_partsIn, Cond.initialized RX1, Cond.code yX1_partsIn cX1_partsIn 5 (some .int), Cond.methodLink RX1 85 yX1_tapeAt, Cond.instanceMethod yX1_tapeAt, Cond.selects RX1 yX1_tapeAt yX1_tapeAt, Cond.code yX1_tapeAt cX1_tapeAt 2 (some .int), Cond.fieldLink RX1 13 "AddressTexts" "tapeCount" "I", Cond.fieldLink RX1 9 "AddressTexts" "tape" "[B", Cond.methodLink RX1 89 yX1_placeOf, Cond.instanceMethod yX1_placeOf, Cond.selects RX1 yX1_placeOf yX1_placeOf, Cond.code yX1_placeOf cX1_placeOf 4 (some .int), Cond.methodLink RX1 118 yX1_hexadecimalIn, Cond.instanceMethod yX1_hexadecimalIn, Cond.selects RX1 yX1_hexadecimalIn yX1_hexadecimalIn, Cond.code yX1_hexadecimalIn cX1_hexadecimalIn 6 (some .int)]
def wsX1_readParts_r2 : List Cond := [Cond.methodLink RX1 125 yX1_digitAt, Cond.instanceMethod yX1_digitAt, Cond.selects RX1 yX1_digitAt yX1_digitAt, Cond.code yX1_digitAt cX1_digitAt 3 (some .int), Cond.methodLink RX1 121 yX0_setPart, Cond.instanceMethod yX0_setPart, Cond.selects RX0 yX0_setPart yX0_setPart, Cond.initialized RX0, Cond.code yX0_setPart cX0_setPart 5 none, Cond.fieldLink RX0 18 "AddressTexts$Address" "upper" "J", Cond.fieldLink RX0 22 "AddressTexts$Address" "lower" "J", Cond.methodLink RX0 38 yX0_shiftOf, Cond.static yX0_shiftOf, Cond.code yX0_shiftOf cX0_shiftOf 1 (some .int)]
def wsX1_readParts : List Cond := .code yX1_readParts cX1_readParts 9 (some .boolean) :: ((wsX1_readParts_r1 ++ wsX1_readParts_r2) ++ wsX10 ++ wsX00)
def wsX1_readSix_r1 : List Cond := [Cond.fieldLink RX1 33 "AddressTexts" "spare" "LAddressTexts$Address;", Cond.fieldLink RX1 13 "AddressTexts" "tapeCount" "I", Cond.methodLink RX1 99 yX0_clear, Cond.instanceMethod yX0_clear, Cond.selects RX0 yX0_clear yX0_clear, Cond.initialized RX0, Cond.code yX0_clear cX0_clear 2 none, Cond.fieldLink RX0 9 "AddressTexts$Address" "family" "I", Cond.fieldLink RX0 15 "AddressTexts$Address" "prefixLength" "I", Cond.fieldLink RX0 18 "AddressTexts$Address" "upper" "J", Cond.fieldLink RX0 22 "AddressTexts$Address" "lower" "J", Cond.methodLink RX0 25 yX0_wholeLength, Cond.instanceMethod yX0_wholeLength, Cond.selects RX0 yX0_wholeLength yX0_wholeLength, Cond.code yX0_wholeLength cX0_wholeLength 1 (some .int), Cond.methodLink RX1 102 yX1_placeOfGap, Cond.instanceMethod yX1_placeOfGap, Cond.selects RX1 yX1_placeOfGap yX1_placeOfGap, Cond.initialized RX1, Cond.code yX1_placeOfGap cX1_placeOfGap 2 (some .int), Cond.methodLink RX1 85 yX1_tapeAt, Cond.instanceMethod yX1_tapeAt, Cond.selects RX1 yX1_tapeAt yX1_tapeAt, Cond.code yX1_tapeAt cX1_tapeAt 2 (some .int)]
def wsX1_readSix_r2 : List Cond := [Cond.fieldLink RX1 9 "AddressTexts" "tape" "[B", Cond.methodLink RX1 105 yX1_partsIn, Cond.instanceMethod yX1_partsIn, Cond.selects RX1 yX1_partsIn yX1_partsIn, Cond.code yX1_partsIn cX1_partsIn 5 (some .int), Cond.methodLink RX1 109 yX1_readParts, Cond.instanceMethod yX1_readParts, Cond.selects RX1 yX1_readParts yX1_readParts, Cond.code yX1_readParts cX1_readParts 9 (some .boolean), Cond.methodLink RX1 113 Lib.Math.min.name, Cond.static Lib.Math.min.name, Cond.initialized "java/lang/Math", Cond.code Lib.Math.min.name Lib.Math.min.code 2 (some .int), Cond.methodLink RX1 89 yX1_placeOf, Cond.instanceMethod yX1_placeOf, Cond.selects RX1 yX1_placeOf yX1_placeOf, Cond.code yX1_placeOf cX1_placeOf 4 (some .int), Cond.methodLink RX1 118 yX1_hexadecimalIn, Cond.instanceMethod yX1_hexadecimalIn, Cond.selects RX1 yX1_hexadecimalIn yX1_hexadecimalIn, Cond.code yX1_hexadecimalIn cX1_hexadecimalIn 6 (some .int), Cond.methodLink RX1 125 yX1_digitAt, Cond.instanceMethod yX1_digitAt, Cond.selects RX1 yX1_digitAt yX1_digitAt]
def wsX1_readSix_r3 : List Cond := [Cond.code yX1_digitAt cX1_digitAt 3 (some .int), Cond.methodLink RX1 121 yX0_setPart, Cond.instanceMethod yX0_setPart, Cond.selects RX0 yX0_setPart yX0_setPart, Cond.code yX0_setPart cX0_setPart 5 none, Cond.methodLink RX0 38 yX0_shiftOf, Cond.static yX0_shiftOf, Cond.code yX0_shiftOf cX0_shiftOf 1 (some .int)]
def wsX1_readSix : List Cond := .code yX1_readSix cX1_readSix 5 (some .boolean) :: ((wsX1_readSix_r1 ++ (wsX1_readSix_r2 ++ wsX1_readSix_r3)) ++ wsX10 ++ wsX00)
def wsX1_decimalIn : List Cond := .code yX1_decimalIn cX1_decimalIn 8 (some .int) :: ([.methodLink RX1 85 yX1_tapeAt, .instanceMethod yX1_tapeAt, .selects RX1 yX1_tapeAt yX1_tapeAt, .initialized RX1, .code yX1_tapeAt cX1_tapeAt 2 (some .int), .fieldLink RX1 13 "AddressTexts" "tapeCount" "I", .fieldLink RX1 9 "AddressTexts" "tape" "[B", .methodLink RX1 125 yX1_digitAt, .instanceMethod yX1_digitAt, .selects RX1 yX1_digitAt yX1_digitAt, .code yX1_digitAt cX1_digitAt 3 (some .int)] ++ wsX10)
def wsX1_readFour_r1 : List Cond := [Cond.fieldLink RX1 33 "AddressTexts" "spare" "LAddressTexts$Address;", Cond.fieldLink RX1 66 "AddressTexts$Address" "lower" "J", Cond.fieldLink RX1 13 "AddressTexts" "tapeCount" "I", Cond.methodLink RX1 99 yX0_clear, Cond.instanceMethod yX0_clear, Cond.selects RX0 yX0_clear yX0_clear, Cond.initialized RX0, Cond.code yX0_clear cX0_clear 2 none, Cond.fieldLink RX0 9 "AddressTexts$Address" "family" "I", Cond.fieldLink RX0 15 "AddressTexts$Address" "prefixLength" "I", Cond.fieldLink RX0 18 "AddressTexts$Address" "upper" "J", Cond.fieldLink RX0 22 "AddressTexts$Address" "lower" "J", Cond.methodLink RX0 25 yX0_wholeLength, Cond.instanceMethod yX0_wholeLength, Cond.selects RX0 yX0_wholeLength yX0_wholeLength, Cond.code yX0_wholeLength cX0_wholeLength 1 (some .int), Cond.methodLink RX1 89 yX1_placeOf, Cond.instanceMethod yX1_placeOf, Cond.selects RX1 yX1_placeOf yX1_placeOf, Cond.initialized RX1, Cond.code yX1_placeOf cX1_placeOf 4 (some .int), Cond.methodLink RX1 85 yX1_tapeAt, Cond.instanceMethod yX1_tapeAt, Cond.selects RX1 yX1_tapeAt yX1_tapeAt]
def wsX1_readFour_r2 : List Cond := [Cond.code yX1_tapeAt cX1_tapeAt 2 (some .int), Cond.fieldLink RX1 9 "AddressTexts" "tape" "[B", Cond.methodLink RX1 51 yX1_decimalIn, Cond.instanceMethod yX1_decimalIn, Cond.selects RX1 yX1_decimalIn yX1_decimalIn, Cond.code yX1_decimalIn cX1_decimalIn 8 (some .int), Cond.methodLink RX1 125 yX1_digitAt, Cond.instanceMethod yX1_digitAt, Cond.selects RX1 yX1_digitAt yX1_digitAt, Cond.code yX1_digitAt cX1_digitAt 3 (some .int)]
def wsX1_readFour : List Cond := .code yX1_readFour cX1_readFour 5 (some .boolean) :: ((wsX1_readFour_r1 ++ wsX1_readFour_r2) ++ wsX10 ++ wsX00)
def wsX1_readText_r1 : List Cond := [Cond.fieldLink RX1 13 "AddressTexts" "tapeCount" "I", Cond.methodLink RX1 89 yX1_placeOf, Cond.instanceMethod yX1_placeOf, Cond.selects RX1 yX1_placeOf yX1_placeOf, Cond.initialized RX1, Cond.code yX1_placeOf cX1_placeOf 4 (some .int), Cond.methodLink RX1 85 yX1_tapeAt, Cond.instanceMethod yX1_tapeAt, Cond.selects RX1 yX1_tapeAt yX1_tapeAt, Cond.code yX1_tapeAt cX1_tapeAt 2 (some .int), Cond.fieldLink RX1 9 "AddressTexts" "tape" "[B", Cond.methodLink RX1 93 yX1_readSix, Cond.instanceMethod yX1_readSix, Cond.selects RX1 yX1_readSix yX1_readSix, Cond.code yX1_readSix cX1_readSix 5 (some .boolean), Cond.fieldLink RX1 33 "AddressTexts" "spare" "LAddressTexts$Address;", Cond.methodLink RX1 99 yX0_clear, Cond.instanceMethod yX0_clear, Cond.selects RX0 yX0_clear yX0_clear, Cond.initialized RX0, Cond.code yX0_clear cX0_clear 2 none, Cond.fieldLink RX0 9 "AddressTexts$Address" "family" "I", Cond.fieldLink RX0 15 "AddressTexts$Address" "prefixLength" "I", Cond.fieldLink RX0 18 "AddressTexts$Address" "upper" "J"]
def wsX1_readText_r2 : List Cond := [Cond.fieldLink RX0 22 "AddressTexts$Address" "lower" "J", Cond.methodLink RX0 25 yX0_wholeLength, Cond.instanceMethod yX0_wholeLength, Cond.selects RX0 yX0_wholeLength yX0_wholeLength, Cond.code yX0_wholeLength cX0_wholeLength 1 (some .int), Cond.methodLink RX1 102 yX1_placeOfGap, Cond.instanceMethod yX1_placeOfGap, Cond.selects RX1 yX1_placeOfGap yX1_placeOfGap, Cond.code yX1_placeOfGap cX1_placeOfGap 2 (some .int), Cond.methodLink RX1 105 yX1_partsIn, Cond.instanceMethod yX1_partsIn, Cond.selects RX1 yX1_partsIn yX1_partsIn, Cond.code yX1_partsIn cX1_partsIn 5 (some .int), Cond.methodLink RX1 109 yX1_readParts, Cond.instanceMethod yX1_readParts, Cond.selects RX1 yX1_readParts yX1_readParts, Cond.code yX1_readParts cX1_readParts 9 (some .boolean), Cond.methodLink RX1 113 Lib.Math.min.name, Cond.static Lib.Math.min.name, Cond.initialized "java/lang/Math", Cond.code Lib.Math.min.name Lib.Math.min.code 2 (some .int), Cond.methodLink RX1 118 yX1_hexadecimalIn, Cond.instanceMethod yX1_hexadecimalIn, Cond.selects RX1 yX1_hexadecimalIn yX1_hexadecimalIn]
def wsX1_readText_r3 : List Cond := [Cond.code yX1_hexadecimalIn cX1_hexadecimalIn 6 (some .int), Cond.methodLink RX1 125 yX1_digitAt, Cond.instanceMethod yX1_digitAt, Cond.selects RX1 yX1_digitAt yX1_digitAt, Cond.code yX1_digitAt cX1_digitAt 3 (some .int), Cond.methodLink RX1 121 yX0_setPart, Cond.instanceMethod yX0_setPart, Cond.selects RX0 yX0_setPart yX0_setPart, Cond.code yX0_setPart cX0_setPart 5 none, Cond.methodLink RX0 38 yX0_shiftOf, Cond.static yX0_shiftOf, Cond.code yX0_shiftOf cX0_shiftOf 1 (some .int), Cond.methodLink RX1 96 yX1_readFour, Cond.instanceMethod yX1_readFour, Cond.selects RX1 yX1_readFour yX1_readFour, Cond.code yX1_readFour cX1_readFour 5 (some .boolean), Cond.fieldLink RX1 66 "AddressTexts$Address" "lower" "J", Cond.methodLink RX1 51 yX1_decimalIn, Cond.instanceMethod yX1_decimalIn, Cond.selects RX1 yX1_decimalIn yX1_decimalIn, Cond.code yX1_decimalIn cX1_decimalIn 8 (some .int)]
def wsX1_readText : List Cond := .code yX1_readText cX1_readText 1 (some .boolean) :: ((wsX1_readText_r1 ++ (wsX1_readText_r2 ++ wsX1_readText_r3)) ++ wsX10 ++ wsX00)
def wsX1_read_r1 : List Cond := [Cond.fieldLink RX1 13 "AddressTexts" "tapeCount" "I", Cond.fieldLink RX1 30 "AddressTexts" "two" "LAddressTexts$Address;", Cond.fieldLink RX1 26 "AddressTexts" "one" "LAddressTexts$Address;", Cond.fieldLink RX1 33 "AddressTexts" "spare" "LAddressTexts$Address;", Cond.fieldLink RX1 44 "AddressTexts$Address" "family" "I", Cond.methodLink RX1 40 yX1_readText, Cond.instanceMethod yX1_readText, Cond.selects RX1 yX1_readText yX1_readText, Cond.initialized RX1, Cond.code yX1_readText cX1_readText 1 (some .boolean), Cond.methodLink RX1 89 yX1_placeOf, Cond.instanceMethod yX1_placeOf, Cond.selects RX1 yX1_placeOf yX1_placeOf, Cond.code yX1_placeOf cX1_placeOf 4 (some .int), Cond.methodLink RX1 85 yX1_tapeAt, Cond.instanceMethod yX1_tapeAt, Cond.selects RX1 yX1_tapeAt yX1_tapeAt, Cond.code yX1_tapeAt cX1_tapeAt 2 (some .int), Cond.fieldLink RX1 9 "AddressTexts" "tape" "[B", Cond.methodLink RX1 93 yX1_readSix, Cond.instanceMethod yX1_readSix, Cond.selects RX1 yX1_readSix yX1_readSix, Cond.code yX1_readSix cX1_readSix 5 (some .boolean), Cond.methodLink RX1 99 yX0_clear]
def wsX1_read_r2 : List Cond := [Cond.instanceMethod yX0_clear, Cond.selects RX0 yX0_clear yX0_clear, Cond.initialized RX0, Cond.code yX0_clear cX0_clear 2 none, Cond.fieldLink RX0 9 "AddressTexts$Address" "family" "I", Cond.fieldLink RX0 15 "AddressTexts$Address" "prefixLength" "I", Cond.fieldLink RX0 18 "AddressTexts$Address" "upper" "J", Cond.fieldLink RX0 22 "AddressTexts$Address" "lower" "J", Cond.methodLink RX0 25 yX0_wholeLength, Cond.instanceMethod yX0_wholeLength, Cond.selects RX0 yX0_wholeLength yX0_wholeLength, Cond.code yX0_wholeLength cX0_wholeLength 1 (some .int), Cond.methodLink RX1 102 yX1_placeOfGap, Cond.instanceMethod yX1_placeOfGap, Cond.selects RX1 yX1_placeOfGap yX1_placeOfGap, Cond.code yX1_placeOfGap cX1_placeOfGap 2 (some .int), Cond.methodLink RX1 105 yX1_partsIn, Cond.instanceMethod yX1_partsIn, Cond.selects RX1 yX1_partsIn yX1_partsIn, Cond.code yX1_partsIn cX1_partsIn 5 (some .int), Cond.methodLink RX1 109 yX1_readParts, Cond.instanceMethod yX1_readParts, Cond.selects RX1 yX1_readParts yX1_readParts, Cond.code yX1_readParts cX1_readParts 9 (some .boolean)]
def wsX1_read_r3 : List Cond := [Cond.methodLink RX1 113 Lib.Math.min.name, Cond.static Lib.Math.min.name, Cond.initialized "java/lang/Math", Cond.code Lib.Math.min.name Lib.Math.min.code 2 (some .int), Cond.methodLink RX1 118 yX1_hexadecimalIn, Cond.instanceMethod yX1_hexadecimalIn, Cond.selects RX1 yX1_hexadecimalIn yX1_hexadecimalIn, Cond.code yX1_hexadecimalIn cX1_hexadecimalIn 6 (some .int), Cond.methodLink RX1 125 yX1_digitAt, Cond.instanceMethod yX1_digitAt, Cond.selects RX1 yX1_digitAt yX1_digitAt, Cond.code yX1_digitAt cX1_digitAt 3 (some .int), Cond.methodLink RX1 121 yX0_setPart, Cond.instanceMethod yX0_setPart, Cond.selects RX0 yX0_setPart yX0_setPart, Cond.code yX0_setPart cX0_setPart 5 none, Cond.methodLink RX0 38 yX0_shiftOf, Cond.static yX0_shiftOf, Cond.code yX0_shiftOf cX0_shiftOf 1 (some .int), Cond.methodLink RX1 96 yX1_readFour, Cond.instanceMethod yX1_readFour, Cond.selects RX1 yX1_readFour yX1_readFour, Cond.code yX1_readFour cX1_readFour 5 (some .boolean), Cond.fieldLink RX1 66 "AddressTexts$Address" "lower" "J"]
def wsX1_read_r4 : List Cond := [Cond.methodLink RX1 51 yX1_decimalIn, Cond.instanceMethod yX1_decimalIn, Cond.selects RX1 yX1_decimalIn yX1_decimalIn, Cond.code yX1_decimalIn cX1_decimalIn 8 (some .int)]
def wsX1_read : List Cond := .code yX1_read cX1_read 3 (some .int) :: ((wsX1_read_r1 ++ (wsX1_read_r2 ++ (wsX1_read_r3 ++ wsX1_read_r4))) ++ wsX10 ++ wsX00)
def wsX1_length : List Cond := .code yX1_length cX1_length 2 (some .int) :: ([.fieldLink RX1 13 "AddressTexts" "tapeCount" "I", .fieldLink RX1 26 "AddressTexts" "one" "LAddressTexts$Address;", .fieldLink RX1 55 "AddressTexts$Address" "prefixLength" "I", .methodLink RX1 47 yX0_wholeLength, .instanceMethod yX0_wholeLength, .selects RX0 yX0_wholeLength yX0_wholeLength, .initialized RX0, .code yX0_wholeLength cX0_wholeLength 1 (some .int), .fieldLink RX0 9 "AddressTexts$Address" "family" "I", .methodLink RX1 51 yX1_decimalIn, .instanceMethod yX1_decimalIn, .selects RX1 yX1_decimalIn yX1_decimalIn, .initialized RX1, .code yX1_decimalIn cX1_decimalIn 8 (some .int), .methodLink RX1 85 yX1_tapeAt, .instanceMethod yX1_tapeAt, .selects RX1 yX1_tapeAt yX1_tapeAt, .code yX1_tapeAt cX1_tapeAt 2 (some .int), .fieldLink RX1 9 "AddressTexts" "tape" "[B", .methodLink RX1 125 yX1_digitAt, .instanceMethod yX1_digitAt, .selects RX1 yX1_digitAt yX1_digitAt, .code yX1_digitAt cX1_digitAt 3 (some .int)] ++ wsX10 ++ wsX00)
def wsX1_cut_r1 : List Cond := [Cond.fieldLink RX1 26 "AddressTexts" "one" "LAddressTexts$Address;", Cond.fieldLink RX1 58 "AddressTexts$Address" "upper" "J", Cond.fieldLink RX1 66 "AddressTexts$Address" "lower" "J", Cond.methodLink RX1 62 yX0_upperMask, Cond.instanceMethod yX0_upperMask, Cond.selects RX0 yX0_upperMask yX0_upperMask, Cond.initialized RX0, Cond.code yX0_upperMask cX0_upperMask 1 (some .long), Cond.methodLink RX0 29 yX0_keptOfAll, Cond.instanceMethod yX0_keptOfAll, Cond.selects RX0 yX0_keptOfAll yX0_keptOfAll, Cond.code yX0_keptOfAll cX0_keptOfAll 1 (some .int), Cond.fieldLink RX0 15 "AddressTexts$Address" "prefixLength" "I", Cond.methodLink RX0 25 yX0_wholeLength, Cond.instanceMethod yX0_wholeLength, Cond.selects RX0 yX0_wholeLength yX0_wholeLength, Cond.code yX0_wholeLength cX0_wholeLength 1 (some .int), Cond.fieldLink RX0 9 "AddressTexts$Address" "family" "I", Cond.methodLink RX0 32 yX0_highestBits, Cond.static yX0_highestBits, Cond.code yX0_highestBits cX0_highestBits 1 (some .long), Cond.constantLong RX0 36 (-1), Cond.methodLink RX1 69 yX0_lowerMask, Cond.instanceMethod yX0_lowerMask]
def wsX1_cut_r2 : List Cond := [Cond.selects RX0 yX0_lowerMask yX0_lowerMask, Cond.code yX0_lowerMask cX0_lowerMask 1 (some .long)]
def wsX1_cut : List Cond := .code yX1_cut cX1_cut 6 (some .boolean) :: ((wsX1_cut_r1 ++ wsX1_cut_r2) ++ wsX10 ++ wsX00)
def wsX1_covers_r1 : List Cond := [Cond.fieldLink RX1 26 "AddressTexts" "one" "LAddressTexts$Address;", Cond.fieldLink RX1 44 "AddressTexts$Address" "family" "I", Cond.fieldLink RX1 30 "AddressTexts" "two" "LAddressTexts$Address;", Cond.fieldLink RX1 55 "AddressTexts$Address" "prefixLength" "I", Cond.fieldLink RX1 58 "AddressTexts$Address" "upper" "J", Cond.fieldLink RX1 66 "AddressTexts$Address" "lower" "J", Cond.methodLink RX1 62 yX0_upperMask, Cond.instanceMethod yX0_upperMask, Cond.selects RX0 yX0_upperMask yX0_upperMask, Cond.initialized RX0, Cond.code yX0_upperMask cX0_upperMask 1 (some .long), Cond.methodLink RX0 29 yX0_keptOfAll, Cond.instanceMethod yX0_keptOfAll, Cond.selects RX0 yX0_keptOfAll yX0_keptOfAll, Cond.code yX0_keptOfAll cX0_keptOfAll 1 (some .int), Cond.fieldLink RX0 15 "AddressTexts$Address" "prefixLength" "I", Cond.methodLink RX0 25 yX0_wholeLength, Cond.instanceMethod yX0_wholeLength, Cond.selects RX0 yX0_wholeLength yX0_wholeLength, Cond.code yX0_wholeLength cX0_wholeLength 1 (some .int), Cond.fieldLink RX0 9 "AddressTexts$Address" "family" "I", Cond.methodLink RX0 32 yX0_highestBits, Cond.static yX0_highestBits, Cond.code yX0_highestBits cX0_highestBits 1 (some .long)]
def wsX1_covers_r2 : List Cond := [Cond.constantLong RX0 36 (-1), Cond.methodLink RX1 69 yX0_lowerMask, Cond.instanceMethod yX0_lowerMask, Cond.selects RX0 yX0_lowerMask yX0_lowerMask, Cond.code yX0_lowerMask cX0_lowerMask 1 (some .long)]
def wsX1_covers : List Cond := .code yX1_covers cX1_covers 1 (some .boolean) :: ((wsX1_covers_r1 ++ wsX1_covers_r2) ++ wsX10 ++ wsX00)
def wsX1_isBelow : List Cond := .code yX1_isBelow cX1_isBelow 4 (some .boolean) :: ([.constantLong RX1 149 (-9223372036854775808)])
def wsX1_order : List Cond := .code yX1_order cX1_order 1 (some .int) :: ([.fieldLink RX1 26 "AddressTexts" "one" "LAddressTexts$Address;", .fieldLink RX1 44 "AddressTexts$Address" "family" "I", .fieldLink RX1 30 "AddressTexts" "two" "LAddressTexts$Address;", .fieldLink RX1 58 "AddressTexts$Address" "upper" "J", .fieldLink RX1 66 "AddressTexts$Address" "lower" "J", .fieldLink RX1 55 "AddressTexts$Address" "prefixLength" "I", .methodLink RX1 72 yX1_isBelow, .static yX1_isBelow, .initialized RX1, .code yX1_isBelow cX1_isBelow 4 (some .boolean), .constantLong RX1 149 (-9223372036854775808)] ++ wsX10 ++ wsX00)
def wsX1_turn : List Cond := .code yX1_turn cX1_turn 2 none :: ([.fieldLink RX1 26 "AddressTexts" "one" "LAddressTexts$Address;", .fieldLink RX1 30 "AddressTexts" "two" "LAddressTexts$Address;"] ++ wsX10)
def wsX1_writeByte : List Cond := .code yX1_writeByte cX1_writeByte 2 none :: ([.fieldLink RX1 20 "AddressTexts" "writtenCount" "I", .fieldLink RX1 17 "AddressTexts" "written" "[B"] ++ wsX10)
def wsX1_writeDigit : List Cond := .code yX1_writeDigit cX1_writeDigit 2 none :: ([.methodLink RX1 128 yX1_writeByte, .instanceMethod yX1_writeByte, .selects RX1 yX1_writeByte yX1_writeByte, .initialized RX1, .code yX1_writeByte cX1_writeByte 2 none, .fieldLink RX1 20 "AddressTexts" "writtenCount" "I", .fieldLink RX1 17 "AddressTexts" "written" "[B"] ++ wsX10)
def wsX1_writeDecimal : List Cond := .code yX1_writeDecimal cX1_writeDecimal 2 none :: ([.methodLink RX1 146 yX1_writeDigit, .instanceMethod yX1_writeDigit, .selects RX1 yX1_writeDigit yX1_writeDigit, .initialized RX1, .code yX1_writeDigit cX1_writeDigit 2 none, .methodLink RX1 128 yX1_writeByte, .instanceMethod yX1_writeByte, .selects RX1 yX1_writeByte yX1_writeByte, .code yX1_writeByte cX1_writeByte 2 none, .fieldLink RX1 20 "AddressTexts" "writtenCount" "I", .fieldLink RX1 17 "AddressTexts" "written" "[B"] ++ wsX10)
def wsX1_writeNumbers : List Cond := .code yX1_writeNumbers cX1_writeNumbers 2 none :: ([.fieldLink RX1 26 "AddressTexts" "one" "LAddressTexts$Address;", .fieldLink RX1 66 "AddressTexts$Address" "lower" "J", .methodLink RX1 128 yX1_writeByte, .instanceMethod yX1_writeByte, .selects RX1 yX1_writeByte yX1_writeByte, .initialized RX1, .code yX1_writeByte cX1_writeByte 2 none, .fieldLink RX1 20 "AddressTexts" "writtenCount" "I", .fieldLink RX1 17 "AddressTexts" "written" "[B", .methodLink RX1 131 yX1_writeDecimal, .instanceMethod yX1_writeDecimal, .selects RX1 yX1_writeDecimal yX1_writeDecimal, .code yX1_writeDecimal cX1_writeDecimal 2 none, .methodLink RX1 146 yX1_writeDigit, .instanceMethod yX1_writeDigit, .selects RX1 yX1_writeDigit yX1_writeDigit, .code yX1_writeDigit cX1_writeDigit 2 none] ++ wsX10 ++ wsX00)
def wsX1_writeHexadecimal : List Cond := .code yX1_writeHexadecimal cX1_writeHexadecimal 3 none :: ([.methodLink RX1 146 yX1_writeDigit, .instanceMethod yX1_writeDigit, .selects RX1 yX1_writeDigit yX1_writeDigit, .initialized RX1, .code yX1_writeDigit cX1_writeDigit 2 none, .methodLink RX1 128 yX1_writeByte, .instanceMethod yX1_writeByte, .selects RX1 yX1_writeByte yX1_writeByte, .code yX1_writeByte cX1_writeByte 2 none, .fieldLink RX1 20 "AddressTexts" "writtenCount" "I", .fieldLink RX1 17 "AddressTexts" "written" "[B"] ++ wsX10)
def wsX1_writeParts_r1 : List Cond := [Cond.fieldLink RX1 26 "AddressTexts" "one" "LAddressTexts$Address;", Cond.methodLink RX1 134 yX0_longestRowOfZeros, Cond.instanceMethod yX0_longestRowOfZeros, Cond.selects RX0 yX0_longestRowOfZeros yX0_longestRowOfZeros, Cond.initialized RX0, Cond.code yX0_longestRowOfZeros cX0_longestRowOfZeros 5 (some .int), Cond.methodLink RX0 46 yX0_zerosFrom, Cond.instanceMethod yX0_zerosFrom, Cond.selects RX0 yX0_zerosFrom yX0_zerosFrom, Cond.code yX0_zerosFrom cX0_zerosFrom 3 (some .int), Cond.methodLink RX0 43 yX0_part, Cond.instanceMethod yX0_part, Cond.selects RX0 yX0_part yX0_part, Cond.code yX0_part cX0_part 4 (some .int), Cond.fieldLink RX0 18 "AddressTexts$Address" "upper" "J", Cond.fieldLink RX0 22 "AddressTexts$Address" "lower" "J", Cond.constant RX0 42 (65535), Cond.methodLink RX0 38 yX0_shiftOf, Cond.static yX0_shiftOf, Cond.code yX0_shiftOf cX0_shiftOf 1 (some .int), Cond.methodLink RX1 137 yX0_zerosFrom, Cond.methodLink RX1 128 yX1_writeByte, Cond.instanceMethod yX1_writeByte, Cond.selects RX1 yX1_writeByte yX1_writeByte]
def wsX1_writeParts_r2 : List Cond := [Cond.initialized RX1, Cond.code yX1_writeByte cX1_writeByte 2 none, Cond.fieldLink RX1 20 "AddressTexts" "writtenCount" "I", Cond.fieldLink RX1 17 "AddressTexts" "written" "[B", Cond.methodLink RX1 140 yX0_part, Cond.methodLink RX1 143 yX1_writeHexadecimal, Cond.instanceMethod yX1_writeHexadecimal, Cond.selects RX1 yX1_writeHexadecimal yX1_writeHexadecimal, Cond.code yX1_writeHexadecimal cX1_writeHexadecimal 3 none, Cond.methodLink RX1 146 yX1_writeDigit, Cond.instanceMethod yX1_writeDigit, Cond.selects RX1 yX1_writeDigit yX1_writeDigit, Cond.code yX1_writeDigit cX1_writeDigit 2 none]
def wsX1_writeParts : List Cond := .code yX1_writeParts cX1_writeParts 4 none :: ((wsX1_writeParts_r1 ++ wsX1_writeParts_r2) ++ wsX10 ++ wsX00)
def wsX1_write_r1 : List Cond := [Cond.fieldLink RX1 20 "AddressTexts" "writtenCount" "I", Cond.fieldLink RX1 26 "AddressTexts" "one" "LAddressTexts$Address;", Cond.fieldLink RX1 44 "AddressTexts$Address" "family" "I", Cond.methodLink RX1 76 yX1_writeNumbers, Cond.instanceMethod yX1_writeNumbers, Cond.selects RX1 yX1_writeNumbers yX1_writeNumbers, Cond.initialized RX1, Cond.code yX1_writeNumbers cX1_writeNumbers 2 none, Cond.fieldLink RX1 66 "AddressTexts$Address" "lower" "J", Cond.methodLink RX1 128 yX1_writeByte, Cond.instanceMethod yX1_writeByte, Cond.selects RX1 yX1_writeByte yX1_writeByte, Cond.code yX1_writeByte cX1_writeByte 2 none, Cond.fieldLink RX1 17 "AddressTexts" "written" "[B", Cond.methodLink RX1 131 yX1_writeDecimal, Cond.instanceMethod yX1_writeDecimal, Cond.selects RX1 yX1_writeDecimal yX1_writeDecimal, Cond.code yX1_writeDecimal cX1_writeDecimal 2 none, Cond.methodLink RX1 146 yX1_writeDigit, Cond.instanceMethod yX1_writeDigit, Cond.selects RX1 yX1_writeDigit yX1_writeDigit, Cond.code yX1_writeDigit cX1_writeDigit 2 none, Cond.methodLink RX1 79 yX1_writeParts, Cond.instanceMethod yX1_writeParts]
def wsX1_write_r2 : List Cond := [Cond.selects RX1 yX1_writeParts yX1_writeParts, Cond.code yX1_writeParts cX1_writeParts 4 none, Cond.methodLink RX1 134 yX0_longestRowOfZeros, Cond.instanceMethod yX0_longestRowOfZeros, Cond.selects RX0 yX0_longestRowOfZeros yX0_longestRowOfZeros, Cond.initialized RX0, Cond.code yX0_longestRowOfZeros cX0_longestRowOfZeros 5 (some .int), Cond.methodLink RX0 46 yX0_zerosFrom, Cond.instanceMethod yX0_zerosFrom, Cond.selects RX0 yX0_zerosFrom yX0_zerosFrom, Cond.code yX0_zerosFrom cX0_zerosFrom 3 (some .int), Cond.methodLink RX0 43 yX0_part, Cond.instanceMethod yX0_part, Cond.selects RX0 yX0_part yX0_part, Cond.code yX0_part cX0_part 4 (some .int), Cond.fieldLink RX0 18 "AddressTexts$Address" "upper" "J", Cond.fieldLink RX0 22 "AddressTexts$Address" "lower" "J", Cond.constant RX0 42 (65535), Cond.methodLink RX0 38 yX0_shiftOf, Cond.static yX0_shiftOf, Cond.code yX0_shiftOf cX0_shiftOf 1 (some .int), Cond.methodLink RX1 137 yX0_zerosFrom, Cond.methodLink RX1 140 yX0_part, Cond.methodLink RX1 143 yX1_writeHexadecimal]
def wsX1_write_r3 : List Cond := [Cond.instanceMethod yX1_writeHexadecimal, Cond.selects RX1 yX1_writeHexadecimal yX1_writeHexadecimal, Cond.code yX1_writeHexadecimal cX1_writeHexadecimal 3 none]
def wsX1_write : List Cond := .code yX1_write cX1_write 1 (some .int) :: ((wsX1_write_r1 ++ (wsX1_write_r2 ++ wsX1_write_r3)) ++ wsX10 ++ wsX00)
def wsX1_writtenAt : List Cond := .code yX1_writtenAt cX1_writtenAt 2 (some .int) :: ([.fieldLink RX1 20 "AddressTexts" "writtenCount" "I", .fieldLink RX1 17 "AddressTexts" "written" "[B"] ++ wsX10)
def wsX1_bits : List Cond := .code yX1_bits cX1_bits 2 (some .long) :: ([.fieldLink RX1 26 "AddressTexts" "one" "LAddressTexts$Address;", .fieldLink RX1 58 "AddressTexts$Address" "upper" "J", .fieldLink RX1 66 "AddressTexts$Address" "lower" "J"] ++ wsX10 ++ wsX00)
theorem dX0_init_0 : decode cX0_init 0 = .ok (.aload_n 0, 1) := by decide +kernel
theorem dX0_init_1 : decode cX0_init 1 = .ok (.invokespecial 3, 3) := by decide +kernel
theorem dX0_init_4 : decode cX0_init 4 = .ok (.aload_n 0, 1) := by decide +kernel
theorem dX0_init_5 : decode cX0_init 5 = .ok (.iconst 4, 1) := by decide +kernel
theorem dX0_init_6 : decode cX0_init 6 = .ok (.putfield 9, 3) := by decide +kernel
theorem dX0_init_9 : decode cX0_init 9 = .ok (.aload_n 0, 1) := by decide +kernel
theorem dX0_init_10 : decode cX0_init 10 = .ok (.bipush 32, 2) := by decide +kernel
theorem dX0_init_12 : decode cX0_init 12 = .ok (.putfield 15, 3) := by decide +kernel
theorem dX0_init_15 : decode cX0_init 15 = .ok (.aload_n 0, 1) := by decide +kernel
theorem dX0_init_16 : decode cX0_init 16 = .ok (.lconst 0, 1) := by decide +kernel
theorem dX0_init_17 : decode cX0_init 17 = .ok (.putfield 18, 3) := by decide +kernel
theorem dX0_init_20 : decode cX0_init 20 = .ok (.aload_n 0, 1) := by decide +kernel
theorem dX0_init_21 : decode cX0_init 21 = .ok (.lconst 0, 1) := by decide +kernel
theorem dX0_init_22 : decode cX0_init 22 = .ok (.putfield 22, 3) := by decide +kernel
theorem dX0_init_25 : decode cX0_init 25 = .ok (.return_, 1) := by decide +kernel
set_option maxRecDepth 20000 in
theorem ggX0_clear_X0_wholeLength : GoodIn wsX0_clear wsX0_wholeLength := goodIn_r _ [9, 1, 10, 11, 12, 13] (by decide +kernel) (by decide +kernel)
set_option maxRecDepth 20000 in
theorem gX0_clear_X0_wholeLength : GoodIn wsX0_clear (wsV RX0 25 RX0 yX0_wholeLength wsX0_wholeLength) := goodIn_app (goodIn_of _ (by decide +kernel)) ggX0_clear_X0_wholeLength
theorem dX0_clear_0 : decode cX0_clear 0 = .ok (.aload_n 0, 1) := by decide +kernel
theorem dX0_clear_1 : decode cX0_clear 1 = .ok (.iload_n 1, 1) := by decide +kernel
theorem dX0_clear_2 : decode cX0_clear 2 = .ok (.putfield 9, 3) := by decide +kernel
theorem dX0_clear_5 : decode cX0_clear 5 = .ok (.aload_n 0, 1) := by decide +kernel
theorem dX0_clear_6 : decode cX0_clear 6 = .ok (.aload_n 0, 1) := by decide +kernel
theorem dX0_clear_7 : decode cX0_clear 7 = .ok (.invokevirtual 25, 3) := by decide +kernel
theorem dX0_clear_10 : decode cX0_clear 10 = .ok (.putfield 15, 3) := by decide +kernel
theorem dX0_clear_13 : decode cX0_clear 13 = .ok (.aload_n 0, 1) := by decide +kernel
theorem dX0_clear_14 : decode cX0_clear 14 = .ok (.lconst 0, 1) := by decide +kernel
theorem dX0_clear_15 : decode cX0_clear 15 = .ok (.putfield 18, 3) := by decide +kernel
theorem dX0_clear_18 : decode cX0_clear 18 = .ok (.aload_n 0, 1) := by decide +kernel
theorem dX0_clear_19 : decode cX0_clear 19 = .ok (.lconst 0, 1) := by decide +kernel
theorem dX0_clear_20 : decode cX0_clear 20 = .ok (.putfield 22, 3) := by decide +kernel
theorem dX0_clear_23 : decode cX0_clear 23 = .ok (.return_, 1) := by decide +kernel
theorem dX0_wholeLength_0 : decode cX0_wholeLength 0 = .ok (.aload_n 0, 1) := by decide +kernel
theorem dX0_wholeLength_1 : decode cX0_wholeLength 1 = .ok (.getfield 9, 3) := by decide +kernel
theorem dX0_wholeLength_4 : decode cX0_wholeLength 4 = .ok (.iconst 4, 1) := by decide +kernel
theorem dX0_wholeLength_5 : decode cX0_wholeLength 5 = .ok (.if_icmp .ne 8, 3) := by decide +kernel
theorem dX0_wholeLength_8 : decode cX0_wholeLength 8 = .ok (.bipush 32, 2) := by decide +kernel
theorem dX0_wholeLength_10 : decode cX0_wholeLength 10 = .ok (.goto 6, 3) := by decide +kernel
theorem dX0_wholeLength_13 : decode cX0_wholeLength 13 = .ok (.sipush 128, 3) := by decide +kernel
theorem dX0_wholeLength_16 : decode cX0_wholeLength 16 = .ok (.ireturn, 1) := by decide +kernel
set_option maxRecDepth 20000 in
theorem ggX0_upperMask_X0_keptOfAll : GoodIn wsX0_upperMask wsX0_keptOfAll := goodIn_r _ [5, 6, 7, 8, 9, 4, 10, 11, 16, 17, 18, 19] (by decide +kernel) (by decide +kernel)
set_option maxRecDepth 20000 in
theorem gX0_upperMask_X0_keptOfAll : GoodIn wsX0_upperMask (wsV RX0 29 RX0 yX0_keptOfAll wsX0_keptOfAll) := goodIn_app (goodIn_of _ (by decide +kernel)) ggX0_upperMask_X0_keptOfAll
set_option maxRecDepth 20000 in
theorem ggX0_upperMask_X0_highestBits : GoodIn wsX0_upperMask wsX0_highestBits := goodIn_r _ [14, 15] (by decide +kernel) (by decide +kernel)
set_option maxRecDepth 20000 in
theorem gX0_upperMask_X0_highestBits : GoodIn wsX0_upperMask (va_wsS RX0 32 yX0_highestBits wsX0_highestBits) := goodIn_app (goodIn_of _ (by decide +kernel)) ggX0_upperMask_X0_highestBits
theorem dX0_upperMask_0 : decode cX0_upperMask 0 = .ok (.aload_n 0, 1) := by decide +kernel
theorem dX0_upperMask_1 : decode cX0_upperMask 1 = .ok (.invokevirtual 29, 3) := by decide +kernel
theorem dX0_upperMask_4 : decode cX0_upperMask 4 = .ok (.invokestatic 32, 3) := by decide +kernel
theorem dX0_upperMask_7 : decode cX0_upperMask 7 = .ok (.lreturn, 1) := by decide +kernel
set_option maxRecDepth 20000 in
theorem ggX0_lowerMask_X0_keptOfAll : GoodIn wsX0_lowerMask wsX0_keptOfAll := goodIn_r _ [5, 6, 7, 8, 9, 4, 10, 11, 16, 17, 18, 19] (by decide +kernel) (by decide +kernel)
set_option maxRecDepth 20000 in
theorem gX0_lowerMask_X0_keptOfAll : GoodIn wsX0_lowerMask (wsV RX0 29 RX0 yX0_keptOfAll wsX0_keptOfAll) := goodIn_app (goodIn_of _ (by decide +kernel)) ggX0_lowerMask_X0_keptOfAll
set_option maxRecDepth 20000 in
theorem ggX0_lowerMask_X0_highestBits : GoodIn wsX0_lowerMask wsX0_highestBits := goodIn_r _ [14, 15] (by decide +kernel) (by decide +kernel)
set_option maxRecDepth 20000 in
theorem gX0_lowerMask_X0_highestBits : GoodIn wsX0_lowerMask (va_wsS RX0 32 yX0_highestBits wsX0_highestBits) := goodIn_app (goodIn_of _ (by decide +kernel)) ggX0_lowerMask_X0_highestBits
theorem dX0_lowerMask_0 : decode cX0_lowerMask 0 = .ok (.aload_n 0, 1) := by decide +kernel
theorem dX0_lowerMask_1 : decode cX0_lowerMask 1 = .ok (.invokevirtual 29, 3) := by decide +kernel
theorem dX0_lowerMask_4 : decode cX0_lowerMask 4 = .ok (.bipush 64, 2) := by decide +kernel
theorem dX0_lowerMask_6 : decode cX0_lowerMask 6 = .ok (.isub, 1) := by decide +kernel
theorem dX0_lowerMask_7 : decode cX0_lowerMask 7 = .ok (.invokestatic 32, 3) := by decide +kernel
theorem dX0_lowerMask_10 : decode cX0_lowerMask 10 = .ok (.lreturn, 1) := by decide +kernel
set_option maxRecDepth 20000 in
theorem ggX0_keptOfAll_X0_wholeLength : GoodIn wsX0_keptOfAll wsX0_wholeLength := goodIn_r _ [6, 7, 8, 9, 10, 11] (by decide +kernel) (by decide +kernel)
set_option maxRecDepth 20000 in
theorem gX0_keptOfAll_X0_wholeLength : GoodIn wsX0_keptOfAll (wsV RX0 25 RX0 yX0_wholeLength wsX0_wholeLength) := goodIn_app (goodIn_of _ (by decide +kernel)) ggX0_keptOfAll_X0_wholeLength
theorem dX0_keptOfAll_0 : decode cX0_keptOfAll 0 = .ok (.sipush 128, 3) := by decide +kernel
theorem dX0_keptOfAll_3 : decode cX0_keptOfAll 3 = .ok (.aload_n 0, 1) := by decide +kernel
theorem dX0_keptOfAll_4 : decode cX0_keptOfAll 4 = .ok (.invokevirtual 25, 3) := by decide +kernel
theorem dX0_keptOfAll_7 : decode cX0_keptOfAll 7 = .ok (.isub, 1) := by decide +kernel
theorem dX0_keptOfAll_8 : decode cX0_keptOfAll 8 = .ok (.aload_n 0, 1) := by decide +kernel
theorem dX0_keptOfAll_9 : decode cX0_keptOfAll 9 = .ok (.getfield 15, 3) := by decide +kernel
theorem dX0_keptOfAll_12 : decode cX0_keptOfAll 12 = .ok (.iadd, 1) := by decide +kernel
theorem dX0_keptOfAll_13 : decode cX0_keptOfAll 13 = .ok (.ireturn, 1) := by decide +kernel
theorem dX0_highestBits_0 : decode cX0_highestBits 0 = .ok (.iload_n 0, 1) := by decide +kernel
theorem dX0_highestBits_1 : decode cX0_highestBits 1 = .ok (.ifCond .gt 5, 3) := by decide +kernel
theorem dX0_highestBits_4 : decode cX0_highestBits 4 = .ok (.lconst 0, 1) := by decide +kernel
theorem dX0_highestBits_5 : decode cX0_highestBits 5 = .ok (.lreturn, 1) := by decide +kernel
theorem dX0_highestBits_6 : decode cX0_highestBits 6 = .ok (.iload_n 0, 1) := by decide +kernel
theorem dX0_highestBits_7 : decode cX0_highestBits 7 = .ok (.bipush 64, 2) := by decide +kernel
theorem dX0_highestBits_9 : decode cX0_highestBits 9 = .ok (.if_icmp .lt 9, 3) := by decide +kernel
theorem dX0_highestBits_12 : decode cX0_highestBits 12 = .ok (.ldc2_w 36, 3) := by decide +kernel
theorem dX0_highestBits_15 : decode cX0_highestBits 15 = .ok (.goto 11, 3) := by decide +kernel
theorem dX0_highestBits_18 : decode cX0_highestBits 18 = .ok (.ldc2_w 36, 3) := by decide +kernel
theorem dX0_highestBits_21 : decode cX0_highestBits 21 = .ok (.bipush 64, 2) := by decide +kernel
theorem dX0_highestBits_23 : decode cX0_highestBits 23 = .ok (.iload_n 0, 1) := by decide +kernel
theorem dX0_highestBits_24 : decode cX0_highestBits 24 = .ok (.isub, 1) := by decide +kernel
theorem dX0_highestBits_25 : decode cX0_highestBits 25 = .ok (.lshl, 1) := by decide +kernel
theorem dX0_highestBits_26 : decode cX0_highestBits 26 = .ok (.lreturn, 1) := by decide +kernel
set_option maxRecDepth 20000 in
theorem ggX0_part_X0_shiftOf : GoodIn wsX0_part wsX0_shiftOf := goodIn_r _ [7] (by decide +kernel) (by decide +kernel)
set_option maxRecDepth 20000 in
theorem gX0_part_X0_shiftOf : GoodIn wsX0_part (va_wsS RX0 38 yX0_shiftOf wsX0_shiftOf) := goodIn_app (goodIn_of _ (by decide +kernel)) ggX0_part_X0_shiftOf
theorem dX0_part_0 : decode cX0_part 0 = .ok (.iload_n 1, 1) := by decide +kernel
theorem dX0_part_1 : decode cX0_part 1 = .ok (.iconst 4, 1) := by decide +kernel
theorem dX0_part_2 : decode cX0_part 2 = .ok (.if_icmp .ge 10, 3) := by decide +kernel
theorem dX0_part_5 : decode cX0_part 5 = .ok (.aload_n 0, 1) := by decide +kernel
theorem dX0_part_6 : decode cX0_part 6 = .ok (.getfield 18, 3) := by decide +kernel
theorem dX0_part_9 : decode cX0_part 9 = .ok (.goto 7, 3) := by decide +kernel
theorem dX0_part_12 : decode cX0_part 12 = .ok (.aload_n 0, 1) := by decide +kernel
theorem dX0_part_13 : decode cX0_part 13 = .ok (.getfield 22, 3) := by decide +kernel
theorem dX0_part_16 : decode cX0_part 16 = .ok (.lstore_n 2, 1) := by decide +kernel
theorem dX0_part_17 : decode cX0_part 17 = .ok (.lload_n 2, 1) := by decide +kernel
theorem dX0_part_18 : decode cX0_part 18 = .ok (.iload_n 1, 1) := by decide +kernel
theorem dX0_part_19 : decode cX0_part 19 = .ok (.invokestatic 38, 3) := by decide +kernel
theorem dX0_part_22 : decode cX0_part 22 = .ok (.lushr, 1) := by decide +kernel
theorem dX0_part_23 : decode cX0_part 23 = .ok (.l2i, 1) := by decide +kernel
theorem dX0_part_24 : decode cX0_part 24 = .ok (.ldc 42, 2) := by decide +kernel
theorem dX0_part_26 : decode cX0_part 26 = .ok (.iand, 1) := by decide +kernel
theorem dX0_part_27 : decode cX0_part 27 = .ok (.ireturn, 1) := by decide +kernel
set_option maxRecDepth 20000 in
theorem ggX0_setPart_X0_shiftOf : GoodIn wsX0_setPart wsX0_shiftOf := goodIn_r _ [6] (by decide +kernel) (by decide +kernel)
set_option maxRecDepth 20000 in
theorem gX0_setPart_X0_shiftOf : GoodIn wsX0_setPart (va_wsS RX0 38 yX0_shiftOf wsX0_shiftOf) := goodIn_app (goodIn_of _ (by decide +kernel)) ggX0_setPart_X0_shiftOf
theorem dX0_setPart_0 : decode cX0_setPart 0 = .ok (.iload_n 2, 1) := by decide +kernel
theorem dX0_setPart_1 : decode cX0_setPart 1 = .ok (.i2l, 1) := by decide +kernel
theorem dX0_setPart_2 : decode cX0_setPart 2 = .ok (.iload_n 1, 1) := by decide +kernel
theorem dX0_setPart_3 : decode cX0_setPart 3 = .ok (.invokestatic 38, 3) := by decide +kernel
theorem dX0_setPart_6 : decode cX0_setPart 6 = .ok (.lshl, 1) := by decide +kernel
theorem dX0_setPart_7 : decode cX0_setPart 7 = .ok (.lstore_n 3, 1) := by decide +kernel
theorem dX0_setPart_8 : decode cX0_setPart 8 = .ok (.iload_n 1, 1) := by decide +kernel
theorem dX0_setPart_9 : decode cX0_setPart 9 = .ok (.iconst 4, 1) := by decide +kernel
theorem dX0_setPart_10 : decode cX0_setPart 10 = .ok (.if_icmp .ge 16, 3) := by decide +kernel
theorem dX0_setPart_13 : decode cX0_setPart 13 = .ok (.aload_n 0, 1) := by decide +kernel
theorem dX0_setPart_14 : decode cX0_setPart 14 = .ok (.dup, 1) := by decide +kernel
theorem dX0_setPart_15 : decode cX0_setPart 15 = .ok (.getfield 18, 3) := by decide +kernel
theorem dX0_setPart_18 : decode cX0_setPart 18 = .ok (.lload_n 3, 1) := by decide +kernel
theorem dX0_setPart_19 : decode cX0_setPart 19 = .ok (.lor, 1) := by decide +kernel
theorem dX0_setPart_20 : decode cX0_setPart 20 = .ok (.putfield 18, 3) := by decide +kernel
theorem dX0_setPart_23 : decode cX0_setPart 23 = .ok (.goto 13, 3) := by decide +kernel
theorem dX0_setPart_26 : decode cX0_setPart 26 = .ok (.aload_n 0, 1) := by decide +kernel
theorem dX0_setPart_27 : decode cX0_setPart 27 = .ok (.dup, 1) := by decide +kernel
theorem dX0_setPart_28 : decode cX0_setPart 28 = .ok (.getfield 22, 3) := by decide +kernel
theorem dX0_setPart_31 : decode cX0_setPart 31 = .ok (.lload_n 3, 1) := by decide +kernel
theorem dX0_setPart_32 : decode cX0_setPart 32 = .ok (.lor, 1) := by decide +kernel
theorem dX0_setPart_33 : decode cX0_setPart 33 = .ok (.putfield 22, 3) := by decide +kernel
theorem dX0_setPart_36 : decode cX0_setPart 36 = .ok (.return_, 1) := by decide +kernel
theorem dX0_shiftOf_0 : decode cX0_shiftOf 0 = .ok (.bipush 48, 2) := by decide +kernel
theorem dX0_shiftOf_2 : decode cX0_shiftOf 2 = .ok (.bipush 16, 2) := by decide +kernel
theorem dX0_shiftOf_4 : decode cX0_shiftOf 4 = .ok (.iload_n 0, 1) := by decide +kernel
theorem dX0_shiftOf_5 : decode cX0_shiftOf 5 = .ok (.iconst 3, 1) := by decide +kernel
theorem dX0_shiftOf_6 : decode cX0_shiftOf 6 = .ok (.iand, 1) := by decide +kernel
theorem dX0_shiftOf_7 : decode cX0_shiftOf 7 = .ok (.imul, 1) := by decide +kernel
theorem dX0_shiftOf_8 : decode cX0_shiftOf 8 = .ok (.isub, 1) := by decide +kernel
theorem dX0_shiftOf_9 : decode cX0_shiftOf 9 = .ok (.ireturn, 1) := by decide +kernel
set_option maxRecDepth 20000 in
theorem ggX0_zerosFrom_X0_part : GoodIn wsX0_zerosFrom wsX0_part := goodIn_r _ [5, 6, 7, 8, 9, 10, 4, 11, 12, 13, 14, 15] (by decide +kernel) (by decide +kernel)
set_option maxRecDepth 20000 in
theorem gX0_zerosFrom_X0_part : GoodIn wsX0_zerosFrom (wsV RX0 43 RX0 yX0_part wsX0_part) := goodIn_app (goodIn_of _ (by decide +kernel)) ggX0_zerosFrom_X0_part
theorem dX0_zerosFrom_0 : decode cX0_zerosFrom 0 = .ok (.iload_n 1, 1) := by decide +kernel
theorem dX0_zerosFrom_1 : decode cX0_zerosFrom 1 = .ok (.istore_n 2, 1) := by decide +kernel
theorem dX0_zerosFrom_2 : decode cX0_zerosFrom 2 = .ok (.iload_n 2, 1) := by decide +kernel
theorem dX0_zerosFrom_3 : decode cX0_zerosFrom 3 = .ok (.bipush 8, 2) := by decide +kernel
theorem dX0_zerosFrom_5 : decode cX0_zerosFrom 5 = .ok (.if_icmp .ge 17, 3) := by decide +kernel
theorem dX0_zerosFrom_8 : decode cX0_zerosFrom 8 = .ok (.aload_n 0, 1) := by decide +kernel
theorem dX0_zerosFrom_9 : decode cX0_zerosFrom 9 = .ok (.iload_n 2, 1) := by decide +kernel
theorem dX0_zerosFrom_10 : decode cX0_zerosFrom 10 = .ok (.invokevirtual 43, 3) := by decide +kernel
theorem dX0_zerosFrom_13 : decode cX0_zerosFrom 13 = .ok (.ifCond .ne 9, 3) := by decide +kernel
theorem dX0_zerosFrom_16 : decode cX0_zerosFrom 16 = .ok (.iinc 2 1, 3) := by decide +kernel
theorem dX0_zerosFrom_19 : decode cX0_zerosFrom 19 = .ok (.goto (-17), 3) := by decide +kernel
theorem dX0_zerosFrom_22 : decode cX0_zerosFrom 22 = .ok (.iload_n 2, 1) := by decide +kernel
theorem dX0_zerosFrom_23 : decode cX0_zerosFrom 23 = .ok (.iload_n 1, 1) := by decide +kernel
theorem dX0_zerosFrom_24 : decode cX0_zerosFrom 24 = .ok (.isub, 1) := by decide +kernel
theorem dX0_zerosFrom_25 : decode cX0_zerosFrom 25 = .ok (.ireturn, 1) := by decide +kernel
set_option maxRecDepth 20000 in
theorem ggX0_longestRowOfZeros_X0_zerosFrom : GoodIn wsX0_longestRowOfZeros wsX0_zerosFrom := goodIn_r _ [5, 6, 7, 8, 4, 9, 10, 11, 12, 13, 14, 15, 16, 17, 18, 19] (by decide +kernel) (by decide +kernel)
set_option maxRecDepth 20000 in
theorem gX0_longestRowOfZeros_X0_zerosFrom : GoodIn wsX0_longestRowOfZeros (wsV RX0 46 RX0 yX0_zerosFrom wsX0_zerosFrom) := goodIn_app (goodIn_of _ (by decide +kernel)) ggX0_longestRowOfZeros_X0_zerosFrom
theorem dX0_longestRowOfZeros_0 : decode cX0_longestRowOfZeros 0 = .ok (.bipush 8, 2) := by decide +kernel
theorem dX0_longestRowOfZeros_2 : decode cX0_longestRowOfZeros 2 = .ok (.istore_n 1, 1) := by decide +kernel
theorem dX0_longestRowOfZeros_3 : decode cX0_longestRowOfZeros 3 = .ok (.iconst 1, 1) := by decide +kernel
theorem dX0_longestRowOfZeros_4 : decode cX0_longestRowOfZeros 4 = .ok (.istore_n 2, 1) := by decide +kernel
theorem dX0_longestRowOfZeros_5 : decode cX0_longestRowOfZeros 5 = .ok (.iconst 0, 1) := by decide +kernel
theorem dX0_longestRowOfZeros_6 : decode cX0_longestRowOfZeros 6 = .ok (.istore_n 3, 1) := by decide +kernel
theorem dX0_longestRowOfZeros_7 : decode cX0_longestRowOfZeros 7 = .ok (.iload_n 3, 1) := by decide +kernel
theorem dX0_longestRowOfZeros_8 : decode cX0_longestRowOfZeros 8 = .ok (.bipush 8, 2) := by decide +kernel
theorem dX0_longestRowOfZeros_10 : decode cX0_longestRowOfZeros 10 = .ok (.if_icmp .ge 27, 3) := by decide +kernel
theorem dX0_longestRowOfZeros_13 : decode cX0_longestRowOfZeros 13 = .ok (.aload_n 0, 1) := by decide +kernel
theorem dX0_longestRowOfZeros_14 : decode cX0_longestRowOfZeros 14 = .ok (.iload_n 3, 1) := by decide +kernel
theorem dX0_longestRowOfZeros_15 : decode cX0_longestRowOfZeros 15 = .ok (.invokevirtual 46, 3) := by decide +kernel
theorem dX0_longestRowOfZeros_18 : decode cX0_longestRowOfZeros 18 = .ok (.istore 4, 2) := by decide +kernel
theorem dX0_longestRowOfZeros_20 : decode cX0_longestRowOfZeros 20 = .ok (.iload 4, 2) := by decide +kernel
theorem dX0_longestRowOfZeros_22 : decode cX0_longestRowOfZeros 22 = .ok (.iload_n 2, 1) := by decide +kernel
theorem dX0_longestRowOfZeros_23 : decode cX0_longestRowOfZeros 23 = .ok (.if_icmp .le 8, 3) := by decide +kernel
theorem dX0_longestRowOfZeros_26 : decode cX0_longestRowOfZeros 26 = .ok (.iload_n 3, 1) := by decide +kernel
theorem dX0_longestRowOfZeros_27 : decode cX0_longestRowOfZeros 27 = .ok (.istore_n 1, 1) := by decide +kernel
theorem dX0_longestRowOfZeros_28 : decode cX0_longestRowOfZeros 28 = .ok (.iload 4, 2) := by decide +kernel
theorem dX0_longestRowOfZeros_30 : decode cX0_longestRowOfZeros 30 = .ok (.istore_n 2, 1) := by decide +kernel
theorem dX0_longestRowOfZeros_31 : decode cX0_longestRowOfZeros 31 = .ok (.iinc 3 1, 3) := by decide +kernel
theorem dX0_longestRowOfZeros_34 : decode cX0_longestRowOfZeros 34 = .ok (.goto (-27), 3) := by decide +kernel
theorem dX0_longestRowOfZeros_37 : decode cX0_longestRowOfZeros 37 = .ok (.iload_n 1, 1) := by decide +kernel
theorem dX0_longestRowOfZeros_38 : decode cX0_longestRowOfZeros 38 = .ok (.ireturn, 1) := by decide +kernel
set_option maxRecDepth 20000 in
theorem ggX1_init_X0_init : GoodIn wsX1_init wsX0_init := goodIn_r _ [17, 18, 2, 3, 19, 20, 21, 22, 30, 31, 32, 33] (by decide +kernel) (by decide +kernel)
set_option maxRecDepth 20000 in
theorem gX1_init_X0_init : GoodIn wsX1_init (wsX0_init) := ggX1_init_X0_init
theorem dX1_init_0 : decode cX1_init 0 = .ok (.aload_n 0, 1) := by decide +kernel
theorem dX1_init_1 : decode cX1_init 1 = .ok (.invokespecial 1, 3) := by decide +kernel
theorem dX1_init_4 : decode cX1_init 4 = .ok (.aload_n 0, 1) := by decide +kernel
theorem dX1_init_5 : decode cX1_init 5 = .ok (.bipush 60, 2) := by decide +kernel
theorem dX1_init_7 : decode cX1_init 7 = .ok (.newarray .byte, 2) := by decide +kernel
theorem dX1_init_9 : decode cX1_init 9 = .ok (.putfield 9, 3) := by decide +kernel
theorem dX1_init_12 : decode cX1_init 12 = .ok (.aload_n 0, 1) := by decide +kernel
theorem dX1_init_13 : decode cX1_init 13 = .ok (.iconst 0, 1) := by decide +kernel
theorem dX1_init_14 : decode cX1_init 14 = .ok (.putfield 13, 3) := by decide +kernel
theorem dX1_init_17 : decode cX1_init 17 = .ok (.aload_n 0, 1) := by decide +kernel
theorem dX1_init_18 : decode cX1_init 18 = .ok (.bipush 39, 2) := by decide +kernel
theorem dX1_init_20 : decode cX1_init 20 = .ok (.newarray .byte, 2) := by decide +kernel
theorem dX1_init_22 : decode cX1_init 22 = .ok (.putfield 17, 3) := by decide +kernel
theorem dX1_init_25 : decode cX1_init 25 = .ok (.aload_n 0, 1) := by decide +kernel
theorem dX1_init_26 : decode cX1_init 26 = .ok (.iconst 0, 1) := by decide +kernel
theorem dX1_init_27 : decode cX1_init 27 = .ok (.putfield 20, 3) := by decide +kernel
theorem dX1_init_30 : decode cX1_init 30 = .ok (.aload_n 0, 1) := by decide +kernel
theorem dX1_init_31 : decode cX1_init 31 = .ok (.new 23, 3) := by decide +kernel
theorem dX1_init_34 : decode cX1_init 34 = .ok (.dup, 1) := by decide +kernel
theorem dX1_init_35 : decode cX1_init 35 = .ok (.invokespecial 25, 3) := by decide +kernel
theorem dX1_init_38 : decode cX1_init 38 = .ok (.putfield 26, 3) := by decide +kernel
theorem dX1_init_41 : decode cX1_init 41 = .ok (.aload_n 0, 1) := by decide +kernel
theorem dX1_init_42 : decode cX1_init 42 = .ok (.new 23, 3) := by decide +kernel
theorem dX1_init_45 : decode cX1_init 45 = .ok (.dup, 1) := by decide +kernel
theorem dX1_init_46 : decode cX1_init 46 = .ok (.invokespecial 25, 3) := by decide +kernel
theorem dX1_init_49 : decode cX1_init 49 = .ok (.putfield 30, 3) := by decide +kernel
theorem dX1_init_52 : decode cX1_init 52 = .ok (.aload_n 0, 1) := by decide +kernel
theorem dX1_init_53 : decode cX1_init 53 = .ok (.new 23, 3) := by decide +kernel
theorem dX1_init_56 : decode cX1_init 56 = .ok (.dup, 1) := by decide +kernel
theorem dX1_init_57 : decode cX1_init 57 = .ok (.invokespecial 25, 3) := by decide +kernel
theorem dX1_init_60 : decode cX1_init 60 = .ok (.putfield 33, 3) := by decide +kernel
theorem dX1_init_63 : decode cX1_init 63 = .ok (.return_, 1) := by decide +kernel
set_option maxRecDepth 20000 in
theorem ggX1_feed_X1_tapeNumber : GoodIn wsX1_feed wsX1_tapeNumber := goodIn_r _ [6, 7, 8, 9, 5, 10, 1, 11, 12, 13, 14, 15, 16, 17, 18] (by decide +kernel) (by decide +kernel)
set_option maxRecDepth 20000 in
theorem gX1_feed_X1_tapeNumber : GoodIn wsX1_feed (wsV RX1 36 RX1 yX1_tapeNumber wsX1_tapeNumber) := goodIn_app (goodIn_of _ (by decide +kernel)) ggX1_feed_X1_tapeNumber
theorem dX1_feed_0 : decode cX1_feed 0 = .ok (.aload_n 0, 1) := by decide +kernel
theorem dX1_feed_1 : decode cX1_feed 1 = .ok (.getfield 13, 3) := by decide +kernel
theorem dX1_feed_4 : decode cX1_feed 4 = .ok (.bipush 20, 2) := by decide +kernel
theorem dX1_feed_6 : decode cX1_feed 6 = .ok (.iadd, 1) := by decide +kernel
theorem dX1_feed_7 : decode cX1_feed 7 = .ok (.bipush 60, 2) := by decide +kernel
theorem dX1_feed_9 : decode cX1_feed 9 = .ok (.if_icmp .le 5, 3) := by decide +kernel
theorem dX1_feed_12 : decode cX1_feed 12 = .ok (.iconst 0, 1) := by decide +kernel
theorem dX1_feed_13 : decode cX1_feed 13 = .ok (.ireturn, 1) := by decide +kernel
theorem dX1_feed_14 : decode cX1_feed 14 = .ok (.aload_n 0, 1) := by decide +kernel
theorem dX1_feed_15 : decode cX1_feed 15 = .ok (.iload_n 1, 1) := by decide +kernel
theorem dX1_feed_16 : decode cX1_feed 16 = .ok (.invokevirtual 36, 3) := by decide +kernel
theorem dX1_feed_19 : decode cX1_feed 19 = .ok (.aload_n 0, 1) := by decide +kernel
theorem dX1_feed_20 : decode cX1_feed 20 = .ok (.iload_n 2, 1) := by decide +kernel
theorem dX1_feed_21 : decode cX1_feed 21 = .ok (.invokevirtual 36, 3) := by decide +kernel
theorem dX1_feed_24 : decode cX1_feed 24 = .ok (.aload_n 0, 1) := by decide +kernel
theorem dX1_feed_25 : decode cX1_feed 25 = .ok (.iload_n 3, 1) := by decide +kernel
theorem dX1_feed_26 : decode cX1_feed 26 = .ok (.invokevirtual 36, 3) := by decide +kernel
theorem dX1_feed_29 : decode cX1_feed 29 = .ok (.aload_n 0, 1) := by decide +kernel
theorem dX1_feed_30 : decode cX1_feed 30 = .ok (.iload 4, 2) := by decide +kernel
theorem dX1_feed_32 : decode cX1_feed 32 = .ok (.invokevirtual 36, 3) := by decide +kernel
theorem dX1_feed_35 : decode cX1_feed 35 = .ok (.aload_n 0, 1) := by decide +kernel
theorem dX1_feed_36 : decode cX1_feed 36 = .ok (.iload 5, 2) := by decide +kernel
theorem dX1_feed_38 : decode cX1_feed 38 = .ok (.invokevirtual 36, 3) := by decide +kernel
theorem dX1_feed_41 : decode cX1_feed 41 = .ok (.iconst 1, 1) := by decide +kernel
theorem dX1_feed_42 : decode cX1_feed 42 = .ok (.ireturn, 1) := by decide +kernel
theorem dX1_end_0 : decode cX1_end 0 = .ok (.iload_n 1, 1) := by decide +kernel
theorem dX1_end_1 : decode cX1_end 1 = .ok (.ifCond .lt 11, 3) := by decide +kernel
theorem dX1_end_4 : decode cX1_end 4 = .ok (.iload_n 1, 1) := by decide +kernel
theorem dX1_end_5 : decode cX1_end 5 = .ok (.aload_n 0, 1) := by decide +kernel
theorem dX1_end_6 : decode cX1_end 6 = .ok (.getfield 13, 3) := by decide +kernel
theorem dX1_end_9 : decode cX1_end 9 = .ok (.if_icmp .le 5, 3) := by decide +kernel
theorem dX1_end_12 : decode cX1_end 12 = .ok (.iconst 0, 1) := by decide +kernel
theorem dX1_end_13 : decode cX1_end 13 = .ok (.ireturn, 1) := by decide +kernel
theorem dX1_end_14 : decode cX1_end 14 = .ok (.aload_n 0, 1) := by decide +kernel
theorem dX1_end_15 : decode cX1_end 15 = .ok (.iload_n 1, 1) := by decide +kernel
theorem dX1_end_16 : decode cX1_end 16 = .ok (.putfield 13, 3) := by decide +kernel
theorem dX1_end_19 : decode cX1_end 19 = .ok (.iconst 1, 1) := by decide +kernel
theorem dX1_end_20 : decode cX1_end 20 = .ok (.ireturn, 1) := by decide +kernel
set_option maxRecDepth 20000 in
theorem ggX1_read_X1_readText : GoodIn wsX1_read wsX1_readText := goodIn_r _ [10, 1, 11, 12, 13, 9, 14, 15, 16, 17, 18, 19, 20, 21, 22, 23, 4, 24, 25, 26, 27, 28, 29, 30, 31, 32, 33, 34, 35, 36, 37, 38, 39, 40, 41, 42, 43, 44, 45, 46, 47, 48, 49, 50, 51, 52, 53, 54, 55, 56, 57, 58, 59, 60, 61, 62, 63, 64, 65, 66, 67, 68, 69, 70, 71, 72, 73, 74, 75, 76, 77, 78, 79, 80, 81, 82, 83, 84, 85, 86, 87] (by decide +kernel) (by decide +kernel)
set_option maxRecDepth 20000 in
theorem gX1_read_X1_readText : GoodIn wsX1_read (wsV RX1 40 RX1 yX1_readText wsX1_readText) := goodIn_app (goodIn_of _ (by decide +kernel)) ggX1_read_X1_readText
theorem dX1_read_0 : decode cX1_read 0 = .ok (.aload_n 0, 1) := by decide +kernel
theorem dX1_read_1 : decode cX1_read 1 = .ok (.invokevirtual 40, 3) := by decide +kernel
theorem dX1_read_4 : decode cX1_read 4 = .ok (.istore_n 1, 1) := by decide +kernel
theorem dX1_read_5 : decode cX1_read 5 = .ok (.aload_n 0, 1) := by decide +kernel
theorem dX1_read_6 : decode cX1_read 6 = .ok (.iconst 0, 1) := by decide +kernel
theorem dX1_read_7 : decode cX1_read 7 = .ok (.putfield 13, 3) := by decide +kernel
theorem dX1_read_10 : decode cX1_read 10 = .ok (.iload_n 1, 1) := by decide +kernel
theorem dX1_read_11 : decode cX1_read 11 = .ok (.ifCond .ne 5, 3) := by decide +kernel
theorem dX1_read_14 : decode cX1_read 14 = .ok (.iconst (-1), 1) := by decide +kernel
theorem dX1_read_15 : decode cX1_read 15 = .ok (.ireturn, 1) := by decide +kernel
theorem dX1_read_16 : decode cX1_read 16 = .ok (.aload_n 0, 1) := by decide +kernel
theorem dX1_read_17 : decode cX1_read 17 = .ok (.getfield 30, 3) := by decide +kernel
theorem dX1_read_20 : decode cX1_read 20 = .ok (.astore_n 2, 1) := by decide +kernel
theorem dX1_read_21 : decode cX1_read 21 = .ok (.aload_n 0, 1) := by decide +kernel
theorem dX1_read_22 : decode cX1_read 22 = .ok (.aload_n 0, 1) := by decide +kernel
theorem dX1_read_23 : decode cX1_read 23 = .ok (.getfield 26, 3) := by decide +kernel
theorem dX1_read_26 : decode cX1_read 26 = .ok (.putfield 30, 3) := by decide +kernel
theorem dX1_read_29 : decode cX1_read 29 = .ok (.aload_n 0, 1) := by decide +kernel
theorem dX1_read_30 : decode cX1_read 30 = .ok (.aload_n 0, 1) := by decide +kernel
theorem dX1_read_31 : decode cX1_read 31 = .ok (.getfield 33, 3) := by decide +kernel
theorem dX1_read_34 : decode cX1_read 34 = .ok (.putfield 26, 3) := by decide +kernel
theorem dX1_read_37 : decode cX1_read 37 = .ok (.aload_n 0, 1) := by decide +kernel
theorem dX1_read_38 : decode cX1_read 38 = .ok (.aload_n 2, 1) := by decide +kernel
theorem dX1_read_39 : decode cX1_read 39 = .ok (.putfield 33, 3) := by decide +kernel
theorem dX1_read_42 : decode cX1_read 42 = .ok (.aload_n 0, 1) := by decide +kernel
theorem dX1_read_43 : decode cX1_read 43 = .ok (.getfield 26, 3) := by decide +kernel
theorem dX1_read_46 : decode cX1_read 46 = .ok (.getfield 44, 3) := by decide +kernel
theorem dX1_read_49 : decode cX1_read 49 = .ok (.ireturn, 1) := by decide +kernel
set_option maxRecDepth 20000 in
theorem ggX1_length_X0_wholeLength : GoodIn wsX1_length wsX0_wholeLength := goodIn_r _ [8, 9, 31, 32, 33, 34] (by decide +kernel) (by decide +kernel)
set_option maxRecDepth 20000 in
theorem gX1_length_X0_wholeLength : GoodIn wsX1_length (wsV RX1 47 RX0 yX0_wholeLength wsX0_wholeLength) := goodIn_app (goodIn_of _ (by decide +kernel)) ggX1_length_X0_wholeLength
set_option maxRecDepth 20000 in
theorem ggX1_length_X1_decimalIn : GoodIn wsX1_length wsX1_decimalIn := goodIn_r _ [14, 15, 16, 17, 13, 18, 1, 19, 20, 21, 22, 23, 24, 25, 26, 27, 28, 29, 30] (by decide +kernel) (by decide +kernel)
set_option maxRecDepth 20000 in
theorem gX1_length_X1_decimalIn : GoodIn wsX1_length (wsV RX1 51 RX1 yX1_decimalIn wsX1_decimalIn) := goodIn_app (goodIn_of _ (by decide +kernel)) ggX1_length_X1_decimalIn
theorem dX1_length_0 : decode cX1_length 0 = .ok (.aload_n 0, 1) := by decide +kernel
theorem dX1_length_1 : decode cX1_length 1 = .ok (.iconst 0, 1) := by decide +kernel
theorem dX1_length_2 : decode cX1_length 2 = .ok (.aload_n 0, 1) := by decide +kernel
theorem dX1_length_3 : decode cX1_length 3 = .ok (.getfield 13, 3) := by decide +kernel
theorem dX1_length_6 : decode cX1_length 6 = .ok (.aload_n 0, 1) := by decide +kernel
theorem dX1_length_7 : decode cX1_length 7 = .ok (.getfield 26, 3) := by decide +kernel
theorem dX1_length_10 : decode cX1_length 10 = .ok (.invokevirtual 47, 3) := by decide +kernel
theorem dX1_length_13 : decode cX1_length 13 = .ok (.invokevirtual 51, 3) := by decide +kernel
theorem dX1_length_16 : decode cX1_length 16 = .ok (.istore_n 1, 1) := by decide +kernel
theorem dX1_length_17 : decode cX1_length 17 = .ok (.aload_n 0, 1) := by decide +kernel
theorem dX1_length_18 : decode cX1_length 18 = .ok (.iconst 0, 1) := by decide +kernel
theorem dX1_length_19 : decode cX1_length 19 = .ok (.putfield 13, 3) := by decide +kernel
theorem dX1_length_22 : decode cX1_length 22 = .ok (.iload_n 1, 1) := by decide +kernel
theorem dX1_length_23 : decode cX1_length 23 = .ok (.iconst (-1), 1) := by decide +kernel
theorem dX1_length_24 : decode cX1_length 24 = .ok (.if_icmp .eq 11, 3) := by decide +kernel
theorem dX1_length_27 : decode cX1_length 27 = .ok (.aload_n 0, 1) := by decide +kernel
theorem dX1_length_28 : decode cX1_length 28 = .ok (.getfield 26, 3) := by decide +kernel
theorem dX1_length_31 : decode cX1_length 31 = .ok (.iload_n 1, 1) := by decide +kernel
theorem dX1_length_32 : decode cX1_length 32 = .ok (.putfield 55, 3) := by decide +kernel
theorem dX1_length_35 : decode cX1_length 35 = .ok (.iload_n 1, 1) := by decide +kernel
theorem dX1_length_36 : decode cX1_length 36 = .ok (.ireturn, 1) := by decide +kernel
set_option maxRecDepth 20000 in
theorem ggX1_cut_X0_upperMask : GoodIn wsX1_cut wsX0_upperMask := goodIn_r _ [8, 9, 10, 11, 7, 12, 13, 14, 15, 16, 17, 18, 19, 20, 21, 22, 34, 35, 36, 37] (by decide +kernel) (by decide +kernel)
set_option maxRecDepth 20000 in
theorem gX1_cut_X0_upperMask : GoodIn wsX1_cut (wsV RX1 62 RX0 yX0_upperMask wsX0_upperMask) := goodIn_app (goodIn_of _ (by decide +kernel)) ggX1_cut_X0_upperMask
set_option maxRecDepth 20000 in
theorem ggX1_cut_X0_lowerMask : GoodIn wsX1_cut wsX0_lowerMask := goodIn_r _ [26, 9, 10, 11, 7, 12, 13, 14, 15, 16, 17, 18, 19, 20, 21, 22, 34, 35, 36, 37] (by decide +kernel) (by decide +kernel)
set_option maxRecDepth 20000 in
theorem gX1_cut_X0_lowerMask : GoodIn wsX1_cut (wsV RX1 69 RX0 yX0_lowerMask wsX0_lowerMask) := goodIn_app (goodIn_of _ (by decide +kernel)) ggX1_cut_X0_lowerMask
theorem dX1_cut_0 : decode cX1_cut 0 = .ok (.aload_n 0, 1) := by decide +kernel
theorem dX1_cut_1 : decode cX1_cut 1 = .ok (.getfield 26, 3) := by decide +kernel
theorem dX1_cut_4 : decode cX1_cut 4 = .ok (.getfield 58, 3) := by decide +kernel
theorem dX1_cut_7 : decode cX1_cut 7 = .ok (.aload_n 0, 1) := by decide +kernel
theorem dX1_cut_8 : decode cX1_cut 8 = .ok (.getfield 26, 3) := by decide +kernel
theorem dX1_cut_11 : decode cX1_cut 11 = .ok (.invokevirtual 62, 3) := by decide +kernel
theorem dX1_cut_14 : decode cX1_cut 14 = .ok (.land, 1) := by decide +kernel
theorem dX1_cut_15 : decode cX1_cut 15 = .ok (.lstore_n 1, 1) := by decide +kernel
theorem dX1_cut_16 : decode cX1_cut 16 = .ok (.aload_n 0, 1) := by decide +kernel
theorem dX1_cut_17 : decode cX1_cut 17 = .ok (.getfield 26, 3) := by decide +kernel
theorem dX1_cut_20 : decode cX1_cut 20 = .ok (.getfield 66, 3) := by decide +kernel
theorem dX1_cut_23 : decode cX1_cut 23 = .ok (.aload_n 0, 1) := by decide +kernel
theorem dX1_cut_24 : decode cX1_cut 24 = .ok (.getfield 26, 3) := by decide +kernel
theorem dX1_cut_27 : decode cX1_cut 27 = .ok (.invokevirtual 69, 3) := by decide +kernel
theorem dX1_cut_30 : decode cX1_cut 30 = .ok (.land, 1) := by decide +kernel
theorem dX1_cut_31 : decode cX1_cut 31 = .ok (.lstore_n 3, 1) := by decide +kernel
theorem dX1_cut_32 : decode cX1_cut 32 = .ok (.lload_n 1, 1) := by decide +kernel
theorem dX1_cut_33 : decode cX1_cut 33 = .ok (.aload_n 0, 1) := by decide +kernel
theorem dX1_cut_34 : decode cX1_cut 34 = .ok (.getfield 26, 3) := by decide +kernel
theorem dX1_cut_37 : decode cX1_cut 37 = .ok (.getfield 58, 3) := by decide +kernel
theorem dX1_cut_40 : decode cX1_cut 40 = .ok (.lcmp, 1) := by decide +kernel
theorem dX1_cut_41 : decode cX1_cut 41 = .ok (.ifCond .ne 15, 3) := by decide +kernel
theorem dX1_cut_44 : decode cX1_cut 44 = .ok (.lload_n 3, 1) := by decide +kernel
theorem dX1_cut_45 : decode cX1_cut 45 = .ok (.aload_n 0, 1) := by decide +kernel
theorem dX1_cut_46 : decode cX1_cut 46 = .ok (.getfield 26, 3) := by decide +kernel
theorem dX1_cut_49 : decode cX1_cut 49 = .ok (.getfield 66, 3) := by decide +kernel
theorem dX1_cut_52 : decode cX1_cut 52 = .ok (.lcmp, 1) := by decide +kernel
theorem dX1_cut_53 : decode cX1_cut 53 = .ok (.ifCond .eq 7, 3) := by decide +kernel
theorem dX1_cut_56 : decode cX1_cut 56 = .ok (.iconst 1, 1) := by decide +kernel
theorem dX1_cut_57 : decode cX1_cut 57 = .ok (.goto 4, 3) := by decide +kernel
theorem dX1_cut_60 : decode cX1_cut 60 = .ok (.iconst 0, 1) := by decide +kernel
theorem dX1_cut_61 : decode cX1_cut 61 = .ok (.istore 5, 2) := by decide +kernel
theorem dX1_cut_63 : decode cX1_cut 63 = .ok (.aload_n 0, 1) := by decide +kernel
theorem dX1_cut_64 : decode cX1_cut 64 = .ok (.getfield 26, 3) := by decide +kernel
theorem dX1_cut_67 : decode cX1_cut 67 = .ok (.lload_n 1, 1) := by decide +kernel
theorem dX1_cut_68 : decode cX1_cut 68 = .ok (.putfield 58, 3) := by decide +kernel
theorem dX1_cut_71 : decode cX1_cut 71 = .ok (.aload_n 0, 1) := by decide +kernel
theorem dX1_cut_72 : decode cX1_cut 72 = .ok (.getfield 26, 3) := by decide +kernel
theorem dX1_cut_75 : decode cX1_cut 75 = .ok (.lload_n 3, 1) := by decide +kernel
theorem dX1_cut_76 : decode cX1_cut 76 = .ok (.putfield 66, 3) := by decide +kernel
theorem dX1_cut_79 : decode cX1_cut 79 = .ok (.iload 5, 2) := by decide +kernel
theorem dX1_cut_81 : decode cX1_cut 81 = .ok (.ireturn, 1) := by decide +kernel
set_option maxRecDepth 20000 in
theorem ggX1_covers_X0_upperMask : GoodIn wsX1_covers wsX0_upperMask := goodIn_r _ [11, 12, 13, 14, 10, 15, 16, 17, 18, 19, 20, 21, 22, 23, 24, 25, 37, 38, 39, 40] (by decide +kernel) (by decide +kernel)
set_option maxRecDepth 20000 in
theorem gX1_covers_X0_upperMask : GoodIn wsX1_covers (wsV RX1 62 RX0 yX0_upperMask wsX0_upperMask) := goodIn_app (goodIn_of _ (by decide +kernel)) ggX1_covers_X0_upperMask
set_option maxRecDepth 20000 in
theorem ggX1_covers_X0_lowerMask : GoodIn wsX1_covers wsX0_lowerMask := goodIn_r _ [29, 12, 13, 14, 10, 15, 16, 17, 18, 19, 20, 21, 22, 23, 24, 25, 37, 38, 39, 40] (by decide +kernel) (by decide +kernel)
set_option maxRecDepth 20000 in
theorem gX1_covers_X0_lowerMask : GoodIn wsX1_covers (wsV RX1 69 RX0 yX0_lowerMask wsX0_lowerMask) := goodIn_app (goodIn_of _ (by decide +kernel)) ggX1_covers_X0_lowerMask
theorem dX1_covers_0 : decode cX1_covers 0 = .ok (.aload_n 0, 1) := by decide +kernel
theorem dX1_covers_1 : decode cX1_covers 1 = .ok (.getfield 26, 3) := by decide +kernel
theorem dX1_covers_4 : decode cX1_covers 4 = .ok (.getfield 44, 3) := by decide +kernel
theorem dX1_covers_7 : decode cX1_covers 7 = .ok (.aload_n 0, 1) := by decide +kernel
theorem dX1_covers_8 : decode cX1_covers 8 = .ok (.getfield 30, 3) := by decide +kernel
theorem dX1_covers_11 : decode cX1_covers 11 = .ok (.getfield 44, 3) := by decide +kernel
theorem dX1_covers_14 : decode cX1_covers 14 = .ok (.if_icmp .ne 80, 3) := by decide +kernel
theorem dX1_covers_17 : decode cX1_covers 17 = .ok (.aload_n 0, 1) := by decide +kernel
theorem dX1_covers_18 : decode cX1_covers 18 = .ok (.getfield 26, 3) := by decide +kernel
theorem dX1_covers_21 : decode cX1_covers 21 = .ok (.getfield 55, 3) := by decide +kernel
theorem dX1_covers_24 : decode cX1_covers 24 = .ok (.aload_n 0, 1) := by decide +kernel
theorem dX1_covers_25 : decode cX1_covers 25 = .ok (.getfield 30, 3) := by decide +kernel
theorem dX1_covers_28 : decode cX1_covers 28 = .ok (.getfield 55, 3) := by decide +kernel
theorem dX1_covers_31 : decode cX1_covers 31 = .ok (.if_icmp .gt 63, 3) := by decide +kernel
theorem dX1_covers_34 : decode cX1_covers 34 = .ok (.aload_n 0, 1) := by decide +kernel
theorem dX1_covers_35 : decode cX1_covers 35 = .ok (.getfield 26, 3) := by decide +kernel
theorem dX1_covers_38 : decode cX1_covers 38 = .ok (.getfield 58, 3) := by decide +kernel
theorem dX1_covers_41 : decode cX1_covers 41 = .ok (.aload_n 0, 1) := by decide +kernel
theorem dX1_covers_42 : decode cX1_covers 42 = .ok (.getfield 30, 3) := by decide +kernel
theorem dX1_covers_45 : decode cX1_covers 45 = .ok (.getfield 58, 3) := by decide +kernel
theorem dX1_covers_48 : decode cX1_covers 48 = .ok (.lxor, 1) := by decide +kernel
theorem dX1_covers_49 : decode cX1_covers 49 = .ok (.aload_n 0, 1) := by decide +kernel
theorem dX1_covers_50 : decode cX1_covers 50 = .ok (.getfield 26, 3) := by decide +kernel
theorem dX1_covers_53 : decode cX1_covers 53 = .ok (.invokevirtual 62, 3) := by decide +kernel
theorem dX1_covers_56 : decode cX1_covers 56 = .ok (.land, 1) := by decide +kernel
theorem dX1_covers_57 : decode cX1_covers 57 = .ok (.lconst 0, 1) := by decide +kernel
theorem dX1_covers_58 : decode cX1_covers 58 = .ok (.lcmp, 1) := by decide +kernel
theorem dX1_covers_59 : decode cX1_covers 59 = .ok (.ifCond .ne 35, 3) := by decide +kernel
theorem dX1_covers_62 : decode cX1_covers 62 = .ok (.aload_n 0, 1) := by decide +kernel
theorem dX1_covers_63 : decode cX1_covers 63 = .ok (.getfield 26, 3) := by decide +kernel
theorem dX1_covers_66 : decode cX1_covers 66 = .ok (.getfield 66, 3) := by decide +kernel
theorem dX1_covers_69 : decode cX1_covers 69 = .ok (.aload_n 0, 1) := by decide +kernel
theorem dX1_covers_70 : decode cX1_covers 70 = .ok (.getfield 30, 3) := by decide +kernel
theorem dX1_covers_73 : decode cX1_covers 73 = .ok (.getfield 66, 3) := by decide +kernel
theorem dX1_covers_76 : decode cX1_covers 76 = .ok (.lxor, 1) := by decide +kernel
theorem dX1_covers_77 : decode cX1_covers 77 = .ok (.aload_n 0, 1) := by decide +kernel
theorem dX1_covers_78 : decode cX1_covers 78 = .ok (.getfield 26, 3) := by decide +kernel
theorem dX1_covers_81 : decode cX1_covers 81 = .ok (.invokevirtual 69, 3) := by decide +kernel
theorem dX1_covers_84 : decode cX1_covers 84 = .ok (.land, 1) := by decide +kernel
theorem dX1_covers_85 : decode cX1_covers 85 = .ok (.lconst 0, 1) := by decide +kernel
theorem dX1_covers_86 : decode cX1_covers 86 = .ok (.lcmp, 1) := by decide +kernel
theorem dX1_covers_87 : decode cX1_covers 87 = .ok (.ifCond .ne 7, 3) := by decide +kernel
theorem dX1_covers_90 : decode cX1_covers 90 = .ok (.iconst 1, 1) := by decide +kernel
theorem dX1_covers_91 : decode cX1_covers 91 = .ok (.goto 4, 3) := by decide +kernel
theorem dX1_covers_94 : decode cX1_covers 94 = .ok (.iconst 0, 1) := by decide +kernel
theorem dX1_covers_95 : decode cX1_covers 95 = .ok (.ireturn, 1) := by decide +kernel
set_option maxRecDepth 20000 in
theorem ggX1_order_X1_isBelow : GoodIn wsX1_order wsX1_isBelow := goodIn_r _ [10, 11] (by decide +kernel) (by decide +kernel)
set_option maxRecDepth 20000 in
theorem gX1_order_X1_isBelow : GoodIn wsX1_order (va_wsS RX1 72 yX1_isBelow wsX1_isBelow) := goodIn_app (goodIn_of _ (by decide +kernel)) ggX1_order_X1_isBelow
theorem dX1_order_0 : decode cX1_order 0 = .ok (.aload_n 0, 1) := by decide +kernel
theorem dX1_order_1 : decode cX1_order 1 = .ok (.getfield 26, 3) := by decide +kernel
theorem dX1_order_4 : decode cX1_order 4 = .ok (.getfield 44, 3) := by decide +kernel
theorem dX1_order_7 : decode cX1_order 7 = .ok (.aload_n 0, 1) := by decide +kernel
theorem dX1_order_8 : decode cX1_order 8 = .ok (.getfield 30, 3) := by decide +kernel
theorem dX1_order_11 : decode cX1_order 11 = .ok (.getfield 44, 3) := by decide +kernel
theorem dX1_order_14 : decode cX1_order 14 = .ok (.if_icmp .eq 20, 3) := by decide +kernel
theorem dX1_order_17 : decode cX1_order 17 = .ok (.aload_n 0, 1) := by decide +kernel
theorem dX1_order_18 : decode cX1_order 18 = .ok (.getfield 26, 3) := by decide +kernel
theorem dX1_order_21 : decode cX1_order 21 = .ok (.getfield 44, 3) := by decide +kernel
theorem dX1_order_24 : decode cX1_order 24 = .ok (.iconst 4, 1) := by decide +kernel
theorem dX1_order_25 : decode cX1_order 25 = .ok (.if_icmp .ne 7, 3) := by decide +kernel
theorem dX1_order_28 : decode cX1_order 28 = .ok (.iconst (-1), 1) := by decide +kernel
theorem dX1_order_29 : decode cX1_order 29 = .ok (.goto 4, 3) := by decide +kernel
theorem dX1_order_32 : decode cX1_order 32 = .ok (.iconst 1, 1) := by decide +kernel
theorem dX1_order_33 : decode cX1_order 33 = .ok (.ireturn, 1) := by decide +kernel
theorem dX1_order_34 : decode cX1_order 34 = .ok (.aload_n 0, 1) := by decide +kernel
theorem dX1_order_35 : decode cX1_order 35 = .ok (.getfield 26, 3) := by decide +kernel
theorem dX1_order_38 : decode cX1_order 38 = .ok (.getfield 58, 3) := by decide +kernel
theorem dX1_order_41 : decode cX1_order 41 = .ok (.aload_n 0, 1) := by decide +kernel
theorem dX1_order_42 : decode cX1_order 42 = .ok (.getfield 30, 3) := by decide +kernel
theorem dX1_order_45 : decode cX1_order 45 = .ok (.getfield 58, 3) := by decide +kernel
theorem dX1_order_48 : decode cX1_order 48 = .ok (.lcmp, 1) := by decide +kernel
theorem dX1_order_49 : decode cX1_order 49 = .ok (.ifCond .eq 29, 3) := by decide +kernel
theorem dX1_order_52 : decode cX1_order 52 = .ok (.aload_n 0, 1) := by decide +kernel
theorem dX1_order_53 : decode cX1_order 53 = .ok (.getfield 26, 3) := by decide +kernel
theorem dX1_order_56 : decode cX1_order 56 = .ok (.getfield 58, 3) := by decide +kernel
theorem dX1_order_59 : decode cX1_order 59 = .ok (.aload_n 0, 1) := by decide +kernel
theorem dX1_order_60 : decode cX1_order 60 = .ok (.getfield 30, 3) := by decide +kernel
theorem dX1_order_63 : decode cX1_order 63 = .ok (.getfield 58, 3) := by decide +kernel
theorem dX1_order_66 : decode cX1_order 66 = .ok (.invokestatic 72, 3) := by decide +kernel
theorem dX1_order_69 : decode cX1_order 69 = .ok (.ifCond .eq 7, 3) := by decide +kernel
theorem dX1_order_72 : decode cX1_order 72 = .ok (.iconst (-1), 1) := by decide +kernel
theorem dX1_order_73 : decode cX1_order 73 = .ok (.goto 4, 3) := by decide +kernel
theorem dX1_order_76 : decode cX1_order 76 = .ok (.iconst 1, 1) := by decide +kernel
theorem dX1_order_77 : decode cX1_order 77 = .ok (.ireturn, 1) := by decide +kernel
theorem dX1_order_78 : decode cX1_order 78 = .ok (.aload_n 0, 1) := by decide +kernel
theorem dX1_order_79 : decode cX1_order 79 = .ok (.getfield 26, 3) := by decide +kernel
theorem dX1_order_82 : decode cX1_order 82 = .ok (.getfield 66, 3) := by decide +kernel
theorem dX1_order_85 : decode cX1_order 85 = .ok (.aload_n 0, 1) := by decide +kernel
theorem dX1_order_86 : decode cX1_order 86 = .ok (.getfield 30, 3) := by decide +kernel
theorem dX1_order_89 : decode cX1_order 89 = .ok (.getfield 66, 3) := by decide +kernel
theorem dX1_order_92 : decode cX1_order 92 = .ok (.lcmp, 1) := by decide +kernel
theorem dX1_order_93 : decode cX1_order 93 = .ok (.ifCond .eq 29, 3) := by decide +kernel
theorem dX1_order_96 : decode cX1_order 96 = .ok (.aload_n 0, 1) := by decide +kernel
theorem dX1_order_97 : decode cX1_order 97 = .ok (.getfield 26, 3) := by decide +kernel
theorem dX1_order_100 : decode cX1_order 100 = .ok (.getfield 66, 3) := by decide +kernel
theorem dX1_order_103 : decode cX1_order 103 = .ok (.aload_n 0, 1) := by decide +kernel
theorem dX1_order_104 : decode cX1_order 104 = .ok (.getfield 30, 3) := by decide +kernel
theorem dX1_order_107 : decode cX1_order 107 = .ok (.getfield 66, 3) := by decide +kernel
theorem dX1_order_110 : decode cX1_order 110 = .ok (.invokestatic 72, 3) := by decide +kernel
theorem dX1_order_113 : decode cX1_order 113 = .ok (.ifCond .eq 7, 3) := by decide +kernel
theorem dX1_order_116 : decode cX1_order 116 = .ok (.iconst (-1), 1) := by decide +kernel
theorem dX1_order_117 : decode cX1_order 117 = .ok (.goto 4, 3) := by decide +kernel
theorem dX1_order_120 : decode cX1_order 120 = .ok (.iconst 1, 1) := by decide +kernel
theorem dX1_order_121 : decode cX1_order 121 = .ok (.ireturn, 1) := by decide +kernel
theorem dX1_order_122 : decode cX1_order 122 = .ok (.aload_n 0, 1) := by decide +kernel
theorem dX1_order_123 : decode cX1_order 123 = .ok (.getfield 26, 3) := by decide +kernel
theorem dX1_order_126 : decode cX1_order 126 = .ok (.getfield 55, 3) := by decide +kernel
theorem dX1_order_129 : decode cX1_order 129 = .ok (.aload_n 0, 1) := by decide +kernel
theorem dX1_order_130 : decode cX1_order 130 = .ok (.getfield 30, 3) := by decide +kernel
theorem dX1_order_133 : decode cX1_order 133 = .ok (.getfield 55, 3) := by decide +kernel
theorem dX1_order_136 : decode cX1_order 136 = .ok (.if_icmp .eq 26, 3) := by decide +kernel
theorem dX1_order_139 : decode cX1_order 139 = .ok (.aload_n 0, 1) := by decide +kernel
theorem dX1_order_140 : decode cX1_order 140 = .ok (.getfield 26, 3) := by decide +kernel
theorem dX1_order_143 : decode cX1_order 143 = .ok (.getfield 55, 3) := by decide +kernel
theorem dX1_order_146 : decode cX1_order 146 = .ok (.aload_n 0, 1) := by decide +kernel
theorem dX1_order_147 : decode cX1_order 147 = .ok (.getfield 30, 3) := by decide +kernel
theorem dX1_order_150 : decode cX1_order 150 = .ok (.getfield 55, 3) := by decide +kernel
theorem dX1_order_153 : decode cX1_order 153 = .ok (.if_icmp .ge 7, 3) := by decide +kernel
theorem dX1_order_156 : decode cX1_order 156 = .ok (.iconst (-1), 1) := by decide +kernel
theorem dX1_order_157 : decode cX1_order 157 = .ok (.goto 4, 3) := by decide +kernel
theorem dX1_order_160 : decode cX1_order 160 = .ok (.iconst 1, 1) := by decide +kernel
theorem dX1_order_161 : decode cX1_order 161 = .ok (.ireturn, 1) := by decide +kernel
theorem dX1_order_162 : decode cX1_order 162 = .ok (.iconst 0, 1) := by decide +kernel
theorem dX1_order_163 : decode cX1_order 163 = .ok (.ireturn, 1) := by decide +kernel
theorem dX1_turn_0 : decode cX1_turn 0 = .ok (.aload_n 0, 1) := by decide +kernel
theorem dX1_turn_1 : decode cX1_turn 1 = .ok (.getfield 26, 3) := by decide +kernel
theorem dX1_turn_4 : decode cX1_turn 4 = .ok (.astore_n 1, 1) := by decide +kernel
theorem dX1_turn_5 : decode cX1_turn 5 = .ok (.aload_n 0, 1) := by decide +kernel
theorem dX1_turn_6 : decode cX1_turn 6 = .ok (.aload_n 0, 1) := by decide +kernel
theorem dX1_turn_7 : decode cX1_turn 7 = .ok (.getfield 30, 3) := by decide +kernel
theorem dX1_turn_10 : decode cX1_turn 10 = .ok (.putfield 26, 3) := by decide +kernel
theorem dX1_turn_13 : decode cX1_turn 13 = .ok (.aload_n 0, 1) := by decide +kernel
theorem dX1_turn_14 : decode cX1_turn 14 = .ok (.aload_n 1, 1) := by decide +kernel
theorem dX1_turn_15 : decode cX1_turn 15 = .ok (.putfield 30, 3) := by decide +kernel
theorem dX1_turn_18 : decode cX1_turn 18 = .ok (.return_, 1) := by decide +kernel
set_option maxRecDepth 20000 in
theorem ggX1_write_X1_writeNumbers : GoodIn wsX1_write wsX1_writeNumbers := goodIn_r _ [8, 2, 9, 10, 11, 12, 7, 13, 1, 14, 15, 16, 17, 18, 19, 20, 21, 22, 52, 53, 54, 55, 56, 57, 58, 59, 60, 61, 62] (by decide +kernel) (by decide +kernel)
set_option maxRecDepth 20000 in
theorem gX1_write_X1_writeNumbers : GoodIn wsX1_write (wsV RX1 76 RX1 yX1_writeNumbers wsX1_writeNumbers) := goodIn_app (goodIn_of _ (by decide +kernel)) ggX1_write_X1_writeNumbers
set_option maxRecDepth 20000 in
theorem ggX1_write_X1_writeParts : GoodIn wsX1_write wsX1_writeParts := goodIn_r _ [26, 2, 27, 28, 29, 30, 31, 32, 33, 34, 35, 36, 37, 38, 39, 40, 41, 42, 43, 44, 45, 46, 10, 11, 12, 7, 13, 1, 14, 47, 48, 49, 50, 51, 19, 20, 21, 22, 52, 53, 54, 55, 56, 57, 58, 59, 60, 61, 62] (by decide +kernel) (by decide +kernel)
set_option maxRecDepth 20000 in
theorem gX1_write_X1_writeParts : GoodIn wsX1_write (wsV RX1 79 RX1 yX1_writeParts wsX1_writeParts) := goodIn_app (goodIn_of _ (by decide +kernel)) ggX1_write_X1_writeParts
theorem dX1_write_0 : decode cX1_write 0 = .ok (.aload_n 0, 1) := by decide +kernel
theorem dX1_write_1 : decode cX1_write 1 = .ok (.iconst 0, 1) := by decide +kernel
theorem dX1_write_2 : decode cX1_write 2 = .ok (.putfield 20, 3) := by decide +kernel
theorem dX1_write_5 : decode cX1_write 5 = .ok (.aload_n 0, 1) := by decide +kernel
theorem dX1_write_6 : decode cX1_write 6 = .ok (.getfield 26, 3) := by decide +kernel
theorem dX1_write_9 : decode cX1_write 9 = .ok (.getfield 44, 3) := by decide +kernel
theorem dX1_write_12 : decode cX1_write 12 = .ok (.iconst 4, 1) := by decide +kernel
theorem dX1_write_13 : decode cX1_write 13 = .ok (.if_icmp .ne 10, 3) := by decide +kernel
theorem dX1_write_16 : decode cX1_write 16 = .ok (.aload_n 0, 1) := by decide +kernel
theorem dX1_write_17 : decode cX1_write 17 = .ok (.invokevirtual 76, 3) := by decide +kernel
theorem dX1_write_20 : decode cX1_write 20 = .ok (.goto 7, 3) := by decide +kernel
theorem dX1_write_23 : decode cX1_write 23 = .ok (.aload_n 0, 1) := by decide +kernel
theorem dX1_write_24 : decode cX1_write 24 = .ok (.invokevirtual 79, 3) := by decide +kernel
theorem dX1_write_27 : decode cX1_write 27 = .ok (.aload_n 0, 1) := by decide +kernel
theorem dX1_write_28 : decode cX1_write 28 = .ok (.getfield 20, 3) := by decide +kernel
theorem dX1_write_31 : decode cX1_write 31 = .ok (.ireturn, 1) := by decide +kernel
theorem dX1_writtenAt_0 : decode cX1_writtenAt 0 = .ok (.iload_n 1, 1) := by decide +kernel
theorem dX1_writtenAt_1 : decode cX1_writtenAt 1 = .ok (.ifCond .lt 24, 3) := by decide +kernel
theorem dX1_writtenAt_4 : decode cX1_writtenAt 4 = .ok (.iload_n 1, 1) := by decide +kernel
theorem dX1_writtenAt_5 : decode cX1_writtenAt 5 = .ok (.aload_n 0, 1) := by decide +kernel
theorem dX1_writtenAt_6 : decode cX1_writtenAt 6 = .ok (.getfield 20, 3) := by decide +kernel
theorem dX1_writtenAt_9 : decode cX1_writtenAt 9 = .ok (.if_icmp .ge 16, 3) := by decide +kernel
theorem dX1_writtenAt_12 : decode cX1_writtenAt 12 = .ok (.aload_n 0, 1) := by decide +kernel
theorem dX1_writtenAt_13 : decode cX1_writtenAt 13 = .ok (.getfield 17, 3) := by decide +kernel
theorem dX1_writtenAt_16 : decode cX1_writtenAt 16 = .ok (.iload_n 1, 1) := by decide +kernel
theorem dX1_writtenAt_17 : decode cX1_writtenAt 17 = .ok (.baload, 1) := by decide +kernel
theorem dX1_writtenAt_18 : decode cX1_writtenAt 18 = .ok (.sipush 255, 3) := by decide +kernel
theorem dX1_writtenAt_21 : decode cX1_writtenAt 21 = .ok (.iand, 1) := by decide +kernel
theorem dX1_writtenAt_22 : decode cX1_writtenAt 22 = .ok (.goto 4, 3) := by decide +kernel
theorem dX1_writtenAt_25 : decode cX1_writtenAt 25 = .ok (.iconst (-1), 1) := by decide +kernel
theorem dX1_writtenAt_26 : decode cX1_writtenAt 26 = .ok (.ireturn, 1) := by decide +kernel
theorem dX1_bits_0 : decode cX1_bits 0 = .ok (.iload_n 1, 1) := by decide +kernel
theorem dX1_bits_1 : decode cX1_bits 1 = .ok (.ifCond .ne 11, 3) := by decide +kernel
theorem dX1_bits_4 : decode cX1_bits 4 = .ok (.aload_n 0, 1) := by decide +kernel
theorem dX1_bits_5 : decode cX1_bits 5 = .ok (.getfield 26, 3) := by decide +kernel
theorem dX1_bits_8 : decode cX1_bits 8 = .ok (.getfield 58, 3) := by decide +kernel
theorem dX1_bits_11 : decode cX1_bits 11 = .ok (.lreturn, 1) := by decide +kernel
theorem dX1_bits_12 : decode cX1_bits 12 = .ok (.iload_n 1, 1) := by decide +kernel
theorem dX1_bits_13 : decode cX1_bits 13 = .ok (.iconst 1, 1) := by decide +kernel
theorem dX1_bits_14 : decode cX1_bits 14 = .ok (.if_icmp .ne 13, 3) := by decide +kernel
theorem dX1_bits_17 : decode cX1_bits 17 = .ok (.aload_n 0, 1) := by decide +kernel
theorem dX1_bits_18 : decode cX1_bits 18 = .ok (.getfield 26, 3) := by decide +kernel
theorem dX1_bits_21 : decode cX1_bits 21 = .ok (.getfield 66, 3) := by decide +kernel
theorem dX1_bits_24 : decode cX1_bits 24 = .ok (.goto 4, 3) := by decide +kernel
theorem dX1_bits_27 : decode cX1_bits 27 = .ok (.lconst 0, 1) := by decide +kernel
theorem dX1_bits_28 : decode cX1_bits 28 = .ok (.lreturn, 1) := by decide +kernel
set_option maxRecDepth 20000 in
theorem ggX1_tapeNumber_X1_tapeByte : GoodIn wsX1_tapeNumber wsX1_tapeByte := goodIn_r _ [5, 6, 7, 8, 9, 10, 11, 12, 13, 14] (by decide +kernel) (by decide +kernel)
set_option maxRecDepth 20000 in
theorem gX1_tapeNumber_X1_tapeByte : GoodIn wsX1_tapeNumber (wsV RX1 82 RX1 yX1_tapeByte wsX1_tapeByte) := goodIn_app (goodIn_of _ (by decide +kernel)) ggX1_tapeNumber_X1_tapeByte
theorem dX1_tapeNumber_0 : decode cX1_tapeNumber 0 = .ok (.bipush 24, 2) := by decide +kernel
theorem dX1_tapeNumber_2 : decode cX1_tapeNumber 2 = .ok (.istore_n 2, 1) := by decide +kernel
theorem dX1_tapeNumber_3 : decode cX1_tapeNumber 3 = .ok (.iload_n 2, 1) := by decide +kernel
theorem dX1_tapeNumber_4 : decode cX1_tapeNumber 4 = .ok (.ifCond .lt 16, 3) := by decide +kernel
theorem dX1_tapeNumber_7 : decode cX1_tapeNumber 7 = .ok (.aload_n 0, 1) := by decide +kernel
theorem dX1_tapeNumber_8 : decode cX1_tapeNumber 8 = .ok (.iload_n 1, 1) := by decide +kernel
theorem dX1_tapeNumber_9 : decode cX1_tapeNumber 9 = .ok (.iload_n 2, 1) := by decide +kernel
theorem dX1_tapeNumber_10 : decode cX1_tapeNumber 10 = .ok (.iushr, 1) := by decide +kernel
theorem dX1_tapeNumber_11 : decode cX1_tapeNumber 11 = .ok (.invokevirtual 82, 3) := by decide +kernel
theorem dX1_tapeNumber_14 : decode cX1_tapeNumber 14 = .ok (.iinc 2 (-8), 3) := by decide +kernel
theorem dX1_tapeNumber_17 : decode cX1_tapeNumber 17 = .ok (.goto (-14), 3) := by decide +kernel
theorem dX1_tapeNumber_20 : decode cX1_tapeNumber 20 = .ok (.return_, 1) := by decide +kernel
theorem dX1_tapeByte_0 : decode cX1_tapeByte 0 = .ok (.aload_n 0, 1) := by decide +kernel
theorem dX1_tapeByte_1 : decode cX1_tapeByte 1 = .ok (.getfield 13, 3) := by decide +kernel
theorem dX1_tapeByte_4 : decode cX1_tapeByte 4 = .ok (.aload_n 0, 1) := by decide +kernel
theorem dX1_tapeByte_5 : decode cX1_tapeByte 5 = .ok (.getfield 9, 3) := by decide +kernel
theorem dX1_tapeByte_8 : decode cX1_tapeByte 8 = .ok (.arraylength, 1) := by decide +kernel
theorem dX1_tapeByte_9 : decode cX1_tapeByte 9 = .ok (.if_icmp .ge 24, 3) := by decide +kernel
theorem dX1_tapeByte_12 : decode cX1_tapeByte 12 = .ok (.aload_n 0, 1) := by decide +kernel
theorem dX1_tapeByte_13 : decode cX1_tapeByte 13 = .ok (.getfield 9, 3) := by decide +kernel
theorem dX1_tapeByte_16 : decode cX1_tapeByte 16 = .ok (.aload_n 0, 1) := by decide +kernel
theorem dX1_tapeByte_17 : decode cX1_tapeByte 17 = .ok (.getfield 13, 3) := by decide +kernel
theorem dX1_tapeByte_20 : decode cX1_tapeByte 20 = .ok (.iload_n 1, 1) := by decide +kernel
theorem dX1_tapeByte_21 : decode cX1_tapeByte 21 = .ok (.i2b, 1) := by decide +kernel
theorem dX1_tapeByte_22 : decode cX1_tapeByte 22 = .ok (.bastore, 1) := by decide +kernel
theorem dX1_tapeByte_23 : decode cX1_tapeByte 23 = .ok (.aload_n 0, 1) := by decide +kernel
theorem dX1_tapeByte_24 : decode cX1_tapeByte 24 = .ok (.dup, 1) := by decide +kernel
theorem dX1_tapeByte_25 : decode cX1_tapeByte 25 = .ok (.getfield 13, 3) := by decide +kernel
theorem dX1_tapeByte_28 : decode cX1_tapeByte 28 = .ok (.iconst 1, 1) := by decide +kernel
theorem dX1_tapeByte_29 : decode cX1_tapeByte 29 = .ok (.iadd, 1) := by decide +kernel
theorem dX1_tapeByte_30 : decode cX1_tapeByte 30 = .ok (.putfield 13, 3) := by decide +kernel
theorem dX1_tapeByte_33 : decode cX1_tapeByte 33 = .ok (.return_, 1) := by decide +kernel
theorem dX1_tapeAt_0 : decode cX1_tapeAt 0 = .ok (.iload_n 1, 1) := by decide +kernel
theorem dX1_tapeAt_1 : decode cX1_tapeAt 1 = .ok (.ifCond .lt 24, 3) := by decide +kernel
theorem dX1_tapeAt_4 : decode cX1_tapeAt 4 = .ok (.iload_n 1, 1) := by decide +kernel
theorem dX1_tapeAt_5 : decode cX1_tapeAt 5 = .ok (.aload_n 0, 1) := by decide +kernel
theorem dX1_tapeAt_6 : decode cX1_tapeAt 6 = .ok (.getfield 13, 3) := by decide +kernel
theorem dX1_tapeAt_9 : decode cX1_tapeAt 9 = .ok (.if_icmp .ge 16, 3) := by decide +kernel
theorem dX1_tapeAt_12 : decode cX1_tapeAt 12 = .ok (.aload_n 0, 1) := by decide +kernel
theorem dX1_tapeAt_13 : decode cX1_tapeAt 13 = .ok (.getfield 9, 3) := by decide +kernel
theorem dX1_tapeAt_16 : decode cX1_tapeAt 16 = .ok (.iload_n 1, 1) := by decide +kernel
theorem dX1_tapeAt_17 : decode cX1_tapeAt 17 = .ok (.baload, 1) := by decide +kernel
theorem dX1_tapeAt_18 : decode cX1_tapeAt 18 = .ok (.sipush 255, 3) := by decide +kernel
theorem dX1_tapeAt_21 : decode cX1_tapeAt 21 = .ok (.iand, 1) := by decide +kernel
theorem dX1_tapeAt_22 : decode cX1_tapeAt 22 = .ok (.goto 4, 3) := by decide +kernel
theorem dX1_tapeAt_25 : decode cX1_tapeAt 25 = .ok (.iconst (-1), 1) := by decide +kernel
theorem dX1_tapeAt_26 : decode cX1_tapeAt 26 = .ok (.ireturn, 1) := by decide +kernel
set_option maxRecDepth 20000 in
theorem ggX1_placeOf_X1_tapeAt : GoodIn wsX1_placeOf wsX1_tapeAt := goodIn_r _ [6, 1, 7, 8, 9, 10, 11, 12, 13, 14] (by decide +kernel) (by decide +kernel)
set_option maxRecDepth 20000 in
theorem gX1_placeOf_X1_tapeAt : GoodIn wsX1_placeOf (wsV RX1 85 RX1 yX1_tapeAt wsX1_tapeAt) := goodIn_app (goodIn_of _ (by decide +kernel)) ggX1_placeOf_X1_tapeAt
theorem dX1_placeOf_0 : decode cX1_placeOf 0 = .ok (.iload_n 2, 1) := by decide +kernel
theorem dX1_placeOf_1 : decode cX1_placeOf 1 = .ok (.istore_n 3, 1) := by decide +kernel
theorem dX1_placeOf_2 : decode cX1_placeOf 2 = .ok (.iload_n 3, 1) := by decide +kernel
theorem dX1_placeOf_3 : decode cX1_placeOf 3 = .ok (.aload_n 0, 1) := by decide +kernel
theorem dX1_placeOf_4 : decode cX1_placeOf 4 = .ok (.getfield 13, 3) := by decide +kernel
theorem dX1_placeOf_7 : decode cX1_placeOf 7 = .ok (.if_icmp .ge 20, 3) := by decide +kernel
theorem dX1_placeOf_10 : decode cX1_placeOf 10 = .ok (.aload_n 0, 1) := by decide +kernel
theorem dX1_placeOf_11 : decode cX1_placeOf 11 = .ok (.iload_n 3, 1) := by decide +kernel
theorem dX1_placeOf_12 : decode cX1_placeOf 12 = .ok (.invokevirtual 85, 3) := by decide +kernel
theorem dX1_placeOf_15 : decode cX1_placeOf 15 = .ok (.iload_n 1, 1) := by decide +kernel
theorem dX1_placeOf_16 : decode cX1_placeOf 16 = .ok (.if_icmp .ne 5, 3) := by decide +kernel
theorem dX1_placeOf_19 : decode cX1_placeOf 19 = .ok (.iload_n 3, 1) := by decide +kernel
theorem dX1_placeOf_20 : decode cX1_placeOf 20 = .ok (.ireturn, 1) := by decide +kernel
theorem dX1_placeOf_21 : decode cX1_placeOf 21 = .ok (.iinc 3 1, 3) := by decide +kernel
theorem dX1_placeOf_24 : decode cX1_placeOf 24 = .ok (.goto (-22), 3) := by decide +kernel
theorem dX1_placeOf_27 : decode cX1_placeOf 27 = .ok (.aload_n 0, 1) := by decide +kernel
theorem dX1_placeOf_28 : decode cX1_placeOf 28 = .ok (.getfield 13, 3) := by decide +kernel
theorem dX1_placeOf_31 : decode cX1_placeOf 31 = .ok (.ireturn, 1) := by decide +kernel
set_option maxRecDepth 20000 in
theorem ggX1_placeOfGap_X1_tapeAt : GoodIn wsX1_placeOfGap wsX1_tapeAt := goodIn_r _ [6, 1, 7, 8, 9, 10, 11, 12, 13, 14] (by decide +kernel) (by decide +kernel)
set_option maxRecDepth 20000 in
theorem gX1_placeOfGap_X1_tapeAt : GoodIn wsX1_placeOfGap (wsV RX1 85 RX1 yX1_tapeAt wsX1_tapeAt) := goodIn_app (goodIn_of _ (by decide +kernel)) ggX1_placeOfGap_X1_tapeAt
theorem dX1_placeOfGap_0 : decode cX1_placeOfGap 0 = .ok (.iconst 0, 1) := by decide +kernel
theorem dX1_placeOfGap_1 : decode cX1_placeOfGap 1 = .ok (.istore_n 1, 1) := by decide +kernel
theorem dX1_placeOfGap_2 : decode cX1_placeOfGap 2 = .ok (.iload_n 1, 1) := by decide +kernel
theorem dX1_placeOfGap_3 : decode cX1_placeOfGap 3 = .ok (.aload_n 0, 1) := by decide +kernel
theorem dX1_placeOfGap_4 : decode cX1_placeOfGap 4 = .ok (.getfield 13, 3) := by decide +kernel
theorem dX1_placeOfGap_7 : decode cX1_placeOfGap 7 = .ok (.if_icmp .ge 33, 3) := by decide +kernel
theorem dX1_placeOfGap_10 : decode cX1_placeOfGap 10 = .ok (.aload_n 0, 1) := by decide +kernel
theorem dX1_placeOfGap_11 : decode cX1_placeOfGap 11 = .ok (.iload_n 1, 1) := by decide +kernel
theorem dX1_placeOfGap_12 : decode cX1_placeOfGap 12 = .ok (.invokevirtual 85, 3) := by decide +kernel
theorem dX1_placeOfGap_15 : decode cX1_placeOfGap 15 = .ok (.bipush 58, 2) := by decide +kernel
theorem dX1_placeOfGap_17 : decode cX1_placeOfGap 17 = .ok (.if_icmp .ne 17, 3) := by decide +kernel
theorem dX1_placeOfGap_20 : decode cX1_placeOfGap 20 = .ok (.aload_n 0, 1) := by decide +kernel
theorem dX1_placeOfGap_21 : decode cX1_placeOfGap 21 = .ok (.iload_n 1, 1) := by decide +kernel
theorem dX1_placeOfGap_22 : decode cX1_placeOfGap 22 = .ok (.iconst 1, 1) := by decide +kernel
theorem dX1_placeOfGap_23 : decode cX1_placeOfGap 23 = .ok (.iadd, 1) := by decide +kernel
theorem dX1_placeOfGap_24 : decode cX1_placeOfGap 24 = .ok (.invokevirtual 85, 3) := by decide +kernel
theorem dX1_placeOfGap_27 : decode cX1_placeOfGap 27 = .ok (.bipush 58, 2) := by decide +kernel
theorem dX1_placeOfGap_29 : decode cX1_placeOfGap 29 = .ok (.if_icmp .ne 5, 3) := by decide +kernel
theorem dX1_placeOfGap_32 : decode cX1_placeOfGap 32 = .ok (.iload_n 1, 1) := by decide +kernel
theorem dX1_placeOfGap_33 : decode cX1_placeOfGap 33 = .ok (.ireturn, 1) := by decide +kernel
theorem dX1_placeOfGap_34 : decode cX1_placeOfGap 34 = .ok (.iinc 1 1, 3) := by decide +kernel
theorem dX1_placeOfGap_37 : decode cX1_placeOfGap 37 = .ok (.goto (-35), 3) := by decide +kernel
theorem dX1_placeOfGap_40 : decode cX1_placeOfGap 40 = .ok (.aload_n 0, 1) := by decide +kernel
theorem dX1_placeOfGap_41 : decode cX1_placeOfGap 41 = .ok (.getfield 13, 3) := by decide +kernel
theorem dX1_placeOfGap_44 : decode cX1_placeOfGap 44 = .ok (.ireturn, 1) := by decide +kernel
set_option maxRecDepth 20000 in
theorem ggX1_readText_X1_placeOf : GoodIn wsX1_readText wsX1_placeOf := goodIn_r _ [6, 1, 7, 8, 9, 5, 10, 11, 70, 71, 72, 73, 74, 75, 76] (by decide +kernel) (by decide +kernel)
set_option maxRecDepth 20000 in
theorem gX1_readText_X1_placeOf : GoodIn wsX1_readText (wsV RX1 89 RX1 yX1_placeOf wsX1_placeOf) := goodIn_app (goodIn_of _ (by decide +kernel)) ggX1_readText_X1_placeOf
set_option maxRecDepth 20000 in
theorem ggX1_readText_X1_readSix : GoodIn wsX1_readText wsX1_readSix := goodIn_r _ [15, 16, 1, 17, 18, 19, 20, 21, 22, 23, 24, 25, 26, 27, 28, 29, 30, 31, 32, 5, 33, 7, 8, 9, 10, 11, 34, 35, 36, 37, 38, 39, 40, 41, 42, 43, 44, 45, 2, 3, 4, 6, 46, 47, 48, 49, 50, 51, 52, 53, 54, 55, 56, 57, 58, 59, 60, 70, 71, 72, 73, 74, 75, 76, 77, 78, 79, 80] (by decide +kernel) (by decide +kernel)
set_option maxRecDepth 20000 in
theorem gX1_readText_X1_readSix : GoodIn wsX1_readText (wsV RX1 93 RX1 yX1_readSix wsX1_readSix) := goodIn_app (goodIn_of _ (by decide +kernel)) ggX1_readText_X1_readSix
set_option maxRecDepth 20000 in
theorem ggX1_readText_X1_readFour : GoodIn wsX1_readText wsX1_readFour := goodIn_r _ [64, 16, 65, 1, 17, 18, 19, 20, 21, 22, 23, 24, 25, 26, 27, 28, 29, 2, 3, 4, 5, 6, 7, 8, 9, 10, 11, 66, 67, 68, 69, 50, 51, 52, 53, 70, 71, 72, 73, 74, 75, 76, 77, 78, 79, 80] (by decide +kernel) (by decide +kernel)
set_option maxRecDepth 20000 in
theorem gX1_readText_X1_readFour : GoodIn wsX1_readText (wsV RX1 96 RX1 yX1_readFour wsX1_readFour) := goodIn_app (goodIn_of _ (by decide +kernel)) ggX1_readText_X1_readFour
theorem dX1_readText_0 : decode cX1_readText 0 = .ok (.aload_n 0, 1) := by decide +kernel
theorem dX1_readText_1 : decode cX1_readText 1 = .ok (.bipush 58, 2) := by decide +kernel
theorem dX1_readText_3 : decode cX1_readText 3 = .ok (.iconst 0, 1) := by decide +kernel
theorem dX1_readText_4 : decode cX1_readText 4 = .ok (.invokevirtual 89, 3) := by decide +kernel
theorem dX1_readText_7 : decode cX1_readText 7 = .ok (.aload_n 0, 1) := by decide +kernel
theorem dX1_readText_8 : decode cX1_readText 8 = .ok (.getfield 13, 3) := by decide +kernel
theorem dX1_readText_11 : decode cX1_readText 11 = .ok (.if_icmp .ge 10, 3) := by decide +kernel
theorem dX1_readText_14 : decode cX1_readText 14 = .ok (.aload_n 0, 1) := by decide +kernel
theorem dX1_readText_15 : decode cX1_readText 15 = .ok (.invokevirtual 93, 3) := by decide +kernel
theorem dX1_readText_18 : decode cX1_readText 18 = .ok (.goto 7, 3) := by decide +kernel
theorem dX1_readText_21 : decode cX1_readText 21 = .ok (.aload_n 0, 1) := by decide +kernel
theorem dX1_readText_22 : decode cX1_readText 22 = .ok (.invokevirtual 96, 3) := by decide +kernel
theorem dX1_readText_25 : decode cX1_readText 25 = .ok (.ireturn, 1) := by decide +kernel
set_option maxRecDepth 20000 in
theorem ggX1_readFour_X0_clear : GoodIn wsX1_readFour wsX0_clear := goodIn_r _ [8, 9, 10, 11, 12, 13, 14, 15, 7, 16, 42, 43, 44, 45] (by decide +kernel) (by decide +kernel)
set_option maxRecDepth 20000 in
theorem gX1_readFour_X0_clear : GoodIn wsX1_readFour (wsV RX1 99 RX0 yX0_clear wsX0_clear) := goodIn_app (goodIn_of _ (by decide +kernel)) ggX1_readFour_X0_clear
set_option maxRecDepth 20000 in
theorem ggX1_readFour_X1_placeOf : GoodIn wsX1_readFour wsX1_placeOf := goodIn_r _ [21, 3, 22, 23, 24, 20, 25, 26, 35, 36, 37, 38, 39, 40, 41] (by decide +kernel) (by decide +kernel)
set_option maxRecDepth 20000 in
theorem gX1_readFour_X1_placeOf : GoodIn wsX1_readFour (wsV RX1 89 RX1 yX1_placeOf wsX1_placeOf) := goodIn_app (goodIn_of _ (by decide +kernel)) ggX1_readFour_X1_placeOf
set_option maxRecDepth 20000 in
theorem ggX1_readFour_X1_decimalIn : GoodIn wsX1_readFour wsX1_decimalIn := goodIn_r _ [30, 22, 23, 24, 20, 25, 3, 26, 31, 32, 33, 34, 35, 36, 37, 38, 39, 40, 41] (by decide +kernel) (by decide +kernel)
set_option maxRecDepth 20000 in
theorem gX1_readFour_X1_decimalIn : GoodIn wsX1_readFour (wsV RX1 51 RX1 yX1_decimalIn wsX1_decimalIn) := goodIn_app (goodIn_of _ (by decide +kernel)) ggX1_readFour_X1_decimalIn
theorem dX1_readFour_0 : decode cX1_readFour 0 = .ok (.aload_n 0, 1) := by decide +kernel
theorem dX1_readFour_1 : decode cX1_readFour 1 = .ok (.getfield 33, 3) := by decide +kernel
theorem dX1_readFour_4 : decode cX1_readFour 4 = .ok (.iconst 4, 1) := by decide +kernel
theorem dX1_readFour_5 : decode cX1_readFour 5 = .ok (.invokevirtual 99, 3) := by decide +kernel
theorem dX1_readFour_8 : decode cX1_readFour 8 = .ok (.iconst 0, 1) := by decide +kernel
theorem dX1_readFour_9 : decode cX1_readFour 9 = .ok (.istore_n 1, 1) := by decide +kernel
theorem dX1_readFour_10 : decode cX1_readFour 10 = .ok (.iconst 0, 1) := by decide +kernel
theorem dX1_readFour_11 : decode cX1_readFour 11 = .ok (.istore_n 2, 1) := by decide +kernel
theorem dX1_readFour_12 : decode cX1_readFour 12 = .ok (.iload_n 2, 1) := by decide +kernel
theorem dX1_readFour_13 : decode cX1_readFour 13 = .ok (.iconst 4, 1) := by decide +kernel
theorem dX1_readFour_14 : decode cX1_readFour 14 = .ok (.if_icmp .ge 61, 3) := by decide +kernel
theorem dX1_readFour_17 : decode cX1_readFour 17 = .ok (.aload_n 0, 1) := by decide +kernel
theorem dX1_readFour_18 : decode cX1_readFour 18 = .ok (.bipush 46, 2) := by decide +kernel
theorem dX1_readFour_20 : decode cX1_readFour 20 = .ok (.iload_n 1, 1) := by decide +kernel
theorem dX1_readFour_21 : decode cX1_readFour 21 = .ok (.invokevirtual 89, 3) := by decide +kernel
theorem dX1_readFour_24 : decode cX1_readFour 24 = .ok (.istore_n 3, 1) := by decide +kernel
theorem dX1_readFour_25 : decode cX1_readFour 25 = .ok (.aload_n 0, 1) := by decide +kernel
theorem dX1_readFour_26 : decode cX1_readFour 26 = .ok (.iload_n 1, 1) := by decide +kernel
theorem dX1_readFour_27 : decode cX1_readFour 27 = .ok (.iload_n 3, 1) := by decide +kernel
theorem dX1_readFour_28 : decode cX1_readFour 28 = .ok (.sipush 255, 3) := by decide +kernel
theorem dX1_readFour_31 : decode cX1_readFour 31 = .ok (.invokevirtual 51, 3) := by decide +kernel
theorem dX1_readFour_34 : decode cX1_readFour 34 = .ok (.istore 4, 2) := by decide +kernel
theorem dX1_readFour_36 : decode cX1_readFour 36 = .ok (.iload 4, 2) := by decide +kernel
theorem dX1_readFour_38 : decode cX1_readFour 38 = .ok (.iconst (-1), 1) := by decide +kernel
theorem dX1_readFour_39 : decode cX1_readFour 39 = .ok (.if_icmp .ne 5, 3) := by decide +kernel
theorem dX1_readFour_42 : decode cX1_readFour 42 = .ok (.iconst 0, 1) := by decide +kernel
theorem dX1_readFour_43 : decode cX1_readFour 43 = .ok (.ireturn, 1) := by decide +kernel
theorem dX1_readFour_44 : decode cX1_readFour 44 = .ok (.aload_n 0, 1) := by decide +kernel
theorem dX1_readFour_45 : decode cX1_readFour 45 = .ok (.getfield 33, 3) := by decide +kernel
theorem dX1_readFour_48 : decode cX1_readFour 48 = .ok (.aload_n 0, 1) := by decide +kernel
theorem dX1_readFour_49 : decode cX1_readFour 49 = .ok (.getfield 33, 3) := by decide +kernel
theorem dX1_readFour_52 : decode cX1_readFour 52 = .ok (.getfield 66, 3) := by decide +kernel
theorem dX1_readFour_55 : decode cX1_readFour 55 = .ok (.bipush 8, 2) := by decide +kernel
theorem dX1_readFour_57 : decode cX1_readFour 57 = .ok (.lshl, 1) := by decide +kernel
theorem dX1_readFour_58 : decode cX1_readFour 58 = .ok (.iload 4, 2) := by decide +kernel
theorem dX1_readFour_60 : decode cX1_readFour 60 = .ok (.i2l, 1) := by decide +kernel
theorem dX1_readFour_61 : decode cX1_readFour 61 = .ok (.lor, 1) := by decide +kernel
theorem dX1_readFour_62 : decode cX1_readFour 62 = .ok (.putfield 66, 3) := by decide +kernel
theorem dX1_readFour_65 : decode cX1_readFour 65 = .ok (.iload_n 3, 1) := by decide +kernel
theorem dX1_readFour_66 : decode cX1_readFour 66 = .ok (.iconst 1, 1) := by decide +kernel
theorem dX1_readFour_67 : decode cX1_readFour 67 = .ok (.iadd, 1) := by decide +kernel
theorem dX1_readFour_68 : decode cX1_readFour 68 = .ok (.istore_n 1, 1) := by decide +kernel
theorem dX1_readFour_69 : decode cX1_readFour 69 = .ok (.iinc 2 1, 3) := by decide +kernel
theorem dX1_readFour_72 : decode cX1_readFour 72 = .ok (.goto (-60), 3) := by decide +kernel
theorem dX1_readFour_75 : decode cX1_readFour 75 = .ok (.iload_n 1, 1) := by decide +kernel
theorem dX1_readFour_76 : decode cX1_readFour 76 = .ok (.aload_n 0, 1) := by decide +kernel
theorem dX1_readFour_77 : decode cX1_readFour 77 = .ok (.getfield 13, 3) := by decide +kernel
theorem dX1_readFour_80 : decode cX1_readFour 80 = .ok (.iconst 1, 1) := by decide +kernel
theorem dX1_readFour_81 : decode cX1_readFour 81 = .ok (.iadd, 1) := by decide +kernel
theorem dX1_readFour_82 : decode cX1_readFour 82 = .ok (.if_icmp .ne 7, 3) := by decide +kernel
theorem dX1_readFour_85 : decode cX1_readFour 85 = .ok (.iconst 1, 1) := by decide +kernel
theorem dX1_readFour_86 : decode cX1_readFour 86 = .ok (.goto 4, 3) := by decide +kernel
theorem dX1_readFour_89 : decode cX1_readFour 89 = .ok (.iconst 0, 1) := by decide +kernel
theorem dX1_readFour_90 : decode cX1_readFour 90 = .ok (.ireturn, 1) := by decide +kernel
set_option maxRecDepth 20000 in
theorem ggX1_readSix_X0_clear : GoodIn wsX1_readSix wsX0_clear := goodIn_r _ [7, 8, 9, 10, 11, 12, 13, 14, 6, 15, 64, 65, 66, 67] (by decide +kernel) (by decide +kernel)
set_option maxRecDepth 20000 in
theorem gX1_readSix_X0_clear : GoodIn wsX1_readSix (wsV RX1 99 RX0 yX0_clear wsX0_clear) := goodIn_app (goodIn_of _ (by decide +kernel)) ggX1_readSix_X0_clear
set_option maxRecDepth 20000 in
theorem ggX1_readSix_X1_placeOfGap : GoodIn wsX1_readSix wsX1_placeOfGap := goodIn_r _ [20, 2, 21, 22, 23, 19, 24, 25, 57, 58, 59, 60, 61, 62, 63] (by decide +kernel) (by decide +kernel)
set_option maxRecDepth 20000 in
theorem gX1_readSix_X1_placeOfGap : GoodIn wsX1_readSix (wsV RX1 102 RX1 yX1_placeOfGap wsX1_placeOfGap) := goodIn_app (goodIn_of _ (by decide +kernel)) ggX1_readSix_X1_placeOfGap
set_option maxRecDepth 20000 in
theorem ggX1_readSix_X1_partsIn : GoodIn wsX1_readSix wsX1_partsIn := goodIn_r _ [29, 21, 22, 23, 19, 24, 2, 25, 57, 58, 59, 60, 61, 62, 63] (by decide +kernel) (by decide +kernel)
set_option maxRecDepth 20000 in
theorem gX1_readSix_X1_partsIn : GoodIn wsX1_readSix (wsV RX1 105 RX1 yX1_partsIn wsX1_partsIn) := goodIn_app (goodIn_of _ (by decide +kernel)) ggX1_readSix_X1_partsIn
set_option maxRecDepth 20000 in
theorem ggX1_readSix_X1_readParts : GoodIn wsX1_readSix wsX1_readParts := goodIn_r _ [33, 34, 35, 36, 37, 1, 26, 27, 28, 19, 29, 21, 22, 23, 24, 2, 25, 38, 39, 40, 41, 42, 43, 44, 45, 46, 47, 48, 49, 50, 51, 52, 6, 53, 10, 11, 54, 55, 56, 57, 58, 59, 60, 61, 62, 63, 64, 65, 66, 67] (by decide +kernel) (by decide +kernel)
set_option maxRecDepth 20000 in
theorem gX1_readSix_X1_readParts : GoodIn wsX1_readSix (wsV RX1 109 RX1 yX1_readParts wsX1_readParts) := goodIn_app (goodIn_of _ (by decide +kernel)) ggX1_readSix_X1_readParts
theorem dX1_readSix_0 : decode cX1_readSix 0 = .ok (.aload_n 0, 1) := by decide +kernel
theorem dX1_readSix_1 : decode cX1_readSix 1 = .ok (.getfield 33, 3) := by decide +kernel
theorem dX1_readSix_4 : decode cX1_readSix 4 = .ok (.bipush 6, 2) := by decide +kernel
theorem dX1_readSix_6 : decode cX1_readSix 6 = .ok (.invokevirtual 99, 3) := by decide +kernel
theorem dX1_readSix_9 : decode cX1_readSix 9 = .ok (.aload_n 0, 1) := by decide +kernel
theorem dX1_readSix_10 : decode cX1_readSix 10 = .ok (.invokevirtual 102, 3) := by decide +kernel
theorem dX1_readSix_13 : decode cX1_readSix 13 = .ok (.istore_n 1, 1) := by decide +kernel
theorem dX1_readSix_14 : decode cX1_readSix 14 = .ok (.aload_n 0, 1) := by decide +kernel
theorem dX1_readSix_15 : decode cX1_readSix 15 = .ok (.iconst 0, 1) := by decide +kernel
theorem dX1_readSix_16 : decode cX1_readSix 16 = .ok (.iload_n 1, 1) := by decide +kernel
theorem dX1_readSix_17 : decode cX1_readSix 17 = .ok (.invokevirtual 105, 3) := by decide +kernel
theorem dX1_readSix_20 : decode cX1_readSix 20 = .ok (.istore_n 2, 1) := by decide +kernel
theorem dX1_readSix_21 : decode cX1_readSix 21 = .ok (.aload_n 0, 1) := by decide +kernel
theorem dX1_readSix_22 : decode cX1_readSix 22 = .ok (.iload_n 1, 1) := by decide +kernel
theorem dX1_readSix_23 : decode cX1_readSix 23 = .ok (.iconst 2, 1) := by decide +kernel
theorem dX1_readSix_24 : decode cX1_readSix 24 = .ok (.iadd, 1) := by decide +kernel
theorem dX1_readSix_25 : decode cX1_readSix 25 = .ok (.aload_n 0, 1) := by decide +kernel
theorem dX1_readSix_26 : decode cX1_readSix 26 = .ok (.getfield 13, 3) := by decide +kernel
theorem dX1_readSix_29 : decode cX1_readSix 29 = .ok (.invokevirtual 105, 3) := by decide +kernel
theorem dX1_readSix_32 : decode cX1_readSix 32 = .ok (.istore_n 3, 1) := by decide +kernel
theorem dX1_readSix_33 : decode cX1_readSix 33 = .ok (.iload_n 1, 1) := by decide +kernel
theorem dX1_readSix_34 : decode cX1_readSix 34 = .ok (.aload_n 0, 1) := by decide +kernel
theorem dX1_readSix_35 : decode cX1_readSix 35 = .ok (.getfield 13, 3) := by decide +kernel
theorem dX1_readSix_38 : decode cX1_readSix 38 = .ok (.if_icmp .ge 19, 3) := by decide +kernel
theorem dX1_readSix_41 : decode cX1_readSix 41 = .ok (.iload_n 2, 1) := by decide +kernel
theorem dX1_readSix_42 : decode cX1_readSix 42 = .ok (.iload_n 3, 1) := by decide +kernel
theorem dX1_readSix_43 : decode cX1_readSix 43 = .ok (.iadd, 1) := by decide +kernel
theorem dX1_readSix_44 : decode cX1_readSix 44 = .ok (.bipush 8, 2) := by decide +kernel
theorem dX1_readSix_46 : decode cX1_readSix 46 = .ok (.if_icmp .ge 7, 3) := by decide +kernel
theorem dX1_readSix_49 : decode cX1_readSix 49 = .ok (.iconst 1, 1) := by decide +kernel
theorem dX1_readSix_50 : decode cX1_readSix 50 = .ok (.goto 18, 3) := by decide +kernel
theorem dX1_readSix_53 : decode cX1_readSix 53 = .ok (.iconst 0, 1) := by decide +kernel
theorem dX1_readSix_54 : decode cX1_readSix 54 = .ok (.goto 14, 3) := by decide +kernel
theorem dX1_readSix_57 : decode cX1_readSix 57 = .ok (.iload_n 2, 1) := by decide +kernel
theorem dX1_readSix_58 : decode cX1_readSix 58 = .ok (.bipush 8, 2) := by decide +kernel
theorem dX1_readSix_60 : decode cX1_readSix 60 = .ok (.if_icmp .ne 7, 3) := by decide +kernel
theorem dX1_readSix_63 : decode cX1_readSix 63 = .ok (.iconst 1, 1) := by decide +kernel
theorem dX1_readSix_64 : decode cX1_readSix 64 = .ok (.goto 4, 3) := by decide +kernel
theorem dX1_readSix_67 : decode cX1_readSix 67 = .ok (.iconst 0, 1) := by decide +kernel
theorem dX1_readSix_68 : decode cX1_readSix 68 = .ok (.istore 4, 2) := by decide +kernel
theorem dX1_readSix_70 : decode cX1_readSix 70 = .ok (.iload 4, 2) := by decide +kernel
theorem dX1_readSix_72 : decode cX1_readSix 72 = .ok (.ifCond .eq 35, 3) := by decide +kernel
theorem dX1_readSix_75 : decode cX1_readSix 75 = .ok (.aload_n 0, 1) := by decide +kernel
theorem dX1_readSix_76 : decode cX1_readSix 76 = .ok (.iconst 0, 1) := by decide +kernel
theorem dX1_readSix_77 : decode cX1_readSix 77 = .ok (.iload_n 1, 1) := by decide +kernel
theorem dX1_readSix_78 : decode cX1_readSix 78 = .ok (.iconst 0, 1) := by decide +kernel
theorem dX1_readSix_79 : decode cX1_readSix 79 = .ok (.invokevirtual 109, 3) := by decide +kernel
theorem dX1_readSix_82 : decode cX1_readSix 82 = .ok (.ifCond .eq 25, 3) := by decide +kernel
theorem dX1_readSix_85 : decode cX1_readSix 85 = .ok (.aload_n 0, 1) := by decide +kernel
theorem dX1_readSix_86 : decode cX1_readSix 86 = .ok (.iload_n 1, 1) := by decide +kernel
theorem dX1_readSix_87 : decode cX1_readSix 87 = .ok (.iconst 2, 1) := by decide +kernel
theorem dX1_readSix_88 : decode cX1_readSix 88 = .ok (.iadd, 1) := by decide +kernel
theorem dX1_readSix_89 : decode cX1_readSix 89 = .ok (.aload_n 0, 1) := by decide +kernel
theorem dX1_readSix_90 : decode cX1_readSix 90 = .ok (.getfield 13, 3) := by decide +kernel
theorem dX1_readSix_93 : decode cX1_readSix 93 = .ok (.bipush 8, 2) := by decide +kernel
theorem dX1_readSix_95 : decode cX1_readSix 95 = .ok (.iload_n 3, 1) := by decide +kernel
theorem dX1_readSix_96 : decode cX1_readSix 96 = .ok (.isub, 1) := by decide +kernel
theorem dX1_readSix_97 : decode cX1_readSix 97 = .ok (.invokevirtual 109, 3) := by decide +kernel
theorem dX1_readSix_100 : decode cX1_readSix 100 = .ok (.ifCond .eq 7, 3) := by decide +kernel
theorem dX1_readSix_103 : decode cX1_readSix 103 = .ok (.iconst 1, 1) := by decide +kernel
theorem dX1_readSix_104 : decode cX1_readSix 104 = .ok (.goto 4, 3) := by decide +kernel
theorem dX1_readSix_107 : decode cX1_readSix 107 = .ok (.iconst 0, 1) := by decide +kernel
theorem dX1_readSix_108 : decode cX1_readSix 108 = .ok (.ireturn, 1) := by decide +kernel
set_option maxRecDepth 20000 in
theorem ggX1_partsIn_X1_tapeAt : GoodIn wsX1_partsIn wsX1_tapeAt := goodIn_r _ [5, 6, 7, 8, 9, 10, 11, 12, 13, 14] (by decide +kernel) (by decide +kernel)
set_option maxRecDepth 20000 in
theorem gX1_partsIn_X1_tapeAt : GoodIn wsX1_partsIn (wsV RX1 85 RX1 yX1_tapeAt wsX1_tapeAt) := goodIn_app (goodIn_of _ (by decide +kernel)) ggX1_partsIn_X1_tapeAt
theorem dX1_partsIn_0 : decode cX1_partsIn 0 = .ok (.iload_n 1, 1) := by decide +kernel
theorem dX1_partsIn_1 : decode cX1_partsIn 1 = .ok (.iload_n 2, 1) := by decide +kernel
theorem dX1_partsIn_2 : decode cX1_partsIn 2 = .ok (.if_icmp .lt 5, 3) := by decide +kernel
theorem dX1_partsIn_5 : decode cX1_partsIn 5 = .ok (.iconst 0, 1) := by decide +kernel
theorem dX1_partsIn_6 : decode cX1_partsIn 6 = .ok (.ireturn, 1) := by decide +kernel
theorem dX1_partsIn_7 : decode cX1_partsIn 7 = .ok (.iconst 1, 1) := by decide +kernel
theorem dX1_partsIn_8 : decode cX1_partsIn 8 = .ok (.istore_n 3, 1) := by decide +kernel
theorem dX1_partsIn_9 : decode cX1_partsIn 9 = .ok (.iload_n 1, 1) := by decide +kernel
theorem dX1_partsIn_10 : decode cX1_partsIn 10 = .ok (.istore 4, 2) := by decide +kernel
theorem dX1_partsIn_12 : decode cX1_partsIn 12 = .ok (.iload 4, 2) := by decide +kernel
theorem dX1_partsIn_14 : decode cX1_partsIn 14 = .ok (.iload_n 2, 1) := by decide +kernel
theorem dX1_partsIn_15 : decode cX1_partsIn 15 = .ok (.if_icmp .ge 23, 3) := by decide +kernel
theorem dX1_partsIn_18 : decode cX1_partsIn 18 = .ok (.aload_n 0, 1) := by decide +kernel
theorem dX1_partsIn_19 : decode cX1_partsIn 19 = .ok (.iload 4, 2) := by decide +kernel
theorem dX1_partsIn_21 : decode cX1_partsIn 21 = .ok (.invokevirtual 85, 3) := by decide +kernel
theorem dX1_partsIn_24 : decode cX1_partsIn 24 = .ok (.bipush 58, 2) := by decide +kernel
theorem dX1_partsIn_26 : decode cX1_partsIn 26 = .ok (.if_icmp .ne 6, 3) := by decide +kernel
theorem dX1_partsIn_29 : decode cX1_partsIn 29 = .ok (.iinc 3 1, 3) := by decide +kernel
theorem dX1_partsIn_32 : decode cX1_partsIn 32 = .ok (.iinc 4 1, 3) := by decide +kernel
theorem dX1_partsIn_35 : decode cX1_partsIn 35 = .ok (.goto (-23), 3) := by decide +kernel
theorem dX1_partsIn_38 : decode cX1_partsIn 38 = .ok (.iload_n 3, 1) := by decide +kernel
theorem dX1_partsIn_39 : decode cX1_partsIn 39 = .ok (.ireturn, 1) := by decide +kernel
set_option maxRecDepth 20000 in
theorem ggX1_readParts_X1_partsIn : GoodIn wsX1_readParts wsX1_partsIn := goodIn_r _ [10, 11, 12, 13, 9, 14, 15, 16, 39, 40, 41, 42, 43, 44, 45] (by decide +kernel) (by decide +kernel)
set_option maxRecDepth 20000 in
theorem gX1_readParts_X1_partsIn : GoodIn wsX1_readParts (wsV RX1 105 RX1 yX1_partsIn wsX1_partsIn) := goodIn_app (goodIn_of _ (by decide +kernel)) ggX1_readParts_X1_partsIn
set_option maxRecDepth 20000 in
theorem ggX1_readParts_X1_placeOf : GoodIn wsX1_readParts wsX1_placeOf := goodIn_r _ [20, 15, 11, 12, 13, 9, 14, 16, 39, 40, 41, 42, 43, 44, 45] (by decide +kernel) (by decide +kernel)
set_option maxRecDepth 20000 in
theorem gX1_readParts_X1_placeOf : GoodIn wsX1_readParts (wsV RX1 89 RX1 yX1_placeOf wsX1_placeOf) := goodIn_app (goodIn_of _ (by decide +kernel)) ggX1_readParts_X1_placeOf
set_option maxRecDepth 20000 in
theorem ggX1_readParts_X1_hexadecimalIn : GoodIn wsX1_readParts wsX1_hexadecimalIn := goodIn_r _ [24, 25, 26, 27, 9, 28, 11, 12, 13, 14, 15, 16, 39, 40, 41, 42, 43, 44, 45] (by decide +kernel) (by decide +kernel)
set_option maxRecDepth 20000 in
theorem gX1_readParts_X1_hexadecimalIn : GoodIn wsX1_readParts (wsV RX1 118 RX1 yX1_hexadecimalIn wsX1_hexadecimalIn) := goodIn_app (goodIn_of _ (by decide +kernel)) ggX1_readParts_X1_hexadecimalIn
set_option maxRecDepth 20000 in
theorem ggX1_readParts_X0_setPart : GoodIn wsX1_readParts wsX0_setPart := goodIn_r _ [33, 34, 35, 36, 37, 32, 38, 46, 47, 48, 49] (by decide +kernel) (by decide +kernel)
set_option maxRecDepth 20000 in
theorem gX1_readParts_X0_setPart : GoodIn wsX1_readParts (wsV RX1 121 RX0 yX0_setPart wsX0_setPart) := goodIn_app (goodIn_of _ (by decide +kernel)) ggX1_readParts_X0_setPart
theorem dX1_readParts_0 : decode cX1_readParts 0 = .ok (.aload_n 0, 1) := by decide +kernel
theorem dX1_readParts_1 : decode cX1_readParts 1 = .ok (.iload_n 1, 1) := by decide +kernel
theorem dX1_readParts_2 : decode cX1_readParts 2 = .ok (.iload_n 2, 1) := by decide +kernel
theorem dX1_readParts_3 : decode cX1_readParts 3 = .ok (.invokevirtual 105, 3) := by decide +kernel
theorem dX1_readParts_6 : decode cX1_readParts 6 = .ok (.istore 4, 2) := by decide +kernel
theorem dX1_readParts_8 : decode cX1_readParts 8 = .ok (.iload_n 1, 1) := by decide +kernel
theorem dX1_readParts_9 : decode cX1_readParts 9 = .ok (.istore 5, 2) := by decide +kernel
theorem dX1_readParts_11 : decode cX1_readParts 11 = .ok (.iconst 0, 1) := by decide +kernel
theorem dX1_readParts_12 : decode cX1_readParts 12 = .ok (.istore 6, 2) := by decide +kernel
theorem dX1_readParts_14 : decode cX1_readParts 14 = .ok (.iload 6, 2) := by decide +kernel
theorem dX1_readParts_16 : decode cX1_readParts 16 = .ok (.iload 4, 2) := by decide +kernel
theorem dX1_readParts_18 : decode cX1_readParts 18 = .ok (.if_icmp .ge 60, 3) := by decide +kernel
theorem dX1_readParts_21 : decode cX1_readParts 21 = .ok (.aload_n 0, 1) := by decide +kernel
theorem dX1_readParts_22 : decode cX1_readParts 22 = .ok (.bipush 58, 2) := by decide +kernel
theorem dX1_readParts_24 : decode cX1_readParts 24 = .ok (.iload 5, 2) := by decide +kernel
theorem dX1_readParts_26 : decode cX1_readParts 26 = .ok (.invokevirtual 89, 3) := by decide +kernel
theorem dX1_readParts_29 : decode cX1_readParts 29 = .ok (.iload_n 2, 1) := by decide +kernel
theorem dX1_readParts_30 : decode cX1_readParts 30 = .ok (.invokestatic 113, 3) := by decide +kernel
theorem dX1_readParts_33 : decode cX1_readParts 33 = .ok (.istore 7, 2) := by decide +kernel
theorem dX1_readParts_35 : decode cX1_readParts 35 = .ok (.aload_n 0, 1) := by decide +kernel
theorem dX1_readParts_36 : decode cX1_readParts 36 = .ok (.iload 5, 2) := by decide +kernel
theorem dX1_readParts_38 : decode cX1_readParts 38 = .ok (.iload 7, 2) := by decide +kernel
theorem dX1_readParts_40 : decode cX1_readParts 40 = .ok (.invokevirtual 118, 3) := by decide +kernel
theorem dX1_readParts_43 : decode cX1_readParts 43 = .ok (.istore 8, 2) := by decide +kernel
theorem dX1_readParts_45 : decode cX1_readParts 45 = .ok (.iload 8, 2) := by decide +kernel
theorem dX1_readParts_47 : decode cX1_readParts 47 = .ok (.iconst (-1), 1) := by decide +kernel
theorem dX1_readParts_48 : decode cX1_readParts 48 = .ok (.if_icmp .ne 5, 3) := by decide +kernel
theorem dX1_readParts_51 : decode cX1_readParts 51 = .ok (.iconst 0, 1) := by decide +kernel
theorem dX1_readParts_52 : decode cX1_readParts 52 = .ok (.ireturn, 1) := by decide +kernel
theorem dX1_readParts_53 : decode cX1_readParts 53 = .ok (.aload_n 0, 1) := by decide +kernel
theorem dX1_readParts_54 : decode cX1_readParts 54 = .ok (.getfield 33, 3) := by decide +kernel
theorem dX1_readParts_57 : decode cX1_readParts 57 = .ok (.iload_n 3, 1) := by decide +kernel
theorem dX1_readParts_58 : decode cX1_readParts 58 = .ok (.iload 6, 2) := by decide +kernel
theorem dX1_readParts_60 : decode cX1_readParts 60 = .ok (.iadd, 1) := by decide +kernel
theorem dX1_readParts_61 : decode cX1_readParts 61 = .ok (.iload 8, 2) := by decide +kernel
theorem dX1_readParts_63 : decode cX1_readParts 63 = .ok (.invokevirtual 121, 3) := by decide +kernel
theorem dX1_readParts_66 : decode cX1_readParts 66 = .ok (.iload 7, 2) := by decide +kernel
theorem dX1_readParts_68 : decode cX1_readParts 68 = .ok (.iconst 1, 1) := by decide +kernel
theorem dX1_readParts_69 : decode cX1_readParts 69 = .ok (.iadd, 1) := by decide +kernel
theorem dX1_readParts_70 : decode cX1_readParts 70 = .ok (.istore 5, 2) := by decide +kernel
theorem dX1_readParts_72 : decode cX1_readParts 72 = .ok (.iinc 6 1, 3) := by decide +kernel
theorem dX1_readParts_75 : decode cX1_readParts 75 = .ok (.goto (-61), 3) := by decide +kernel
theorem dX1_readParts_78 : decode cX1_readParts 78 = .ok (.iconst 1, 1) := by decide +kernel
theorem dX1_readParts_79 : decode cX1_readParts 79 = .ok (.ireturn, 1) := by decide +kernel
set_option maxRecDepth 20000 in
theorem ggX1_decimalIn_X1_tapeAt : GoodIn wsX1_decimalIn wsX1_tapeAt := goodIn_r _ [5, 6, 7, 12, 13, 14, 15, 16, 17, 18] (by decide +kernel) (by decide +kernel)
set_option maxRecDepth 20000 in
theorem gX1_decimalIn_X1_tapeAt : GoodIn wsX1_decimalIn (wsV RX1 85 RX1 yX1_tapeAt wsX1_tapeAt) := goodIn_app (goodIn_of _ (by decide +kernel)) ggX1_decimalIn_X1_tapeAt
set_option maxRecDepth 20000 in
theorem ggX1_decimalIn_X1_digitAt : GoodIn wsX1_decimalIn wsX1_digitAt := goodIn_r _ [11, 1, 2, 3, 4, 5, 6, 7, 12, 13, 14, 15, 16, 17, 18] (by decide +kernel) (by decide +kernel)
set_option maxRecDepth 20000 in
theorem gX1_decimalIn_X1_digitAt : GoodIn wsX1_decimalIn (wsV RX1 125 RX1 yX1_digitAt wsX1_digitAt) := goodIn_app (goodIn_of _ (by decide +kernel)) ggX1_decimalIn_X1_digitAt
theorem dX1_decimalIn_0 : decode cX1_decimalIn 0 = .ok (.aload_n 0, 1) := by decide +kernel
theorem dX1_decimalIn_1 : decode cX1_decimalIn 1 = .ok (.iload_n 1, 1) := by decide +kernel
theorem dX1_decimalIn_2 : decode cX1_decimalIn 2 = .ok (.invokevirtual 85, 3) := by decide +kernel
theorem dX1_decimalIn_5 : decode cX1_decimalIn 5 = .ok (.bipush 48, 2) := by decide +kernel
theorem dX1_decimalIn_7 : decode cX1_decimalIn 7 = .ok (.if_icmp .ne 14, 3) := by decide +kernel
theorem dX1_decimalIn_10 : decode cX1_decimalIn 10 = .ok (.iload_n 2, 1) := by decide +kernel
theorem dX1_decimalIn_11 : decode cX1_decimalIn 11 = .ok (.iload_n 1, 1) := by decide +kernel
theorem dX1_decimalIn_12 : decode cX1_decimalIn 12 = .ok (.isub, 1) := by decide +kernel
theorem dX1_decimalIn_13 : decode cX1_decimalIn 13 = .ok (.iconst 1, 1) := by decide +kernel
theorem dX1_decimalIn_14 : decode cX1_decimalIn 14 = .ok (.if_icmp .le 7, 3) := by decide +kernel
theorem dX1_decimalIn_17 : decode cX1_decimalIn 17 = .ok (.iconst 1, 1) := by decide +kernel
theorem dX1_decimalIn_18 : decode cX1_decimalIn 18 = .ok (.goto 4, 3) := by decide +kernel
theorem dX1_decimalIn_21 : decode cX1_decimalIn 21 = .ok (.iconst 0, 1) := by decide +kernel
theorem dX1_decimalIn_22 : decode cX1_decimalIn 22 = .ok (.istore 4, 2) := by decide +kernel
theorem dX1_decimalIn_24 : decode cX1_decimalIn 24 = .ok (.iload_n 1, 1) := by decide +kernel
theorem dX1_decimalIn_25 : decode cX1_decimalIn 25 = .ok (.iload_n 2, 1) := by decide +kernel
theorem dX1_decimalIn_26 : decode cX1_decimalIn 26 = .ok (.if_icmp .ge 8, 3) := by decide +kernel
theorem dX1_decimalIn_29 : decode cX1_decimalIn 29 = .ok (.iload 4, 2) := by decide +kernel
theorem dX1_decimalIn_31 : decode cX1_decimalIn 31 = .ok (.ifCond .eq 5, 3) := by decide +kernel
theorem dX1_decimalIn_34 : decode cX1_decimalIn 34 = .ok (.iconst (-1), 1) := by decide +kernel
theorem dX1_decimalIn_35 : decode cX1_decimalIn 35 = .ok (.ireturn, 1) := by decide +kernel
theorem dX1_decimalIn_36 : decode cX1_decimalIn 36 = .ok (.iconst 0, 1) := by decide +kernel
theorem dX1_decimalIn_37 : decode cX1_decimalIn 37 = .ok (.istore 5, 2) := by decide +kernel
theorem dX1_decimalIn_39 : decode cX1_decimalIn 39 = .ok (.iload_n 1, 1) := by decide +kernel
theorem dX1_decimalIn_40 : decode cX1_decimalIn 40 = .ok (.istore 6, 2) := by decide +kernel
theorem dX1_decimalIn_42 : decode cX1_decimalIn 42 = .ok (.iload 6, 2) := by decide +kernel
theorem dX1_decimalIn_44 : decode cX1_decimalIn 44 = .ok (.iload_n 2, 1) := by decide +kernel
theorem dX1_decimalIn_45 : decode cX1_decimalIn 45 = .ok (.if_icmp .ge 50, 3) := by decide +kernel
theorem dX1_decimalIn_48 : decode cX1_decimalIn 48 = .ok (.aload_n 0, 1) := by decide +kernel
theorem dX1_decimalIn_49 : decode cX1_decimalIn 49 = .ok (.iload 6, 2) := by decide +kernel
theorem dX1_decimalIn_51 : decode cX1_decimalIn 51 = .ok (.invokevirtual 125, 3) := by decide +kernel
theorem dX1_decimalIn_54 : decode cX1_decimalIn 54 = .ok (.istore 7, 2) := by decide +kernel
theorem dX1_decimalIn_56 : decode cX1_decimalIn 56 = .ok (.iload 7, 2) := by decide +kernel
theorem dX1_decimalIn_58 : decode cX1_decimalIn 58 = .ok (.iconst (-1), 1) := by decide +kernel
theorem dX1_decimalIn_59 : decode cX1_decimalIn 59 = .ok (.if_icmp .eq 10, 3) := by decide +kernel
theorem dX1_decimalIn_62 : decode cX1_decimalIn 62 = .ok (.iload 7, 2) := by decide +kernel
theorem dX1_decimalIn_64 : decode cX1_decimalIn 64 = .ok (.bipush 9, 2) := by decide +kernel
theorem dX1_decimalIn_66 : decode cX1_decimalIn 66 = .ok (.if_icmp .le 5, 3) := by decide +kernel
theorem dX1_decimalIn_69 : decode cX1_decimalIn 69 = .ok (.iconst (-1), 1) := by decide +kernel
theorem dX1_decimalIn_70 : decode cX1_decimalIn 70 = .ok (.ireturn, 1) := by decide +kernel
theorem dX1_decimalIn_71 : decode cX1_decimalIn 71 = .ok (.iload 5, 2) := by decide +kernel
theorem dX1_decimalIn_73 : decode cX1_decimalIn 73 = .ok (.bipush 10, 2) := by decide +kernel
theorem dX1_decimalIn_75 : decode cX1_decimalIn 75 = .ok (.imul, 1) := by decide +kernel
theorem dX1_decimalIn_76 : decode cX1_decimalIn 76 = .ok (.iload 7, 2) := by decide +kernel
theorem dX1_decimalIn_78 : decode cX1_decimalIn 78 = .ok (.iadd, 1) := by decide +kernel
theorem dX1_decimalIn_79 : decode cX1_decimalIn 79 = .ok (.istore 5, 2) := by decide +kernel
theorem dX1_decimalIn_81 : decode cX1_decimalIn 81 = .ok (.iload 5, 2) := by decide +kernel
theorem dX1_decimalIn_83 : decode cX1_decimalIn 83 = .ok (.iload_n 3, 1) := by decide +kernel
theorem dX1_decimalIn_84 : decode cX1_decimalIn 84 = .ok (.if_icmp .le 5, 3) := by decide +kernel
theorem dX1_decimalIn_87 : decode cX1_decimalIn 87 = .ok (.iconst (-1), 1) := by decide +kernel
theorem dX1_decimalIn_88 : decode cX1_decimalIn 88 = .ok (.ireturn, 1) := by decide +kernel
theorem dX1_decimalIn_89 : decode cX1_decimalIn 89 = .ok (.iinc 6 1, 3) := by decide +kernel
theorem dX1_decimalIn_92 : decode cX1_decimalIn 92 = .ok (.goto (-50), 3) := by decide +kernel
theorem dX1_decimalIn_95 : decode cX1_decimalIn 95 = .ok (.iload 5, 2) := by decide +kernel
theorem dX1_decimalIn_97 : decode cX1_decimalIn 97 = .ok (.ireturn, 1) := by decide +kernel
set_option maxRecDepth 20000 in
theorem ggX1_hexadecimalIn_X1_digitAt : GoodIn wsX1_hexadecimalIn wsX1_digitAt := goodIn_r _ [5, 6, 7, 8, 4, 9, 10, 11, 12, 13, 14, 15, 16, 17, 18] (by decide +kernel) (by decide +kernel)
set_option maxRecDepth 20000 in
theorem gX1_hexadecimalIn_X1_digitAt : GoodIn wsX1_hexadecimalIn (wsV RX1 125 RX1 yX1_digitAt wsX1_digitAt) := goodIn_app (goodIn_of _ (by decide +kernel)) ggX1_hexadecimalIn_X1_digitAt
theorem dX1_hexadecimalIn_0 : decode cX1_hexadecimalIn 0 = .ok (.iload_n 1, 1) := by decide +kernel
theorem dX1_hexadecimalIn_1 : decode cX1_hexadecimalIn 1 = .ok (.iload_n 2, 1) := by decide +kernel
theorem dX1_hexadecimalIn_2 : decode cX1_hexadecimalIn 2 = .ok (.if_icmp .ge 10, 3) := by decide +kernel
theorem dX1_hexadecimalIn_5 : decode cX1_hexadecimalIn 5 = .ok (.iload_n 2, 1) := by decide +kernel
theorem dX1_hexadecimalIn_6 : decode cX1_hexadecimalIn 6 = .ok (.iload_n 1, 1) := by decide +kernel
theorem dX1_hexadecimalIn_7 : decode cX1_hexadecimalIn 7 = .ok (.isub, 1) := by decide +kernel
theorem dX1_hexadecimalIn_8 : decode cX1_hexadecimalIn 8 = .ok (.iconst 4, 1) := by decide +kernel
theorem dX1_hexadecimalIn_9 : decode cX1_hexadecimalIn 9 = .ok (.if_icmp .le 5, 3) := by decide +kernel
theorem dX1_hexadecimalIn_12 : decode cX1_hexadecimalIn 12 = .ok (.iconst (-1), 1) := by decide +kernel
theorem dX1_hexadecimalIn_13 : decode cX1_hexadecimalIn 13 = .ok (.ireturn, 1) := by decide +kernel
theorem dX1_hexadecimalIn_14 : decode cX1_hexadecimalIn 14 = .ok (.iconst 0, 1) := by decide +kernel
theorem dX1_hexadecimalIn_15 : decode cX1_hexadecimalIn 15 = .ok (.istore_n 3, 1) := by decide +kernel
theorem dX1_hexadecimalIn_16 : decode cX1_hexadecimalIn 16 = .ok (.iload_n 1, 1) := by decide +kernel
theorem dX1_hexadecimalIn_17 : decode cX1_hexadecimalIn 17 = .ok (.istore 4, 2) := by decide +kernel
theorem dX1_hexadecimalIn_19 : decode cX1_hexadecimalIn 19 = .ok (.iload 4, 2) := by decide +kernel
theorem dX1_hexadecimalIn_21 : decode cX1_hexadecimalIn 21 = .ok (.iload_n 2, 1) := by decide +kernel
theorem dX1_hexadecimalIn_22 : decode cX1_hexadecimalIn 22 = .ok (.if_icmp .ge 32, 3) := by decide +kernel
theorem dX1_hexadecimalIn_25 : decode cX1_hexadecimalIn 25 = .ok (.aload_n 0, 1) := by decide +kernel
theorem dX1_hexadecimalIn_26 : decode cX1_hexadecimalIn 26 = .ok (.iload 4, 2) := by decide +kernel
theorem dX1_hexadecimalIn_28 : decode cX1_hexadecimalIn 28 = .ok (.invokevirtual 125, 3) := by decide +kernel
theorem dX1_hexadecimalIn_31 : decode cX1_hexadecimalIn 31 = .ok (.istore 5, 2) := by decide +kernel
theorem dX1_hexadecimalIn_33 : decode cX1_hexadecimalIn 33 = .ok (.iload 5, 2) := by decide +kernel
theorem dX1_hexadecimalIn_35 : decode cX1_hexadecimalIn 35 = .ok (.iconst (-1), 1) := by decide +kernel
theorem dX1_hexadecimalIn_36 : decode cX1_hexadecimalIn 36 = .ok (.if_icmp .ne 5, 3) := by decide +kernel
theorem dX1_hexadecimalIn_39 : decode cX1_hexadecimalIn 39 = .ok (.iconst (-1), 1) := by decide +kernel
theorem dX1_hexadecimalIn_40 : decode cX1_hexadecimalIn 40 = .ok (.ireturn, 1) := by decide +kernel
theorem dX1_hexadecimalIn_41 : decode cX1_hexadecimalIn 41 = .ok (.iload_n 3, 1) := by decide +kernel
theorem dX1_hexadecimalIn_42 : decode cX1_hexadecimalIn 42 = .ok (.iconst 4, 1) := by decide +kernel
theorem dX1_hexadecimalIn_43 : decode cX1_hexadecimalIn 43 = .ok (.ishl, 1) := by decide +kernel
theorem dX1_hexadecimalIn_44 : decode cX1_hexadecimalIn 44 = .ok (.iload 5, 2) := by decide +kernel
theorem dX1_hexadecimalIn_46 : decode cX1_hexadecimalIn 46 = .ok (.ior, 1) := by decide +kernel
theorem dX1_hexadecimalIn_47 : decode cX1_hexadecimalIn 47 = .ok (.istore_n 3, 1) := by decide +kernel
theorem dX1_hexadecimalIn_48 : decode cX1_hexadecimalIn 48 = .ok (.iinc 4 1, 3) := by decide +kernel
theorem dX1_hexadecimalIn_51 : decode cX1_hexadecimalIn 51 = .ok (.goto (-32), 3) := by decide +kernel
theorem dX1_hexadecimalIn_54 : decode cX1_hexadecimalIn 54 = .ok (.iload_n 3, 1) := by decide +kernel
theorem dX1_hexadecimalIn_55 : decode cX1_hexadecimalIn 55 = .ok (.ireturn, 1) := by decide +kernel
set_option maxRecDepth 20000 in
theorem ggX1_digitAt_X1_tapeAt : GoodIn wsX1_digitAt wsX1_tapeAt := goodIn_r _ [5, 6, 7, 8, 9, 10, 11, 12, 13, 14] (by decide +kernel) (by decide +kernel)
set_option maxRecDepth 20000 in
theorem gX1_digitAt_X1_tapeAt : GoodIn wsX1_digitAt (wsV RX1 85 RX1 yX1_tapeAt wsX1_tapeAt) := goodIn_app (goodIn_of _ (by decide +kernel)) ggX1_digitAt_X1_tapeAt
theorem dX1_digitAt_0 : decode cX1_digitAt 0 = .ok (.aload_n 0, 1) := by decide +kernel
theorem dX1_digitAt_1 : decode cX1_digitAt 1 = .ok (.iload_n 1, 1) := by decide +kernel
theorem dX1_digitAt_2 : decode cX1_digitAt 2 = .ok (.invokevirtual 85, 3) := by decide +kernel
theorem dX1_digitAt_5 : decode cX1_digitAt 5 = .ok (.istore_n 2, 1) := by decide +kernel
theorem dX1_digitAt_6 : decode cX1_digitAt 6 = .ok (.iload_n 2, 1) := by decide +kernel
theorem dX1_digitAt_7 : decode cX1_digitAt 7 = .ok (.bipush 48, 2) := by decide +kernel
theorem dX1_digitAt_9 : decode cX1_digitAt 9 = .ok (.if_icmp .lt 14, 3) := by decide +kernel
theorem dX1_digitAt_12 : decode cX1_digitAt 12 = .ok (.iload_n 2, 1) := by decide +kernel
theorem dX1_digitAt_13 : decode cX1_digitAt 13 = .ok (.bipush 57, 2) := by decide +kernel
theorem dX1_digitAt_15 : decode cX1_digitAt 15 = .ok (.if_icmp .gt 8, 3) := by decide +kernel
theorem dX1_digitAt_18 : decode cX1_digitAt 18 = .ok (.iload_n 2, 1) := by decide +kernel
theorem dX1_digitAt_19 : decode cX1_digitAt 19 = .ok (.bipush 48, 2) := by decide +kernel
theorem dX1_digitAt_21 : decode cX1_digitAt 21 = .ok (.isub, 1) := by decide +kernel
theorem dX1_digitAt_22 : decode cX1_digitAt 22 = .ok (.ireturn, 1) := by decide +kernel
theorem dX1_digitAt_23 : decode cX1_digitAt 23 = .ok (.iload_n 2, 1) := by decide +kernel
theorem dX1_digitAt_24 : decode cX1_digitAt 24 = .ok (.bipush 97, 2) := by decide +kernel
theorem dX1_digitAt_26 : decode cX1_digitAt 26 = .ok (.if_icmp .lt 17, 3) := by decide +kernel
theorem dX1_digitAt_29 : decode cX1_digitAt 29 = .ok (.iload_n 2, 1) := by decide +kernel
theorem dX1_digitAt_30 : decode cX1_digitAt 30 = .ok (.bipush 102, 2) := by decide +kernel
theorem dX1_digitAt_32 : decode cX1_digitAt 32 = .ok (.if_icmp .gt 11, 3) := by decide +kernel
theorem dX1_digitAt_35 : decode cX1_digitAt 35 = .ok (.iload_n 2, 1) := by decide +kernel
theorem dX1_digitAt_36 : decode cX1_digitAt 36 = .ok (.bipush 97, 2) := by decide +kernel
theorem dX1_digitAt_38 : decode cX1_digitAt 38 = .ok (.isub, 1) := by decide +kernel
theorem dX1_digitAt_39 : decode cX1_digitAt 39 = .ok (.bipush 10, 2) := by decide +kernel
theorem dX1_digitAt_41 : decode cX1_digitAt 41 = .ok (.iadd, 1) := by decide +kernel
theorem dX1_digitAt_42 : decode cX1_digitAt 42 = .ok (.ireturn, 1) := by decide +kernel
theorem dX1_digitAt_43 : decode cX1_digitAt 43 = .ok (.iload_n 2, 1) := by decide +kernel
theorem dX1_digitAt_44 : decode cX1_digitAt 44 = .ok (.bipush 65, 2) := by decide +kernel
theorem dX1_digitAt_46 : decode cX1_digitAt 46 = .ok (.if_icmp .lt 17, 3) := by decide +kernel
theorem dX1_digitAt_49 : decode cX1_digitAt 49 = .ok (.iload_n 2, 1) := by decide +kernel
theorem dX1_digitAt_50 : decode cX1_digitAt 50 = .ok (.bipush 70, 2) := by decide +kernel
theorem dX1_digitAt_52 : decode cX1_digitAt 52 = .ok (.if_icmp .gt 11, 3) := by decide +kernel
theorem dX1_digitAt_55 : decode cX1_digitAt 55 = .ok (.iload_n 2, 1) := by decide +kernel
theorem dX1_digitAt_56 : decode cX1_digitAt 56 = .ok (.bipush 65, 2) := by decide +kernel
theorem dX1_digitAt_58 : decode cX1_digitAt 58 = .ok (.isub, 1) := by decide +kernel
theorem dX1_digitAt_59 : decode cX1_digitAt 59 = .ok (.bipush 10, 2) := by decide +kernel
theorem dX1_digitAt_61 : decode cX1_digitAt 61 = .ok (.iadd, 1) := by decide +kernel
theorem dX1_digitAt_62 : decode cX1_digitAt 62 = .ok (.ireturn, 1) := by decide +kernel
theorem dX1_digitAt_63 : decode cX1_digitAt 63 = .ok (.iconst (-1), 1) := by decide +kernel
theorem dX1_digitAt_64 : decode cX1_digitAt 64 = .ok (.ireturn, 1) := by decide +kernel
set_option maxRecDepth 20000 in
theorem ggX1_writeNumbers_X1_writeByte : GoodIn wsX1_writeNumbers wsX1_writeByte := goodIn_r _ [7, 8, 9, 18, 19, 20, 21, 22, 23, 24] (by decide +kernel) (by decide +kernel)
set_option maxRecDepth 20000 in
theorem gX1_writeNumbers_X1_writeByte : GoodIn wsX1_writeNumbers (wsV RX1 128 RX1 yX1_writeByte wsX1_writeByte) := goodIn_app (goodIn_of _ (by decide +kernel)) ggX1_writeNumbers_X1_writeByte
set_option maxRecDepth 20000 in
theorem ggX1_writeNumbers_X1_writeDecimal : GoodIn wsX1_writeNumbers wsX1_writeDecimal := goodIn_r _ [13, 14, 15, 16, 6, 17, 3, 4, 5, 7, 8, 9, 18, 19, 20, 21, 22, 23, 24] (by decide +kernel) (by decide +kernel)
set_option maxRecDepth 20000 in
theorem gX1_writeNumbers_X1_writeDecimal : GoodIn wsX1_writeNumbers (wsV RX1 131 RX1 yX1_writeDecimal wsX1_writeDecimal) := goodIn_app (goodIn_of _ (by decide +kernel)) ggX1_writeNumbers_X1_writeDecimal
theorem dX1_writeNumbers_0 : decode cX1_writeNumbers 0 = .ok (.iconst 0, 1) := by decide +kernel
theorem dX1_writeNumbers_1 : decode cX1_writeNumbers 1 = .ok (.istore_n 1, 1) := by decide +kernel
theorem dX1_writeNumbers_2 : decode cX1_writeNumbers 2 = .ok (.iload_n 1, 1) := by decide +kernel
theorem dX1_writeNumbers_3 : decode cX1_writeNumbers 3 = .ok (.iconst 4, 1) := by decide +kernel
theorem dX1_writeNumbers_4 : decode cX1_writeNumbers 4 = .ok (.if_icmp .ge 43, 3) := by decide +kernel
theorem dX1_writeNumbers_7 : decode cX1_writeNumbers 7 = .ok (.iload_n 1, 1) := by decide +kernel
theorem dX1_writeNumbers_8 : decode cX1_writeNumbers 8 = .ok (.ifCond .le 9, 3) := by decide +kernel
theorem dX1_writeNumbers_11 : decode cX1_writeNumbers 11 = .ok (.aload_n 0, 1) := by decide +kernel
theorem dX1_writeNumbers_12 : decode cX1_writeNumbers 12 = .ok (.bipush 46, 2) := by decide +kernel
theorem dX1_writeNumbers_14 : decode cX1_writeNumbers 14 = .ok (.invokevirtual 128, 3) := by decide +kernel
theorem dX1_writeNumbers_17 : decode cX1_writeNumbers 17 = .ok (.aload_n 0, 1) := by decide +kernel
theorem dX1_writeNumbers_18 : decode cX1_writeNumbers 18 = .ok (.aload_n 0, 1) := by decide +kernel
theorem dX1_writeNumbers_19 : decode cX1_writeNumbers 19 = .ok (.getfield 26, 3) := by decide +kernel
theorem dX1_writeNumbers_22 : decode cX1_writeNumbers 22 = .ok (.getfield 66, 3) := by decide +kernel
theorem dX1_writeNumbers_25 : decode cX1_writeNumbers 25 = .ok (.bipush 24, 2) := by decide +kernel
theorem dX1_writeNumbers_27 : decode cX1_writeNumbers 27 = .ok (.bipush 8, 2) := by decide +kernel
theorem dX1_writeNumbers_29 : decode cX1_writeNumbers 29 = .ok (.iload_n 1, 1) := by decide +kernel
theorem dX1_writeNumbers_30 : decode cX1_writeNumbers 30 = .ok (.imul, 1) := by decide +kernel
theorem dX1_writeNumbers_31 : decode cX1_writeNumbers 31 = .ok (.isub, 1) := by decide +kernel
theorem dX1_writeNumbers_32 : decode cX1_writeNumbers 32 = .ok (.lushr, 1) := by decide +kernel
theorem dX1_writeNumbers_33 : decode cX1_writeNumbers 33 = .ok (.l2i, 1) := by decide +kernel
theorem dX1_writeNumbers_34 : decode cX1_writeNumbers 34 = .ok (.sipush 255, 3) := by decide +kernel
theorem dX1_writeNumbers_37 : decode cX1_writeNumbers 37 = .ok (.iand, 1) := by decide +kernel
theorem dX1_writeNumbers_38 : decode cX1_writeNumbers 38 = .ok (.invokevirtual 131, 3) := by decide +kernel
theorem dX1_writeNumbers_41 : decode cX1_writeNumbers 41 = .ok (.iinc 1 1, 3) := by decide +kernel
theorem dX1_writeNumbers_44 : decode cX1_writeNumbers 44 = .ok (.goto (-42), 3) := by decide +kernel
theorem dX1_writeNumbers_47 : decode cX1_writeNumbers 47 = .ok (.return_, 1) := by decide +kernel
set_option maxRecDepth 20000 in
theorem ggX1_writeParts_X0_longestRowOfZeros : GoodIn wsX1_writeParts wsX0_longestRowOfZeros := goodIn_r _ [6, 7, 8, 9, 5, 10, 11, 12, 13, 14, 15, 16, 17, 18, 19, 20, 45, 46, 47, 48] (by decide +kernel) (by decide +kernel)
set_option maxRecDepth 20000 in
theorem gX1_writeParts_X0_longestRowOfZeros : GoodIn wsX1_writeParts (wsV RX1 134 RX0 yX0_longestRowOfZeros wsX0_longestRowOfZeros) := goodIn_app (goodIn_of _ (by decide +kernel)) ggX1_writeParts_X0_longestRowOfZeros
set_option maxRecDepth 20000 in
theorem ggX1_writeParts_X0_zerosFrom : GoodIn wsX1_writeParts wsX0_zerosFrom := goodIn_r _ [10, 11, 12, 13, 5, 14, 15, 16, 17, 18, 19, 20, 45, 46, 47, 48] (by decide +kernel) (by decide +kernel)
set_option maxRecDepth 20000 in
theorem gX1_writeParts_X0_zerosFrom : GoodIn wsX1_writeParts (wsV RX1 137 RX0 yX0_zerosFrom wsX0_zerosFrom) := goodIn_app (goodIn_of _ (by decide +kernel)) ggX1_writeParts_X0_zerosFrom
set_option maxRecDepth 20000 in
theorem ggX1_writeParts_X1_writeByte : GoodIn wsX1_writeParts wsX1_writeByte := goodIn_r _ [26, 27, 28, 38, 39, 40, 41, 42, 43, 44] (by decide +kernel) (by decide +kernel)
set_option maxRecDepth 20000 in
theorem gX1_writeParts_X1_writeByte : GoodIn wsX1_writeParts (wsV RX1 128 RX1 yX1_writeByte wsX1_writeByte) := goodIn_app (goodIn_of _ (by decide +kernel)) ggX1_writeParts_X1_writeByte
set_option maxRecDepth 20000 in
theorem ggX1_writeParts_X0_part : GoodIn wsX1_writeParts wsX0_part := goodIn_r _ [14, 15, 16, 17, 18, 19, 5, 20, 45, 46, 47, 48] (by decide +kernel) (by decide +kernel)
set_option maxRecDepth 20000 in
theorem gX1_writeParts_X0_part : GoodIn wsX1_writeParts (wsV RX1 140 RX0 yX0_part wsX0_part) := goodIn_app (goodIn_of _ (by decide +kernel)) ggX1_writeParts_X0_part
set_option maxRecDepth 20000 in
theorem ggX1_writeParts_X1_writeHexadecimal : GoodIn wsX1_writeParts wsX1_writeHexadecimal := goodIn_r _ [33, 34, 35, 36, 25, 37, 22, 23, 24, 26, 27, 28, 38, 39, 40, 41, 42, 43, 44] (by decide +kernel) (by decide +kernel)
set_option maxRecDepth 20000 in
theorem gX1_writeParts_X1_writeHexadecimal : GoodIn wsX1_writeParts (wsV RX1 143 RX1 yX1_writeHexadecimal wsX1_writeHexadecimal) := goodIn_app (goodIn_of _ (by decide +kernel)) ggX1_writeParts_X1_writeHexadecimal
theorem dX1_writeParts_0 : decode cX1_writeParts 0 = .ok (.aload_n 0, 1) := by decide +kernel
theorem dX1_writeParts_1 : decode cX1_writeParts 1 = .ok (.getfield 26, 3) := by decide +kernel
theorem dX1_writeParts_4 : decode cX1_writeParts 4 = .ok (.invokevirtual 134, 3) := by decide +kernel
theorem dX1_writeParts_7 : decode cX1_writeParts 7 = .ok (.istore_n 1, 1) := by decide +kernel
theorem dX1_writeParts_8 : decode cX1_writeParts 8 = .ok (.iload_n 1, 1) := by decide +kernel
theorem dX1_writeParts_9 : decode cX1_writeParts 9 = .ok (.aload_n 0, 1) := by decide +kernel
theorem dX1_writeParts_10 : decode cX1_writeParts 10 = .ok (.getfield 26, 3) := by decide +kernel
theorem dX1_writeParts_13 : decode cX1_writeParts 13 = .ok (.iload_n 1, 1) := by decide +kernel
theorem dX1_writeParts_14 : decode cX1_writeParts 14 = .ok (.invokevirtual 137, 3) := by decide +kernel
theorem dX1_writeParts_17 : decode cX1_writeParts 17 = .ok (.iadd, 1) := by decide +kernel
theorem dX1_writeParts_18 : decode cX1_writeParts 18 = .ok (.istore_n 2, 1) := by decide +kernel
theorem dX1_writeParts_19 : decode cX1_writeParts 19 = .ok (.iconst 0, 1) := by decide +kernel
theorem dX1_writeParts_20 : decode cX1_writeParts 20 = .ok (.istore_n 3, 1) := by decide +kernel
theorem dX1_writeParts_21 : decode cX1_writeParts 21 = .ok (.iload_n 3, 1) := by decide +kernel
theorem dX1_writeParts_22 : decode cX1_writeParts 22 = .ok (.bipush 8, 2) := by decide +kernel
theorem dX1_writeParts_24 : decode cX1_writeParts 24 = .ok (.if_icmp .ge 63, 3) := by decide +kernel
theorem dX1_writeParts_27 : decode cX1_writeParts 27 = .ok (.iload_n 3, 1) := by decide +kernel
theorem dX1_writeParts_28 : decode cX1_writeParts 28 = .ok (.iload_n 1, 1) := by decide +kernel
theorem dX1_writeParts_29 : decode cX1_writeParts 29 = .ok (.if_icmp .ne 15, 3) := by decide +kernel
theorem dX1_writeParts_32 : decode cX1_writeParts 32 = .ok (.aload_n 0, 1) := by decide +kernel
theorem dX1_writeParts_33 : decode cX1_writeParts 33 = .ok (.bipush 58, 2) := by decide +kernel
theorem dX1_writeParts_35 : decode cX1_writeParts 35 = .ok (.invokevirtual 128, 3) := by decide +kernel
theorem dX1_writeParts_38 : decode cX1_writeParts 38 = .ok (.aload_n 0, 1) := by decide +kernel
theorem dX1_writeParts_39 : decode cX1_writeParts 39 = .ok (.bipush 58, 2) := by decide +kernel
theorem dX1_writeParts_41 : decode cX1_writeParts 41 = .ok (.invokevirtual 128, 3) := by decide +kernel
theorem dX1_writeParts_44 : decode cX1_writeParts 44 = .ok (.iload_n 3, 1) := by decide +kernel
theorem dX1_writeParts_45 : decode cX1_writeParts 45 = .ok (.iload_n 1, 1) := by decide +kernel
theorem dX1_writeParts_46 : decode cX1_writeParts 46 = .ok (.if_icmp .lt 8, 3) := by decide +kernel
theorem dX1_writeParts_49 : decode cX1_writeParts 49 = .ok (.iload_n 3, 1) := by decide +kernel
theorem dX1_writeParts_50 : decode cX1_writeParts 50 = .ok (.iload_n 2, 1) := by decide +kernel
theorem dX1_writeParts_51 : decode cX1_writeParts 51 = .ok (.if_icmp .lt 30, 3) := by decide +kernel
theorem dX1_writeParts_54 : decode cX1_writeParts 54 = .ok (.iload_n 3, 1) := by decide +kernel
theorem dX1_writeParts_55 : decode cX1_writeParts 55 = .ok (.ifCond .le 14, 3) := by decide +kernel
theorem dX1_writeParts_58 : decode cX1_writeParts 58 = .ok (.iload_n 3, 1) := by decide +kernel
theorem dX1_writeParts_59 : decode cX1_writeParts 59 = .ok (.iload_n 2, 1) := by decide +kernel
theorem dX1_writeParts_60 : decode cX1_writeParts 60 = .ok (.if_icmp .eq 9, 3) := by decide +kernel
theorem dX1_writeParts_63 : decode cX1_writeParts 63 = .ok (.aload_n 0, 1) := by decide +kernel
theorem dX1_writeParts_64 : decode cX1_writeParts 64 = .ok (.bipush 58, 2) := by decide +kernel
theorem dX1_writeParts_66 : decode cX1_writeParts 66 = .ok (.invokevirtual 128, 3) := by decide +kernel
theorem dX1_writeParts_69 : decode cX1_writeParts 69 = .ok (.aload_n 0, 1) := by decide +kernel
theorem dX1_writeParts_70 : decode cX1_writeParts 70 = .ok (.aload_n 0, 1) := by decide +kernel
theorem dX1_writeParts_71 : decode cX1_writeParts 71 = .ok (.getfield 26, 3) := by decide +kernel
theorem dX1_writeParts_74 : decode cX1_writeParts 74 = .ok (.iload_n 3, 1) := by decide +kernel
theorem dX1_writeParts_75 : decode cX1_writeParts 75 = .ok (.invokevirtual 140, 3) := by decide +kernel
theorem dX1_writeParts_78 : decode cX1_writeParts 78 = .ok (.invokevirtual 143, 3) := by decide +kernel
theorem dX1_writeParts_81 : decode cX1_writeParts 81 = .ok (.iinc 3 1, 3) := by decide +kernel
theorem dX1_writeParts_84 : decode cX1_writeParts 84 = .ok (.goto (-63), 3) := by decide +kernel
theorem dX1_writeParts_87 : decode cX1_writeParts 87 = .ok (.return_, 1) := by decide +kernel
set_option maxRecDepth 20000 in
theorem ggX1_writeDecimal_X1_writeDigit : GoodIn wsX1_writeDecimal wsX1_writeDigit := goodIn_r _ [5, 6, 7, 8, 4, 9, 10, 11, 12, 13, 14, 15, 16, 17, 18] (by decide +kernel) (by decide +kernel)
set_option maxRecDepth 20000 in
theorem gX1_writeDecimal_X1_writeDigit : GoodIn wsX1_writeDecimal (wsV RX1 146 RX1 yX1_writeDigit wsX1_writeDigit) := goodIn_app (goodIn_of _ (by decide +kernel)) ggX1_writeDecimal_X1_writeDigit
theorem dX1_writeDecimal_0 : decode cX1_writeDecimal 0 = .ok (.iload_n 1, 1) := by decide +kernel
theorem dX1_writeDecimal_1 : decode cX1_writeDecimal 1 = .ok (.bipush 100, 2) := by decide +kernel
theorem dX1_writeDecimal_3 : decode cX1_writeDecimal 3 = .ok (.if_icmp .lt 11, 3) := by decide +kernel
theorem dX1_writeDecimal_6 : decode cX1_writeDecimal 6 = .ok (.aload_n 0, 1) := by decide +kernel
theorem dX1_writeDecimal_7 : decode cX1_writeDecimal 7 = .ok (.iload_n 1, 1) := by decide +kernel
theorem dX1_writeDecimal_8 : decode cX1_writeDecimal 8 = .ok (.bipush 100, 2) := by decide +kernel
theorem dX1_writeDecimal_10 : decode cX1_writeDecimal 10 = .ok (.idiv, 1) := by decide +kernel
theorem dX1_writeDecimal_11 : decode cX1_writeDecimal 11 = .ok (.invokevirtual 146, 3) := by decide +kernel
theorem dX1_writeDecimal_14 : decode cX1_writeDecimal 14 = .ok (.iload_n 1, 1) := by decide +kernel
theorem dX1_writeDecimal_15 : decode cX1_writeDecimal 15 = .ok (.bipush 10, 2) := by decide +kernel
theorem dX1_writeDecimal_17 : decode cX1_writeDecimal 17 = .ok (.if_icmp .lt 14, 3) := by decide +kernel
theorem dX1_writeDecimal_20 : decode cX1_writeDecimal 20 = .ok (.aload_n 0, 1) := by decide +kernel
theorem dX1_writeDecimal_21 : decode cX1_writeDecimal 21 = .ok (.iload_n 1, 1) := by decide +kernel
theorem dX1_writeDecimal_22 : decode cX1_writeDecimal 22 = .ok (.bipush 10, 2) := by decide +kernel
theorem dX1_writeDecimal_24 : decode cX1_writeDecimal 24 = .ok (.idiv, 1) := by decide +kernel
theorem dX1_writeDecimal_25 : decode cX1_writeDecimal 25 = .ok (.bipush 10, 2) := by decide +kernel
theorem dX1_writeDecimal_27 : decode cX1_writeDecimal 27 = .ok (.irem, 1) := by decide +kernel
theorem dX1_writeDecimal_28 : decode cX1_writeDecimal 28 = .ok (.invokevirtual 146, 3) := by decide +kernel
theorem dX1_writeDecimal_31 : decode cX1_writeDecimal 31 = .ok (.aload_n 0, 1) := by decide +kernel
theorem dX1_writeDecimal_32 : decode cX1_writeDecimal 32 = .ok (.iload_n 1, 1) := by decide +kernel
theorem dX1_writeDecimal_33 : decode cX1_writeDecimal 33 = .ok (.bipush 10, 2) := by decide +kernel
theorem dX1_writeDecimal_35 : decode cX1_writeDecimal 35 = .ok (.irem, 1) := by decide +kernel
theorem dX1_writeDecimal_36 : decode cX1_writeDecimal 36 = .ok (.invokevirtual 146, 3) := by decide +kernel
theorem dX1_writeDecimal_39 : decode cX1_writeDecimal 39 = .ok (.return_, 1) := by decide +kernel
set_option maxRecDepth 20000 in
theorem ggX1_writeHexadecimal_X1_writeDigit : GoodIn wsX1_writeHexadecimal wsX1_writeDigit := goodIn_r _ [5, 6, 7, 8, 4, 9, 10, 11, 12, 13, 14, 15, 16, 17, 18] (by decide +kernel) (by decide +kernel)
set_option maxRecDepth 20000 in
theorem gX1_writeHexadecimal_X1_writeDigit : GoodIn wsX1_writeHexadecimal (wsV RX1 146 RX1 yX1_writeDigit wsX1_writeDigit) := goodIn_app (goodIn_of _ (by decide +kernel)) ggX1_writeHexadecimal_X1_writeDigit
theorem dX1_writeHexadecimal_0 : decode cX1_writeHexadecimal 0 = .ok (.bipush 12, 2) := by decide +kernel
theorem dX1_writeHexadecimal_2 : decode cX1_writeHexadecimal 2 = .ok (.istore_n 2, 1) := by decide +kernel
theorem dX1_writeHexadecimal_3 : decode cX1_writeHexadecimal 3 = .ok (.iload_n 2, 1) := by decide +kernel
theorem dX1_writeHexadecimal_4 : decode cX1_writeHexadecimal 4 = .ok (.ifCond .lt 29, 3) := by decide +kernel
theorem dX1_writeHexadecimal_7 : decode cX1_writeHexadecimal 7 = .ok (.iload_n 2, 1) := by decide +kernel
theorem dX1_writeHexadecimal_8 : decode cX1_writeHexadecimal 8 = .ok (.ifCond .eq 9, 3) := by decide +kernel
theorem dX1_writeHexadecimal_11 : decode cX1_writeHexadecimal 11 = .ok (.iload_n 1, 1) := by decide +kernel
theorem dX1_writeHexadecimal_12 : decode cX1_writeHexadecimal 12 = .ok (.iload_n 2, 1) := by decide +kernel
theorem dX1_writeHexadecimal_13 : decode cX1_writeHexadecimal 13 = .ok (.iushr, 1) := by decide +kernel
theorem dX1_writeHexadecimal_14 : decode cX1_writeHexadecimal 14 = .ok (.ifCond .eq 13, 3) := by decide +kernel
theorem dX1_writeHexadecimal_17 : decode cX1_writeHexadecimal 17 = .ok (.aload_n 0, 1) := by decide +kernel
theorem dX1_writeHexadecimal_18 : decode cX1_writeHexadecimal 18 = .ok (.iload_n 1, 1) := by decide +kernel
theorem dX1_writeHexadecimal_19 : decode cX1_writeHexadecimal 19 = .ok (.iload_n 2, 1) := by decide +kernel
theorem dX1_writeHexadecimal_20 : decode cX1_writeHexadecimal 20 = .ok (.iushr, 1) := by decide +kernel
theorem dX1_writeHexadecimal_21 : decode cX1_writeHexadecimal 21 = .ok (.bipush 15, 2) := by decide +kernel
theorem dX1_writeHexadecimal_23 : decode cX1_writeHexadecimal 23 = .ok (.iand, 1) := by decide +kernel
theorem dX1_writeHexadecimal_24 : decode cX1_writeHexadecimal 24 = .ok (.invokevirtual 146, 3) := by decide +kernel
theorem dX1_writeHexadecimal_27 : decode cX1_writeHexadecimal 27 = .ok (.iinc 2 (-4), 3) := by decide +kernel
theorem dX1_writeHexadecimal_30 : decode cX1_writeHexadecimal 30 = .ok (.goto (-27), 3) := by decide +kernel
theorem dX1_writeHexadecimal_33 : decode cX1_writeHexadecimal 33 = .ok (.return_, 1) := by decide +kernel
set_option maxRecDepth 20000 in
theorem ggX1_writeDigit_X1_writeByte : GoodIn wsX1_writeDigit wsX1_writeByte := goodIn_r _ [5, 6, 7, 8, 9, 10, 11, 12, 13, 14] (by decide +kernel) (by decide +kernel)
set_option maxRecDepth 20000 in
theorem gX1_writeDigit_X1_writeByte : GoodIn wsX1_writeDigit (wsV RX1 128 RX1 yX1_writeByte wsX1_writeByte) := goodIn_app (goodIn_of _ (by decide +kernel)) ggX1_writeDigit_X1_writeByte
theorem dX1_writeDigit_0 : decode cX1_writeDigit 0 = .ok (.aload_n 0, 1) := by decide +kernel
theorem dX1_writeDigit_1 : decode cX1_writeDigit 1 = .ok (.iload_n 1, 1) := by decide +kernel
theorem dX1_writeDigit_2 : decode cX1_writeDigit 2 = .ok (.bipush 10, 2) := by decide +kernel
theorem dX1_writeDigit_4 : decode cX1_writeDigit 4 = .ok (.if_icmp .ge 10, 3) := by decide +kernel
theorem dX1_writeDigit_7 : decode cX1_writeDigit 7 = .ok (.bipush 48, 2) := by decide +kernel
theorem dX1_writeDigit_9 : decode cX1_writeDigit 9 = .ok (.iload_n 1, 1) := by decide +kernel
theorem dX1_writeDigit_10 : decode cX1_writeDigit 10 = .ok (.iadd, 1) := by decide +kernel
theorem dX1_writeDigit_11 : decode cX1_writeDigit 11 = .ok (.goto 10, 3) := by decide +kernel
theorem dX1_writeDigit_14 : decode cX1_writeDigit 14 = .ok (.bipush 97, 2) := by decide +kernel
theorem dX1_writeDigit_16 : decode cX1_writeDigit 16 = .ok (.iload_n 1, 1) := by decide +kernel
theorem dX1_writeDigit_17 : decode cX1_writeDigit 17 = .ok (.iadd, 1) := by decide +kernel
theorem dX1_writeDigit_18 : decode cX1_writeDigit 18 = .ok (.bipush 10, 2) := by decide +kernel
theorem dX1_writeDigit_20 : decode cX1_writeDigit 20 = .ok (.isub, 1) := by decide +kernel
theorem dX1_writeDigit_21 : decode cX1_writeDigit 21 = .ok (.invokevirtual 128, 3) := by decide +kernel
theorem dX1_writeDigit_24 : decode cX1_writeDigit 24 = .ok (.return_, 1) := by decide +kernel
theorem dX1_writeByte_0 : decode cX1_writeByte 0 = .ok (.aload_n 0, 1) := by decide +kernel
theorem dX1_writeByte_1 : decode cX1_writeByte 1 = .ok (.getfield 20, 3) := by decide +kernel
theorem dX1_writeByte_4 : decode cX1_writeByte 4 = .ok (.aload_n 0, 1) := by decide +kernel
theorem dX1_writeByte_5 : decode cX1_writeByte 5 = .ok (.getfield 17, 3) := by decide +kernel
theorem dX1_writeByte_8 : decode cX1_writeByte 8 = .ok (.arraylength, 1) := by decide +kernel
theorem dX1_writeByte_9 : decode cX1_writeByte 9 = .ok (.if_icmp .ge 24, 3) := by decide +kernel
theorem dX1_writeByte_12 : decode cX1_writeByte 12 = .ok (.aload_n 0, 1) := by decide +kernel
theorem dX1_writeByte_13 : decode cX1_writeByte 13 = .ok (.getfield 17, 3) := by decide +kernel
theorem dX1_writeByte_16 : decode cX1_writeByte 16 = .ok (.aload_n 0, 1) := by decide +kernel
theorem dX1_writeByte_17 : decode cX1_writeByte 17 = .ok (.getfield 20, 3) := by decide +kernel
theorem dX1_writeByte_20 : decode cX1_writeByte 20 = .ok (.iload_n 1, 1) := by decide +kernel
theorem dX1_writeByte_21 : decode cX1_writeByte 21 = .ok (.i2b, 1) := by decide +kernel
theorem dX1_writeByte_22 : decode cX1_writeByte 22 = .ok (.bastore, 1) := by decide +kernel
theorem dX1_writeByte_23 : decode cX1_writeByte 23 = .ok (.aload_n 0, 1) := by decide +kernel
theorem dX1_writeByte_24 : decode cX1_writeByte 24 = .ok (.dup, 1) := by decide +kernel
theorem dX1_writeByte_25 : decode cX1_writeByte 25 = .ok (.getfield 20, 3) := by decide +kernel
theorem dX1_writeByte_28 : decode cX1_writeByte 28 = .ok (.iconst 1, 1) := by decide +kernel
theorem dX1_writeByte_29 : decode cX1_writeByte 29 = .ok (.iadd, 1) := by decide +kernel
theorem dX1_writeByte_30 : decode cX1_writeByte 30 = .ok (.putfield 20, 3) := by decide +kernel
theorem dX1_writeByte_33 : decode cX1_writeByte 33 = .ok (.return_, 1) := by decide +kernel
theorem dX1_isBelow_0 : decode cX1_isBelow 0 = .ok (.lload_n 0, 1) := by decide +kernel
theorem dX1_isBelow_1 : decode cX1_isBelow 1 = .ok (.ldc2_w 149, 3) := by decide +kernel
theorem dX1_isBelow_4 : decode cX1_isBelow 4 = .ok (.lxor, 1) := by decide +kernel
theorem dX1_isBelow_5 : decode cX1_isBelow 5 = .ok (.lload_n 2, 1) := by decide +kernel
theorem dX1_isBelow_6 : decode cX1_isBelow 6 = .ok (.ldc2_w 149, 3) := by decide +kernel
theorem dX1_isBelow_9 : decode cX1_isBelow 9 = .ok (.lxor, 1) := by decide +kernel
theorem dX1_isBelow_10 : decode cX1_isBelow 10 = .ok (.lcmp, 1) := by decide +kernel
theorem dX1_isBelow_11 : decode cX1_isBelow 11 = .ok (.ifCond .ge 7, 3) := by decide +kernel
theorem dX1_isBelow_14 : decode cX1_isBelow 14 = .ok (.iconst 1, 1) := by decide +kernel
theorem dX1_isBelow_15 : decode cX1_isBelow 15 = .ok (.goto 4, 3) := by decide +kernel
theorem dX1_isBelow_18 : decode cX1_isBelow 18 = .ok (.iconst 0, 1) := by decide +kernel
theorem dX1_isBelow_19 : decode cX1_isBelow 19 = .ok (.ireturn, 1) := by decide +kernel
theorem dL_law_0 : decode cL_law 0 = .ok (.new 7, 3) := by decide +kernel
theorem dL_law_3 : decode cL_law 3 = .ok (.dup, 1) := by decide +kernel
theorem dL_law_4 : decode cL_law 4 = .ok (.invokespecial 9, 3) := by decide +kernel
theorem dL_law_7 : decode cL_law 7 = .ok (.astore_n 1, 1) := by decide +kernel
theorem dL_law_8 : decode cL_law 8 = .ok (.new 10, 3) := by decide +kernel
theorem dL_law_11 : decode cL_law 11 = .ok (.dup, 1) := by decide +kernel
theorem dL_law_12 : decode cL_law 12 = .ok (.invokespecial 12, 3) := by decide +kernel
theorem dL_law_15 : decode cL_law 15 = .ok (.astore_n 2, 1) := by decide +kernel
theorem dL_law_16 : decode cL_law 16 = .ok (.iconst 0, 1) := by decide +kernel
theorem dL_law_17 : decode cL_law 17 = .ok (.istore_n 3, 1) := by decide +kernel
theorem dL_law_18 : decode cL_law 18 = .ok (.iload_n 3, 1) := by decide +kernel
theorem dL_law_19 : decode cL_law 19 = .ok (.aload_n 0, 1) := by decide +kernel
theorem dL_law_20 : decode cL_law 20 = .ok (.arraylength, 1) := by decide +kernel
theorem dL_law_21 : decode cL_law 21 = .ok (.bipush 6, 2) := by decide +kernel
theorem dL_law_23 : decode cL_law 23 = .ok (.isub, 1) := by decide +kernel
theorem dL_law_24 : decode cL_law 24 = .ok (.if_icmp .gt 296, 3) := by decide +kernel
theorem dL_law_27 : decode cL_law 27 = .ok (.aload_n 0, 1) := by decide +kernel
theorem dL_law_28 : decode cL_law 28 = .ok (.iload_n 3, 1) := by decide +kernel
theorem dL_law_29 : decode cL_law 29 = .ok (.iaload, 1) := by decide +kernel
theorem dL_law_30 : decode cL_law 30 = .ok (.bipush 15, 2) := by decide +kernel
theorem dL_law_32 : decode cL_law 32 = .ok (.iand, 1) := by decide +kernel
theorem dL_law_33 : decode cL_law 33 = .ok (.tableswitch 281 0 10 #[59, 122, 145, 158, 171, 184, 197, 210, 221, 234, 257], 59) := by decide +kernel
theorem dL_law_92 : decode cL_law 92 = .ok (.aload_n 1, 1) := by decide +kernel
theorem dL_law_93 : decode cL_law 93 = .ok (.aload_n 0, 1) := by decide +kernel
theorem dL_law_94 : decode cL_law 94 = .ok (.iload_n 3, 1) := by decide +kernel
theorem dL_law_95 : decode cL_law 95 = .ok (.iconst 1, 1) := by decide +kernel
theorem dL_law_96 : decode cL_law 96 = .ok (.iadd, 1) := by decide +kernel
theorem dL_law_97 : decode cL_law 97 = .ok (.iaload, 1) := by decide +kernel
theorem dL_law_98 : decode cL_law 98 = .ok (.aload_n 0, 1) := by decide +kernel
theorem dL_law_99 : decode cL_law 99 = .ok (.iload_n 3, 1) := by decide +kernel
theorem dL_law_100 : decode cL_law 100 = .ok (.iconst 2, 1) := by decide +kernel
theorem dL_law_101 : decode cL_law 101 = .ok (.iadd, 1) := by decide +kernel
theorem dL_law_102 : decode cL_law 102 = .ok (.iaload, 1) := by decide +kernel
theorem dL_law_103 : decode cL_law 103 = .ok (.aload_n 0, 1) := by decide +kernel
theorem dL_law_104 : decode cL_law 104 = .ok (.iload_n 3, 1) := by decide +kernel
theorem dL_law_105 : decode cL_law 105 = .ok (.iconst 3, 1) := by decide +kernel
theorem dL_law_106 : decode cL_law 106 = .ok (.iadd, 1) := by decide +kernel
theorem dL_law_107 : decode cL_law 107 = .ok (.iaload, 1) := by decide +kernel
theorem dL_law_108 : decode cL_law 108 = .ok (.aload_n 0, 1) := by decide +kernel
theorem dL_law_109 : decode cL_law 109 = .ok (.iload_n 3, 1) := by decide +kernel
theorem dL_law_110 : decode cL_law 110 = .ok (.iconst 4, 1) := by decide +kernel
theorem dL_law_111 : decode cL_law 111 = .ok (.iadd, 1) := by decide +kernel
theorem dL_law_112 : decode cL_law 112 = .ok (.iaload, 1) := by decide +kernel
theorem dL_law_113 : decode cL_law 113 = .ok (.aload_n 0, 1) := by decide +kernel
theorem dL_law_114 : decode cL_law 114 = .ok (.iload_n 3, 1) := by decide +kernel
theorem dL_law_115 : decode cL_law 115 = .ok (.iconst 5, 1) := by decide +kernel
theorem dL_law_116 : decode cL_law 116 = .ok (.iadd, 1) := by decide +kernel
theorem dL_law_117 : decode cL_law 117 = .ok (.iaload, 1) := by decide +kernel
theorem dL_law_118 : decode cL_law 118 = .ok (.invokevirtual 13, 3) := by decide +kernel
theorem dL_law_121 : decode cL_law 121 = .ok (.aload_n 2, 1) := by decide +kernel
theorem dL_law_122 : decode cL_law 122 = .ok (.aload_n 0, 1) := by decide +kernel
theorem dL_law_123 : decode cL_law 123 = .ok (.iload_n 3, 1) := by decide +kernel
theorem dL_law_124 : decode cL_law 124 = .ok (.iconst 1, 1) := by decide +kernel
theorem dL_law_125 : decode cL_law 125 = .ok (.iadd, 1) := by decide +kernel
theorem dL_law_126 : decode cL_law 126 = .ok (.iaload, 1) := by decide +kernel
theorem dL_law_127 : decode cL_law 127 = .ok (.aload_n 0, 1) := by decide +kernel
theorem dL_law_128 : decode cL_law 128 = .ok (.iload_n 3, 1) := by decide +kernel
theorem dL_law_129 : decode cL_law 129 = .ok (.iconst 2, 1) := by decide +kernel
theorem dL_law_130 : decode cL_law 130 = .ok (.iadd, 1) := by decide +kernel
theorem dL_law_131 : decode cL_law 131 = .ok (.iaload, 1) := by decide +kernel
theorem dL_law_132 : decode cL_law 132 = .ok (.aload_n 0, 1) := by decide +kernel
theorem dL_law_133 : decode cL_law 133 = .ok (.iload_n 3, 1) := by decide +kernel
theorem dL_law_134 : decode cL_law 134 = .ok (.iconst 3, 1) := by decide +kernel
theorem dL_law_135 : decode cL_law 135 = .ok (.iadd, 1) := by decide +kernel
theorem dL_law_136 : decode cL_law 136 = .ok (.iaload, 1) := by decide +kernel
theorem dL_law_137 : decode cL_law 137 = .ok (.aload_n 0, 1) := by decide +kernel
theorem dL_law_138 : decode cL_law 138 = .ok (.iload_n 3, 1) := by decide +kernel
theorem dL_law_139 : decode cL_law 139 = .ok (.iconst 4, 1) := by decide +kernel
theorem dL_law_140 : decode cL_law 140 = .ok (.iadd, 1) := by decide +kernel
theorem dL_law_141 : decode cL_law 141 = .ok (.iaload, 1) := by decide +kernel
theorem dL_law_142 : decode cL_law 142 = .ok (.aload_n 0, 1) := by decide +kernel
theorem dL_law_143 : decode cL_law 143 = .ok (.iload_n 3, 1) := by decide +kernel
theorem dL_law_144 : decode cL_law 144 = .ok (.iconst 5, 1) := by decide +kernel
theorem dL_law_145 : decode cL_law 145 = .ok (.iadd, 1) := by decide +kernel
theorem dL_law_146 : decode cL_law 146 = .ok (.iaload, 1) := by decide +kernel
theorem dL_law_147 : decode cL_law 147 = .ok (.invokevirtual 17, 3) := by decide +kernel
theorem dL_law_150 : decode cL_law 150 = .ok (.if_icmp .eq 164, 3) := by decide +kernel
theorem dL_law_153 : decode cL_law 153 = .ok (.iconst 0, 1) := by decide +kernel
theorem dL_law_154 : decode cL_law 154 = .ok (.ireturn, 1) := by decide +kernel
theorem dL_law_155 : decode cL_law 155 = .ok (.aload_n 1, 1) := by decide +kernel
theorem dL_law_156 : decode cL_law 156 = .ok (.aload_n 0, 1) := by decide +kernel
theorem dL_law_157 : decode cL_law 157 = .ok (.iload_n 3, 1) := by decide +kernel
theorem dL_law_158 : decode cL_law 158 = .ok (.iconst 1, 1) := by decide +kernel
theorem dL_law_159 : decode cL_law 159 = .ok (.iadd, 1) := by decide +kernel
theorem dL_law_160 : decode cL_law 160 = .ok (.iaload, 1) := by decide +kernel
theorem dL_law_161 : decode cL_law 161 = .ok (.invokevirtual 18, 3) := by decide +kernel
theorem dL_law_164 : decode cL_law 164 = .ok (.aload_n 2, 1) := by decide +kernel
theorem dL_law_165 : decode cL_law 165 = .ok (.aload_n 0, 1) := by decide +kernel
theorem dL_law_166 : decode cL_law 166 = .ok (.iload_n 3, 1) := by decide +kernel
theorem dL_law_167 : decode cL_law 167 = .ok (.iconst 1, 1) := by decide +kernel
theorem dL_law_168 : decode cL_law 168 = .ok (.iadd, 1) := by decide +kernel
theorem dL_law_169 : decode cL_law 169 = .ok (.iaload, 1) := by decide +kernel
theorem dL_law_170 : decode cL_law 170 = .ok (.invokevirtual 22, 3) := by decide +kernel
theorem dL_law_173 : decode cL_law 173 = .ok (.if_icmp .eq 141, 3) := by decide +kernel
theorem dL_law_176 : decode cL_law 176 = .ok (.iconst 0, 1) := by decide +kernel
theorem dL_law_177 : decode cL_law 177 = .ok (.ireturn, 1) := by decide +kernel
theorem dL_law_178 : decode cL_law 178 = .ok (.aload_n 1, 1) := by decide +kernel
theorem dL_law_179 : decode cL_law 179 = .ok (.invokevirtual 23, 3) := by decide +kernel
theorem dL_law_182 : decode cL_law 182 = .ok (.aload_n 2, 1) := by decide +kernel
theorem dL_law_183 : decode cL_law 183 = .ok (.invokevirtual 27, 3) := by decide +kernel
theorem dL_law_186 : decode cL_law 186 = .ok (.if_icmp .eq 128, 3) := by decide +kernel
theorem dL_law_189 : decode cL_law 189 = .ok (.iconst 0, 1) := by decide +kernel
theorem dL_law_190 : decode cL_law 190 = .ok (.ireturn, 1) := by decide +kernel
theorem dL_law_191 : decode cL_law 191 = .ok (.aload_n 1, 1) := by decide +kernel
theorem dL_law_192 : decode cL_law 192 = .ok (.invokevirtual 28, 3) := by decide +kernel
theorem dL_law_195 : decode cL_law 195 = .ok (.aload_n 2, 1) := by decide +kernel
theorem dL_law_196 : decode cL_law 196 = .ok (.invokevirtual 31, 3) := by decide +kernel
theorem dL_law_199 : decode cL_law 199 = .ok (.if_icmp .eq 115, 3) := by decide +kernel
theorem dL_law_202 : decode cL_law 202 = .ok (.iconst 0, 1) := by decide +kernel
theorem dL_law_203 : decode cL_law 203 = .ok (.ireturn, 1) := by decide +kernel
theorem dL_law_204 : decode cL_law 204 = .ok (.aload_n 1, 1) := by decide +kernel
theorem dL_law_205 : decode cL_law 205 = .ok (.invokevirtual 32, 3) := by decide +kernel
theorem dL_law_208 : decode cL_law 208 = .ok (.aload_n 2, 1) := by decide +kernel
theorem dL_law_209 : decode cL_law 209 = .ok (.invokevirtual 36, 3) := by decide +kernel
theorem dL_law_212 : decode cL_law 212 = .ok (.if_icmp .eq 102, 3) := by decide +kernel
theorem dL_law_215 : decode cL_law 215 = .ok (.iconst 0, 1) := by decide +kernel
theorem dL_law_216 : decode cL_law 216 = .ok (.ireturn, 1) := by decide +kernel
theorem dL_law_217 : decode cL_law 217 = .ok (.aload_n 1, 1) := by decide +kernel
theorem dL_law_218 : decode cL_law 218 = .ok (.invokevirtual 37, 3) := by decide +kernel
theorem dL_law_221 : decode cL_law 221 = .ok (.aload_n 2, 1) := by decide +kernel
theorem dL_law_222 : decode cL_law 222 = .ok (.invokevirtual 40, 3) := by decide +kernel
theorem dL_law_225 : decode cL_law 225 = .ok (.if_icmp .eq 89, 3) := by decide +kernel
theorem dL_law_228 : decode cL_law 228 = .ok (.iconst 0, 1) := by decide +kernel
theorem dL_law_229 : decode cL_law 229 = .ok (.ireturn, 1) := by decide +kernel
theorem dL_law_230 : decode cL_law 230 = .ok (.aload_n 1, 1) := by decide +kernel
theorem dL_law_231 : decode cL_law 231 = .ok (.invokevirtual 41, 3) := by decide +kernel
theorem dL_law_234 : decode cL_law 234 = .ok (.aload_n 2, 1) := by decide +kernel
theorem dL_law_235 : decode cL_law 235 = .ok (.invokevirtual 44, 3) := by decide +kernel
theorem dL_law_238 : decode cL_law 238 = .ok (.if_icmp .eq 76, 3) := by decide +kernel
theorem dL_law_241 : decode cL_law 241 = .ok (.iconst 0, 1) := by decide +kernel
theorem dL_law_242 : decode cL_law 242 = .ok (.ireturn, 1) := by decide +kernel
theorem dL_law_243 : decode cL_law 243 = .ok (.aload_n 1, 1) := by decide +kernel
theorem dL_law_244 : decode cL_law 244 = .ok (.invokevirtual 45, 3) := by decide +kernel
theorem dL_law_247 : decode cL_law 247 = .ok (.aload_n 2, 1) := by decide +kernel
theorem dL_law_248 : decode cL_law 248 = .ok (.invokevirtual 48, 3) := by decide +kernel
theorem dL_law_251 : decode cL_law 251 = .ok (.goto 63, 3) := by decide +kernel
theorem dL_law_254 : decode cL_law 254 = .ok (.aload_n 1, 1) := by decide +kernel
theorem dL_law_255 : decode cL_law 255 = .ok (.invokevirtual 49, 3) := by decide +kernel
theorem dL_law_258 : decode cL_law 258 = .ok (.aload_n 2, 1) := by decide +kernel
theorem dL_law_259 : decode cL_law 259 = .ok (.invokevirtual 52, 3) := by decide +kernel
theorem dL_law_262 : decode cL_law 262 = .ok (.if_icmp .eq 52, 3) := by decide +kernel
theorem dL_law_265 : decode cL_law 265 = .ok (.iconst 0, 1) := by decide +kernel
theorem dL_law_266 : decode cL_law 266 = .ok (.ireturn, 1) := by decide +kernel
theorem dL_law_267 : decode cL_law 267 = .ok (.aload_n 1, 1) := by decide +kernel
theorem dL_law_268 : decode cL_law 268 = .ok (.aload_n 0, 1) := by decide +kernel
theorem dL_law_269 : decode cL_law 269 = .ok (.iload_n 3, 1) := by decide +kernel
theorem dL_law_270 : decode cL_law 270 = .ok (.iconst 1, 1) := by decide +kernel
theorem dL_law_271 : decode cL_law 271 = .ok (.iadd, 1) := by decide +kernel
theorem dL_law_272 : decode cL_law 272 = .ok (.iaload, 1) := by decide +kernel
theorem dL_law_273 : decode cL_law 273 = .ok (.invokevirtual 53, 3) := by decide +kernel
theorem dL_law_276 : decode cL_law 276 = .ok (.aload_n 2, 1) := by decide +kernel
theorem dL_law_277 : decode cL_law 277 = .ok (.aload_n 0, 1) := by decide +kernel
theorem dL_law_278 : decode cL_law 278 = .ok (.iload_n 3, 1) := by decide +kernel
theorem dL_law_279 : decode cL_law 279 = .ok (.iconst 1, 1) := by decide +kernel
theorem dL_law_280 : decode cL_law 280 = .ok (.iadd, 1) := by decide +kernel
theorem dL_law_281 : decode cL_law 281 = .ok (.iaload, 1) := by decide +kernel
theorem dL_law_282 : decode cL_law 282 = .ok (.invokevirtual 57, 3) := by decide +kernel
theorem dL_law_285 : decode cL_law 285 = .ok (.if_icmp .eq 29, 3) := by decide +kernel
theorem dL_law_288 : decode cL_law 288 = .ok (.iconst 0, 1) := by decide +kernel
theorem dL_law_289 : decode cL_law 289 = .ok (.ireturn, 1) := by decide +kernel
theorem dL_law_290 : decode cL_law 290 = .ok (.aload_n 1, 1) := by decide +kernel
theorem dL_law_291 : decode cL_law 291 = .ok (.aload_n 0, 1) := by decide +kernel
theorem dL_law_292 : decode cL_law 292 = .ok (.iload_n 3, 1) := by decide +kernel
theorem dL_law_293 : decode cL_law 293 = .ok (.iconst 1, 1) := by decide +kernel
theorem dL_law_294 : decode cL_law 294 = .ok (.iadd, 1) := by decide +kernel
theorem dL_law_295 : decode cL_law 295 = .ok (.iaload, 1) := by decide +kernel
theorem dL_law_296 : decode cL_law 296 = .ok (.invokevirtual 58, 3) := by decide +kernel
theorem dL_law_299 : decode cL_law 299 = .ok (.aload_n 2, 1) := by decide +kernel
theorem dL_law_300 : decode cL_law 300 = .ok (.aload_n 0, 1) := by decide +kernel
theorem dL_law_301 : decode cL_law 301 = .ok (.iload_n 3, 1) := by decide +kernel
theorem dL_law_302 : decode cL_law 302 = .ok (.iconst 1, 1) := by decide +kernel
theorem dL_law_303 : decode cL_law 303 = .ok (.iadd, 1) := by decide +kernel
theorem dL_law_304 : decode cL_law 304 = .ok (.iaload, 1) := by decide +kernel
theorem dL_law_305 : decode cL_law 305 = .ok (.invokevirtual 62, 3) := by decide +kernel
theorem dL_law_308 : decode cL_law 308 = .ok (.lcmp, 1) := by decide +kernel
theorem dL_law_309 : decode cL_law 309 = .ok (.ifCond .eq 5, 3) := by decide +kernel
theorem dL_law_312 : decode cL_law 312 = .ok (.iconst 0, 1) := by decide +kernel
theorem dL_law_313 : decode cL_law 313 = .ok (.ireturn, 1) := by decide +kernel
theorem dL_law_314 : decode cL_law 314 = .ok (.iinc 3 6, 3) := by decide +kernel
theorem dL_law_317 : decode cL_law 317 = .ok (.goto (-299), 3) := by decide +kernel
theorem dL_law_320 : decode cL_law 320 = .ok (.iconst 1, 1) := by decide +kernel
theorem dL_law_321 : decode cL_law 321 = .ok (.ireturn, 1) := by decide +kernel
end
section
/-! names of the reference, by a program of mine out of javap's listing and the tables -/
def RXM : String := "AddressTextsModel"
def TXM : u_T := fun k => match k with
  | 0 => ("AddressTextsModel", "tape", "[I", true)
  | 1 => ("AddressTextsModel", "size", "I", false)
  | 2 => ("AddressTextsModel", "bytes", "[I", true)
  | 3 => ("AddressTextsModel", "family", "[I", true)
  | 4 => ("AddressTextsModel", "length", "[I", true)
  | 5 => ("AddressTextsModel", "parts", "[I", true)
  | 6 => ("AddressTextsModel", "many", "I", false)
  | 7 => ("AddressTextsModel", "gap", "I", false)
  | 8 => ("AddressTextsModel", "out", "[I", true)
  | _ => ("AddressTextsModel", "written", "I", false)
def tyXM : Nat → FieldType := fun k => match k with
  | 0 => .array .int
  | 1 => .int
  | 2 => .array .int
  | 3 => .array .int
  | 4 => .array .int
  | 5 => .array .int
  | 6 => .int
  | 7 => .int
  | 8 => .array .int
  | _ => .int
abbrev wsXM0 : List Cond := u_ws RXM TXM 10
theorem nmXM : ∀ a, a < 10 → ∀ b, b < 10 → a ≠ b → (TXM a).2.1 ≠ (TXM b).2.1 := by decide +kernel
theorem tyXM_ok : ∀ k, k < 10 → parseFieldDescriptor (TXM k).2.2.1 = some (tyXM k) := by decide +kernel
abbrev cXM_init : ByteArray := prog_4_method_1_code
def yXM_init : MethodName := ⟨RXM, "<init>", "()V"⟩
abbrev cXM_lay : ByteArray := prog_4_method_3_code
def yXM_lay : MethodName := ⟨RXM, "lay", "(I)V"⟩
abbrev cXM_feed : ByteArray := prog_4_method_4_code
def yXM_feed : MethodName := ⟨RXM, "feed", "(IIIII)Z"⟩
abbrev cXM_end : ByteArray := prog_4_method_5_code
def yXM_end : MethodName := ⟨RXM, "end", "(I)Z"⟩
abbrev cXM_isDigit : ByteArray := prog_4_method_6_code
def yXM_isDigit : MethodName := ⟨RXM, "isDigit", "(I)Z"⟩
abbrev cXM_hexadecimal : ByteArray := prog_4_method_7_code
def yXM_hexadecimal : MethodName := ⟨RXM, "hexadecimal", "(I)I"⟩
abbrev cXM_decimal : ByteArray := prog_4_method_8_code
def yXM_decimal : MethodName := ⟨RXM, "decimal", "(III)I"⟩
abbrev cXM_isFour : ByteArray := prog_4_method_9_code
def yXM_isFour : MethodName := ⟨RXM, "isFour", "()Z"⟩
abbrev cXM_isSix : ByteArray := prog_4_method_10_code
def yXM_isSix : MethodName := ⟨RXM, "isSix", "()Z"⟩
abbrev cXM_read : ByteArray := prog_4_method_11_code
def yXM_read : MethodName := ⟨RXM, "read", "()I"⟩
abbrev cXM_length : ByteArray := prog_4_method_12_code
def yXM_length : MethodName := ⟨RXM, "length", "()I"⟩
abbrev cXM_bit : ByteArray := prog_4_method_13_code
def yXM_bit : MethodName := ⟨RXM, "bit", "(II)I"⟩
abbrev cXM_cut : ByteArray := prog_4_method_14_code
def yXM_cut : MethodName := ⟨RXM, "cut", "()Z"⟩
abbrev cXM_covers : ByteArray := prog_4_method_15_code
def yXM_covers : MethodName := ⟨RXM, "covers", "()Z"⟩
abbrev cXM_order : ByteArray := prog_4_method_16_code
def yXM_order : MethodName := ⟨RXM, "order", "()I"⟩
abbrev cXM_turn : ByteArray := prog_4_method_17_code
def yXM_turn : MethodName := ⟨RXM, "turn", "()V"⟩
abbrev cXM_say : ByteArray := prog_4_method_18_code
def yXM_say : MethodName := ⟨RXM, "say", "(I)V"⟩
abbrev cXM_sayDecimal : ByteArray := prog_4_method_19_code
def yXM_sayDecimal : MethodName := ⟨RXM, "sayDecimal", "(I)V"⟩
abbrev cXM_sayPart : ByteArray := prog_4_method_20_code
def yXM_sayPart : MethodName := ⟨RXM, "sayPart", "(I)V"⟩
abbrev cXM_part : ByteArray := prog_4_method_21_code
def yXM_part : MethodName := ⟨RXM, "part", "(I)I"⟩
abbrev cXM_noughts : ByteArray := prog_4_method_22_code
def yXM_noughts : MethodName := ⟨RXM, "noughts", "(I)I"⟩
abbrev cXM_write : ByteArray := prog_4_method_23_code
def yXM_write : MethodName := ⟨RXM, "write", "()I"⟩
abbrev cXM_writtenAt : ByteArray := prog_4_method_24_code
def yXM_writtenAt : MethodName := ⟨RXM, "writtenAt", "(I)I"⟩
abbrev cXM_bits : ByteArray := prog_4_method_25_code
def yXM_bits : MethodName := ⟨RXM, "bits", "(I)J"⟩
def wsXM_init : List Cond := .code yXM_init cXM_init 1 none :: ([.methodLink RXM 1 objectInit, .instanceMethod objectInit, .code objectInit ⟨#[0xb1]⟩ 1 none, .arrayClass .int, .fieldLink RXM 7 "AddressTextsModel" "tape" "[I", .fieldLink RXM 13 "AddressTextsModel" "bytes" "[I", .fieldLink RXM 16 "AddressTextsModel" "family" "[I", .fieldLink RXM 19 "AddressTextsModel" "length" "[I", .fieldLink RXM 22 "AddressTextsModel" "parts" "[I", .fieldLink RXM 25 "AddressTextsModel" "out" "[I"] ++ wsXM0)
def wsXM_lay : List Cond := .code yXM_lay cXM_lay 3 none :: ([.fieldLink RXM 7 "AddressTextsModel" "tape" "[I", .fieldLink RXM 28 "AddressTextsModel" "size" "I"] ++ wsXM0)
def wsXM_feed : List Cond := .code yXM_feed cXM_feed 6 (some .boolean) :: ([.fieldLink RXM 28 "AddressTextsModel" "size" "I", .methodLink RXM 32 yXM_lay, .instanceMethod yXM_lay, .selects RXM yXM_lay yXM_lay, .initialized RXM, .code yXM_lay cXM_lay 3 none, .fieldLink RXM 7 "AddressTextsModel" "tape" "[I"] ++ wsXM0)
def wsXM_end : List Cond := .code yXM_end cXM_end 2 (some .boolean) :: ([.fieldLink RXM 28 "AddressTextsModel" "size" "I"] ++ wsXM0)
def wsXM_isDigit : List Cond := .code yXM_isDigit cXM_isDigit 1 (some .boolean) :: ([] ++ wsXM0)
def wsXM_hexadecimal : List Cond := .code yXM_hexadecimal cXM_hexadecimal 1 (some .int) :: ([.methodLink RXM 36 yXM_isDigit, .static yXM_isDigit, .initialized RXM, .code yXM_isDigit cXM_isDigit 1 (some .boolean)] ++ wsXM0)
def wsXM_decimal : List Cond := .code yXM_decimal cXM_decimal 6 (some .int) :: ([.fieldLink RXM 7 "AddressTextsModel" "tape" "[I", .methodLink RXM 36 yXM_isDigit, .static yXM_isDigit, .initialized RXM, .code yXM_isDigit cXM_isDigit 1 (some .boolean)] ++ wsXM0)
def wsXM_isFour : List Cond := .code yXM_isFour cXM_isFour 4 (some .boolean) :: ([.fieldLink RXM 40 "AddressTextsModel" "many" "I", .fieldLink RXM 28 "AddressTextsModel" "size" "I", .fieldLink RXM 7 "AddressTextsModel" "tape" "[I", .methodLink RXM 43 yXM_decimal, .instanceMethod yXM_decimal, .selects RXM yXM_decimal yXM_decimal, .initialized RXM, .fieldLink RXM 22 "AddressTextsModel" "parts" "[I", .code yXM_decimal cXM_decimal 6 (some .int), .methodLink RXM 36 yXM_isDigit, .static yXM_isDigit, .code yXM_isDigit cXM_isDigit 1 (some .boolean)] ++ wsXM0)
def wsXM_isSix : List Cond := .code yXM_isSix cXM_isSix 4 (some .boolean) :: ([.fieldLink RXM 40 "AddressTextsModel" "many" "I", .fieldLink RXM 47 "AddressTextsModel" "gap" "I", .fieldLink RXM 28 "AddressTextsModel" "size" "I", .fieldLink RXM 7 "AddressTextsModel" "tape" "[I", .methodLink RXM 50 yXM_hexadecimal, .static yXM_hexadecimal, .initialized RXM, .fieldLink RXM 22 "AddressTextsModel" "parts" "[I", .code yXM_hexadecimal cXM_hexadecimal 1 (some .int), .methodLink RXM 36 yXM_isDigit, .static yXM_isDigit, .code yXM_isDigit cXM_isDigit 1 (some .boolean)] ++ wsXM0)
def wsXM_read : List Cond := .code yXM_read cXM_read 5 (some .int) :: ([.fieldLink RXM 28 "AddressTextsModel" "size" "I", .fieldLink RXM 7 "AddressTextsModel" "tape" "[I", .methodLink RXM 54 yXM_isSix, .instanceMethod yXM_isSix, .selects RXM yXM_isSix yXM_isSix, .initialized RXM, .methodLink RXM 58 yXM_isFour, .instanceMethod yXM_isFour, .selects RXM yXM_isFour yXM_isFour, .fieldLink RXM 13 "AddressTextsModel" "bytes" "[I", .fieldLink RXM 16 "AddressTextsModel" "family" "[I", .fieldLink RXM 19 "AddressTextsModel" "length" "[I", .fieldLink RXM 40 "AddressTextsModel" "many" "I", .fieldLink RXM 22 "AddressTextsModel" "parts" "[I", .fieldLink RXM 47 "AddressTextsModel" "gap" "I", .code yXM_isSix cXM_isSix 4 (some .boolean), .methodLink RXM 50 yXM_hexadecimal, .static yXM_hexadecimal, .code yXM_hexadecimal cXM_hexadecimal 1 (some .int), .methodLink RXM 36 yXM_isDigit, .static yXM_isDigit, .code yXM_isDigit cXM_isDigit 1 (some .boolean), .code yXM_isFour cXM_isFour 4 (some .boolean), .methodLink RXM 43 yXM_decimal, .instanceMethod yXM_decimal, .selects RXM yXM_decimal yXM_decimal, .code yXM_decimal cXM_decimal 6 (some .int)] ++ wsXM0)
def wsXM_length : List Cond := .code yXM_length cXM_length 2 (some .int) :: ([.fieldLink RXM 28 "AddressTextsModel" "size" "I", .fieldLink RXM 16 "AddressTextsModel" "family" "[I", .methodLink RXM 43 yXM_decimal, .instanceMethod yXM_decimal, .selects RXM yXM_decimal yXM_decimal, .initialized RXM, .fieldLink RXM 19 "AddressTextsModel" "length" "[I", .code yXM_decimal cXM_decimal 6 (some .int), .fieldLink RXM 7 "AddressTextsModel" "tape" "[I", .methodLink RXM 36 yXM_isDigit, .static yXM_isDigit, .code yXM_isDigit cXM_isDigit 1 (some .boolean)] ++ wsXM0)
def wsXM_bit : List Cond := .code yXM_bit cXM_bit 4 (some .int) :: ([.fieldLink RXM 16 "AddressTextsModel" "family" "[I", .fieldLink RXM 13 "AddressTextsModel" "bytes" "[I"] ++ wsXM0)
def wsXM_cut : List Cond := .code yXM_cut cXM_cut 5 (some .boolean) :: ([.fieldLink RXM 16 "AddressTextsModel" "family" "[I", .fieldLink RXM 19 "AddressTextsModel" "length" "[I", .methodLink RXM 61 yXM_bit, .instanceMethod yXM_bit, .selects RXM yXM_bit yXM_bit, .initialized RXM, .fieldLink RXM 13 "AddressTextsModel" "bytes" "[I", .code yXM_bit cXM_bit 4 (some .int)] ++ wsXM0)
def wsXM_covers : List Cond := .code yXM_covers cXM_covers 3 (some .boolean) :: ([.fieldLink RXM 16 "AddressTextsModel" "family" "[I", .fieldLink RXM 19 "AddressTextsModel" "length" "[I", .methodLink RXM 61 yXM_bit, .instanceMethod yXM_bit, .selects RXM yXM_bit yXM_bit, .initialized RXM, .code yXM_bit cXM_bit 4 (some .int), .fieldLink RXM 13 "AddressTextsModel" "bytes" "[I"] ++ wsXM0)
def wsXM_order : List Cond := .code yXM_order cXM_order 2 (some .int) :: ([.fieldLink RXM 16 "AddressTextsModel" "family" "[I", .fieldLink RXM 13 "AddressTextsModel" "bytes" "[I", .fieldLink RXM 19 "AddressTextsModel" "length" "[I"] ++ wsXM0)
def wsXM_turn : List Cond := .code yXM_turn cXM_turn 3 none :: ([.fieldLink RXM 13 "AddressTextsModel" "bytes" "[I", .fieldLink RXM 16 "AddressTextsModel" "family" "[I", .fieldLink RXM 19 "AddressTextsModel" "length" "[I"] ++ wsXM0)
def wsXM_say : List Cond := .code yXM_say cXM_say 2 none :: ([.fieldLink RXM 25 "AddressTextsModel" "out" "[I", .fieldLink RXM 65 "AddressTextsModel" "written" "I"] ++ wsXM0)
def wsXM_sayDecimal : List Cond := .code yXM_sayDecimal cXM_sayDecimal 2 none :: ([.methodLink RXM 68 yXM_say, .instanceMethod yXM_say, .selects RXM yXM_say yXM_say, .initialized RXM, .code yXM_say cXM_say 2 none, .fieldLink RXM 25 "AddressTextsModel" "out" "[I", .fieldLink RXM 65 "AddressTextsModel" "written" "I"] ++ wsXM0)
def wsXM_sayPart : List Cond := .code yXM_sayPart cXM_sayPart 3 none :: ([.methodLink RXM 68 yXM_say, .instanceMethod yXM_say, .selects RXM yXM_say yXM_say, .initialized RXM, .code yXM_say cXM_say 2 none, .fieldLink RXM 25 "AddressTextsModel" "out" "[I", .fieldLink RXM 65 "AddressTextsModel" "written" "I"] ++ wsXM0)
def wsXM_part : List Cond := .code yXM_part cXM_part 2 (some .int) :: ([.fieldLink RXM 13 "AddressTextsModel" "bytes" "[I"] ++ wsXM0)
def wsXM_noughts : List Cond := .code yXM_noughts cXM_noughts 3 (some .int) :: ([.methodLink RXM 71 yXM_part, .instanceMethod yXM_part, .selects RXM yXM_part yXM_part, .initialized RXM, .code yXM_part cXM_part 2 (some .int), .fieldLink RXM 13 "AddressTextsModel" "bytes" "[I"] ++ wsXM0)
def wsXM_write : List Cond := .code yXM_write cXM_write 4 (some .int) :: ([.fieldLink RXM 65 "AddressTextsModel" "written" "I", .fieldLink RXM 16 "AddressTextsModel" "family" "[I", .methodLink RXM 68 yXM_say, .instanceMethod yXM_say, .selects RXM yXM_say yXM_say, .initialized RXM, .fieldLink RXM 13 "AddressTextsModel" "bytes" "[I", .methodLink RXM 74 yXM_sayDecimal, .instanceMethod yXM_sayDecimal, .selects RXM yXM_sayDecimal yXM_sayDecimal, .methodLink RXM 77 yXM_noughts, .instanceMethod yXM_noughts, .selects RXM yXM_noughts yXM_noughts, .methodLink RXM 71 yXM_part, .instanceMethod yXM_part, .selects RXM yXM_part yXM_part, .methodLink RXM 80 yXM_sayPart, .instanceMethod yXM_sayPart, .selects RXM yXM_sayPart yXM_sayPart, .code yXM_say cXM_say 2 none, .fieldLink RXM 25 "AddressTextsModel" "out" "[I", .code yXM_sayDecimal cXM_sayDecimal 2 none, .code yXM_noughts cXM_noughts 3 (some .int), .code yXM_part cXM_part 2 (some .int), .code yXM_sayPart cXM_sayPart 3 none] ++ wsXM0)
def wsXM_writtenAt : List Cond := .code yXM_writtenAt cXM_writtenAt 2 (some .int) :: ([.fieldLink RXM 65 "AddressTextsModel" "written" "I", .fieldLink RXM 25 "AddressTextsModel" "out" "[I"] ++ wsXM0)
def wsXM_bits : List Cond := .code yXM_bits cXM_bits 5 (some .long) :: ([.fieldLink RXM 13 "AddressTextsModel" "bytes" "[I"] ++ wsXM0)
theorem dXM_init_0 : decode cXM_init 0 = .ok (.aload_n 0, 1) := by decide +kernel
theorem dXM_init_1 : decode cXM_init 1 = .ok (.invokespecial 1, 3) := by decide +kernel
theorem dXM_init_4 : decode cXM_init 4 = .ok (.aload_n 0, 1) := by decide +kernel
theorem dXM_init_5 : decode cXM_init 5 = .ok (.bipush 60, 2) := by decide +kernel
theorem dXM_init_7 : decode cXM_init 7 = .ok (.newarray .int, 2) := by decide +kernel
theorem dXM_init_9 : decode cXM_init 9 = .ok (.putfield 7, 3) := by decide +kernel
theorem dXM_init_12 : decode cXM_init 12 = .ok (.aload_n 0, 1) := by decide +kernel
theorem dXM_init_13 : decode cXM_init 13 = .ok (.bipush 32, 2) := by decide +kernel
theorem dXM_init_15 : decode cXM_init 15 = .ok (.newarray .int, 2) := by decide +kernel
theorem dXM_init_17 : decode cXM_init 17 = .ok (.putfield 13, 3) := by decide +kernel
theorem dXM_init_20 : decode cXM_init 20 = .ok (.aload_n 0, 1) := by decide +kernel
theorem dXM_init_21 : decode cXM_init 21 = .ok (.iconst 2, 1) := by decide +kernel
theorem dXM_init_22 : decode cXM_init 22 = .ok (.newarray .int, 2) := by decide +kernel
theorem dXM_init_24 : decode cXM_init 24 = .ok (.dup, 1) := by decide +kernel
theorem dXM_init_25 : decode cXM_init 25 = .ok (.iconst 0, 1) := by decide +kernel
theorem dXM_init_26 : decode cXM_init 26 = .ok (.iconst 4, 1) := by decide +kernel
theorem dXM_init_27 : decode cXM_init 27 = .ok (.iastore, 1) := by decide +kernel
theorem dXM_init_28 : decode cXM_init 28 = .ok (.dup, 1) := by decide +kernel
theorem dXM_init_29 : decode cXM_init 29 = .ok (.iconst 1, 1) := by decide +kernel
theorem dXM_init_30 : decode cXM_init 30 = .ok (.iconst 4, 1) := by decide +kernel
theorem dXM_init_31 : decode cXM_init 31 = .ok (.iastore, 1) := by decide +kernel
theorem dXM_init_32 : decode cXM_init 32 = .ok (.putfield 16, 3) := by decide +kernel
theorem dXM_init_35 : decode cXM_init 35 = .ok (.aload_n 0, 1) := by decide +kernel
theorem dXM_init_36 : decode cXM_init 36 = .ok (.iconst 2, 1) := by decide +kernel
theorem dXM_init_37 : decode cXM_init 37 = .ok (.newarray .int, 2) := by decide +kernel
theorem dXM_init_39 : decode cXM_init 39 = .ok (.dup, 1) := by decide +kernel
theorem dXM_init_40 : decode cXM_init 40 = .ok (.iconst 0, 1) := by decide +kernel
theorem dXM_init_41 : decode cXM_init 41 = .ok (.bipush 32, 2) := by decide +kernel
theorem dXM_init_43 : decode cXM_init 43 = .ok (.iastore, 1) := by decide +kernel
theorem dXM_init_44 : decode cXM_init 44 = .ok (.dup, 1) := by decide +kernel
theorem dXM_init_45 : decode cXM_init 45 = .ok (.iconst 1, 1) := by decide +kernel
theorem dXM_init_46 : decode cXM_init 46 = .ok (.bipush 32, 2) := by decide +kernel
theorem dXM_init_48 : decode cXM_init 48 = .ok (.iastore, 1) := by decide +kernel
theorem dXM_init_49 : decode cXM_init 49 = .ok (.putfield 19, 3) := by decide +kernel
theorem dXM_init_52 : decode cXM_init 52 = .ok (.aload_n 0, 1) := by decide +kernel
theorem dXM_init_53 : decode cXM_init 53 = .ok (.bipush 8, 2) := by decide +kernel
theorem dXM_init_55 : decode cXM_init 55 = .ok (.newarray .int, 2) := by decide +kernel
theorem dXM_init_57 : decode cXM_init 57 = .ok (.putfield 22, 3) := by decide +kernel
theorem dXM_init_60 : decode cXM_init 60 = .ok (.aload_n 0, 1) := by decide +kernel
theorem dXM_init_61 : decode cXM_init 61 = .ok (.bipush 64, 2) := by decide +kernel
theorem dXM_init_63 : decode cXM_init 63 = .ok (.newarray .int, 2) := by decide +kernel
theorem dXM_init_65 : decode cXM_init 65 = .ok (.putfield 25, 3) := by decide +kernel
theorem dXM_init_68 : decode cXM_init 68 = .ok (.return_, 1) := by decide +kernel
theorem dXM_lay_0 : decode cXM_lay 0 = .ok (.bipush 24, 2) := by decide +kernel
theorem dXM_lay_2 : decode cXM_lay 2 = .ok (.istore_n 2, 1) := by decide +kernel
theorem dXM_lay_3 : decode cXM_lay 3 = .ok (.iload_n 2, 1) := by decide +kernel
theorem dXM_lay_4 : decode cXM_lay 4 = .ok (.ifCond .lt 35, 3) := by decide +kernel
theorem dXM_lay_7 : decode cXM_lay 7 = .ok (.aload_n 0, 1) := by decide +kernel
theorem dXM_lay_8 : decode cXM_lay 8 = .ok (.getfield 7, 3) := by decide +kernel
theorem dXM_lay_11 : decode cXM_lay 11 = .ok (.aload_n 0, 1) := by decide +kernel
theorem dXM_lay_12 : decode cXM_lay 12 = .ok (.getfield 28, 3) := by decide +kernel
theorem dXM_lay_15 : decode cXM_lay 15 = .ok (.iload_n 1, 1) := by decide +kernel
theorem dXM_lay_16 : decode cXM_lay 16 = .ok (.iload_n 2, 1) := by decide +kernel
theorem dXM_lay_17 : decode cXM_lay 17 = .ok (.ishr, 1) := by decide +kernel
theorem dXM_lay_18 : decode cXM_lay 18 = .ok (.sipush 255, 3) := by decide +kernel
theorem dXM_lay_21 : decode cXM_lay 21 = .ok (.iand, 1) := by decide +kernel
theorem dXM_lay_22 : decode cXM_lay 22 = .ok (.iastore, 1) := by decide +kernel
theorem dXM_lay_23 : decode cXM_lay 23 = .ok (.aload_n 0, 1) := by decide +kernel
theorem dXM_lay_24 : decode cXM_lay 24 = .ok (.dup, 1) := by decide +kernel
theorem dXM_lay_25 : decode cXM_lay 25 = .ok (.getfield 28, 3) := by decide +kernel
theorem dXM_lay_28 : decode cXM_lay 28 = .ok (.iconst 1, 1) := by decide +kernel
theorem dXM_lay_29 : decode cXM_lay 29 = .ok (.iadd, 1) := by decide +kernel
theorem dXM_lay_30 : decode cXM_lay 30 = .ok (.putfield 28, 3) := by decide +kernel
theorem dXM_lay_33 : decode cXM_lay 33 = .ok (.iinc 2 (-8), 3) := by decide +kernel
theorem dXM_lay_36 : decode cXM_lay 36 = .ok (.goto (-33), 3) := by decide +kernel
theorem dXM_lay_39 : decode cXM_lay 39 = .ok (.return_, 1) := by decide +kernel
theorem dXM_feed_0 : decode cXM_feed 0 = .ok (.aload_n 0, 1) := by decide +kernel
theorem dXM_feed_1 : decode cXM_feed 1 = .ok (.getfield 28, 3) := by decide +kernel
theorem dXM_feed_4 : decode cXM_feed 4 = .ok (.bipush 20, 2) := by decide +kernel
theorem dXM_feed_6 : decode cXM_feed 6 = .ok (.iadd, 1) := by decide +kernel
theorem dXM_feed_7 : decode cXM_feed 7 = .ok (.bipush 60, 2) := by decide +kernel
theorem dXM_feed_9 : decode cXM_feed 9 = .ok (.if_icmp .le 5, 3) := by decide +kernel
theorem dXM_feed_12 : decode cXM_feed 12 = .ok (.iconst 0, 1) := by decide +kernel
theorem dXM_feed_13 : decode cXM_feed 13 = .ok (.ireturn, 1) := by decide +kernel
theorem dXM_feed_14 : decode cXM_feed 14 = .ok (.aload_n 0, 1) := by decide +kernel
theorem dXM_feed_15 : decode cXM_feed 15 = .ok (.iload_n 1, 1) := by decide +kernel
theorem dXM_feed_16 : decode cXM_feed 16 = .ok (.invokevirtual 32, 3) := by decide +kernel
theorem dXM_feed_19 : decode cXM_feed 19 = .ok (.aload_n 0, 1) := by decide +kernel
theorem dXM_feed_20 : decode cXM_feed 20 = .ok (.iload_n 2, 1) := by decide +kernel
theorem dXM_feed_21 : decode cXM_feed 21 = .ok (.invokevirtual 32, 3) := by decide +kernel
theorem dXM_feed_24 : decode cXM_feed 24 = .ok (.aload_n 0, 1) := by decide +kernel
theorem dXM_feed_25 : decode cXM_feed 25 = .ok (.iload_n 3, 1) := by decide +kernel
theorem dXM_feed_26 : decode cXM_feed 26 = .ok (.invokevirtual 32, 3) := by decide +kernel
theorem dXM_feed_29 : decode cXM_feed 29 = .ok (.aload_n 0, 1) := by decide +kernel
theorem dXM_feed_30 : decode cXM_feed 30 = .ok (.iload 4, 2) := by decide +kernel
theorem dXM_feed_32 : decode cXM_feed 32 = .ok (.invokevirtual 32, 3) := by decide +kernel
theorem dXM_feed_35 : decode cXM_feed 35 = .ok (.aload_n 0, 1) := by decide +kernel
theorem dXM_feed_36 : decode cXM_feed 36 = .ok (.iload 5, 2) := by decide +kernel
theorem dXM_feed_38 : decode cXM_feed 38 = .ok (.invokevirtual 32, 3) := by decide +kernel
theorem dXM_feed_41 : decode cXM_feed 41 = .ok (.iconst 1, 1) := by decide +kernel
theorem dXM_feed_42 : decode cXM_feed 42 = .ok (.ireturn, 1) := by decide +kernel
theorem dXM_end_0 : decode cXM_end 0 = .ok (.iload_n 1, 1) := by decide +kernel
theorem dXM_end_1 : decode cXM_end 1 = .ok (.ifCond .lt 11, 3) := by decide +kernel
theorem dXM_end_4 : decode cXM_end 4 = .ok (.iload_n 1, 1) := by decide +kernel
theorem dXM_end_5 : decode cXM_end 5 = .ok (.aload_n 0, 1) := by decide +kernel
theorem dXM_end_6 : decode cXM_end 6 = .ok (.getfield 28, 3) := by decide +kernel
theorem dXM_end_9 : decode cXM_end 9 = .ok (.if_icmp .le 5, 3) := by decide +kernel
theorem dXM_end_12 : decode cXM_end 12 = .ok (.iconst 0, 1) := by decide +kernel
theorem dXM_end_13 : decode cXM_end 13 = .ok (.ireturn, 1) := by decide +kernel
theorem dXM_end_14 : decode cXM_end 14 = .ok (.aload_n 0, 1) := by decide +kernel
theorem dXM_end_15 : decode cXM_end 15 = .ok (.iload_n 1, 1) := by decide +kernel
theorem dXM_end_16 : decode cXM_end 16 = .ok (.putfield 28, 3) := by decide +kernel
theorem dXM_end_19 : decode cXM_end 19 = .ok (.iconst 1, 1) := by decide +kernel
theorem dXM_end_20 : decode cXM_end 20 = .ok (.ireturn, 1) := by decide +kernel
theorem dXM_isDigit_0 : decode cXM_isDigit 0 = .ok (.iload_n 0, 1) := by decide +kernel
theorem dXM_isDigit_1 : decode cXM_isDigit 1 = .ok (.bipush 48, 2) := by decide +kernel
theorem dXM_isDigit_3 : decode cXM_isDigit 3 = .ok (.if_icmp .lt 13, 3) := by decide +kernel
theorem dXM_isDigit_6 : decode cXM_isDigit 6 = .ok (.iload_n 0, 1) := by decide +kernel
theorem dXM_isDigit_7 : decode cXM_isDigit 7 = .ok (.bipush 57, 2) := by decide +kernel
theorem dXM_isDigit_9 : decode cXM_isDigit 9 = .ok (.if_icmp .gt 7, 3) := by decide +kernel
theorem dXM_isDigit_12 : decode cXM_isDigit 12 = .ok (.iconst 1, 1) := by decide +kernel
theorem dXM_isDigit_13 : decode cXM_isDigit 13 = .ok (.goto 4, 3) := by decide +kernel
theorem dXM_isDigit_16 : decode cXM_isDigit 16 = .ok (.iconst 0, 1) := by decide +kernel
theorem dXM_isDigit_17 : decode cXM_isDigit 17 = .ok (.ireturn, 1) := by decide +kernel
theorem dXM_hexadecimal_0 : decode cXM_hexadecimal 0 = .ok (.iload_n 0, 1) := by decide +kernel
theorem dXM_hexadecimal_1 : decode cXM_hexadecimal 1 = .ok (.invokestatic 36, 3) := by decide +kernel
theorem dXM_hexadecimal_4 : decode cXM_hexadecimal 4 = .ok (.ifCond .eq 10, 3) := by decide +kernel
theorem dXM_hexadecimal_7 : decode cXM_hexadecimal 7 = .ok (.iload_n 0, 1) := by decide +kernel
theorem dXM_hexadecimal_8 : decode cXM_hexadecimal 8 = .ok (.bipush 48, 2) := by decide +kernel
theorem dXM_hexadecimal_10 : decode cXM_hexadecimal 10 = .ok (.isub, 1) := by decide +kernel
theorem dXM_hexadecimal_11 : decode cXM_hexadecimal 11 = .ok (.goto 48, 3) := by decide +kernel
theorem dXM_hexadecimal_14 : decode cXM_hexadecimal 14 = .ok (.iload_n 0, 1) := by decide +kernel
theorem dXM_hexadecimal_15 : decode cXM_hexadecimal 15 = .ok (.bipush 97, 2) := by decide +kernel
theorem dXM_hexadecimal_17 : decode cXM_hexadecimal 17 = .ok (.if_icmp .lt 19, 3) := by decide +kernel
theorem dXM_hexadecimal_20 : decode cXM_hexadecimal 20 = .ok (.iload_n 0, 1) := by decide +kernel
theorem dXM_hexadecimal_21 : decode cXM_hexadecimal 21 = .ok (.bipush 102, 2) := by decide +kernel
theorem dXM_hexadecimal_23 : decode cXM_hexadecimal 23 = .ok (.if_icmp .gt 13, 3) := by decide +kernel
theorem dXM_hexadecimal_26 : decode cXM_hexadecimal 26 = .ok (.iload_n 0, 1) := by decide +kernel
theorem dXM_hexadecimal_27 : decode cXM_hexadecimal 27 = .ok (.bipush 97, 2) := by decide +kernel
theorem dXM_hexadecimal_29 : decode cXM_hexadecimal 29 = .ok (.isub, 1) := by decide +kernel
theorem dXM_hexadecimal_30 : decode cXM_hexadecimal 30 = .ok (.bipush 10, 2) := by decide +kernel
theorem dXM_hexadecimal_32 : decode cXM_hexadecimal 32 = .ok (.iadd, 1) := by decide +kernel
theorem dXM_hexadecimal_33 : decode cXM_hexadecimal 33 = .ok (.goto 26, 3) := by decide +kernel
theorem dXM_hexadecimal_36 : decode cXM_hexadecimal 36 = .ok (.iload_n 0, 1) := by decide +kernel
theorem dXM_hexadecimal_37 : decode cXM_hexadecimal 37 = .ok (.bipush 65, 2) := by decide +kernel
theorem dXM_hexadecimal_39 : decode cXM_hexadecimal 39 = .ok (.if_icmp .lt 19, 3) := by decide +kernel
theorem dXM_hexadecimal_42 : decode cXM_hexadecimal 42 = .ok (.iload_n 0, 1) := by decide +kernel
theorem dXM_hexadecimal_43 : decode cXM_hexadecimal 43 = .ok (.bipush 70, 2) := by decide +kernel
theorem dXM_hexadecimal_45 : decode cXM_hexadecimal 45 = .ok (.if_icmp .gt 13, 3) := by decide +kernel
theorem dXM_hexadecimal_48 : decode cXM_hexadecimal 48 = .ok (.iload_n 0, 1) := by decide +kernel
theorem dXM_hexadecimal_49 : decode cXM_hexadecimal 49 = .ok (.bipush 65, 2) := by decide +kernel
theorem dXM_hexadecimal_51 : decode cXM_hexadecimal 51 = .ok (.isub, 1) := by decide +kernel
theorem dXM_hexadecimal_52 : decode cXM_hexadecimal 52 = .ok (.bipush 10, 2) := by decide +kernel
theorem dXM_hexadecimal_54 : decode cXM_hexadecimal 54 = .ok (.iadd, 1) := by decide +kernel
theorem dXM_hexadecimal_55 : decode cXM_hexadecimal 55 = .ok (.goto 4, 3) := by decide +kernel
theorem dXM_hexadecimal_58 : decode cXM_hexadecimal 58 = .ok (.iconst (-1), 1) := by decide +kernel
theorem dXM_hexadecimal_59 : decode cXM_hexadecimal 59 = .ok (.ireturn, 1) := by decide +kernel
theorem dXM_decimal_0 : decode cXM_decimal 0 = .ok (.iload_n 1, 1) := by decide +kernel
theorem dXM_decimal_1 : decode cXM_decimal 1 = .ok (.iload_n 2, 1) := by decide +kernel
theorem dXM_decimal_2 : decode cXM_decimal 2 = .ok (.if_icmp .eq 28, 3) := by decide +kernel
theorem dXM_decimal_5 : decode cXM_decimal 5 = .ok (.iload_n 2, 1) := by decide +kernel
theorem dXM_decimal_6 : decode cXM_decimal 6 = .ok (.iload_n 1, 1) := by decide +kernel
theorem dXM_decimal_7 : decode cXM_decimal 7 = .ok (.isub, 1) := by decide +kernel
theorem dXM_decimal_8 : decode cXM_decimal 8 = .ok (.iconst 3, 1) := by decide +kernel
theorem dXM_decimal_9 : decode cXM_decimal 9 = .ok (.if_icmp .gt 21, 3) := by decide +kernel
theorem dXM_decimal_12 : decode cXM_decimal 12 = .ok (.iload_n 2, 1) := by decide +kernel
theorem dXM_decimal_13 : decode cXM_decimal 13 = .ok (.iload_n 1, 1) := by decide +kernel
theorem dXM_decimal_14 : decode cXM_decimal 14 = .ok (.isub, 1) := by decide +kernel
theorem dXM_decimal_15 : decode cXM_decimal 15 = .ok (.iconst 1, 1) := by decide +kernel
theorem dXM_decimal_16 : decode cXM_decimal 16 = .ok (.if_icmp .le 16, 3) := by decide +kernel
theorem dXM_decimal_19 : decode cXM_decimal 19 = .ok (.aload_n 0, 1) := by decide +kernel
theorem dXM_decimal_20 : decode cXM_decimal 20 = .ok (.getfield 7, 3) := by decide +kernel
theorem dXM_decimal_23 : decode cXM_decimal 23 = .ok (.iload_n 1, 1) := by decide +kernel
theorem dXM_decimal_24 : decode cXM_decimal 24 = .ok (.iaload, 1) := by decide +kernel
theorem dXM_decimal_25 : decode cXM_decimal 25 = .ok (.bipush 48, 2) := by decide +kernel
theorem dXM_decimal_27 : decode cXM_decimal 27 = .ok (.if_icmp .ne 5, 3) := by decide +kernel
theorem dXM_decimal_30 : decode cXM_decimal 30 = .ok (.iconst (-1), 1) := by decide +kernel
theorem dXM_decimal_31 : decode cXM_decimal 31 = .ok (.ireturn, 1) := by decide +kernel
theorem dXM_decimal_32 : decode cXM_decimal 32 = .ok (.iconst 0, 1) := by decide +kernel
theorem dXM_decimal_33 : decode cXM_decimal 33 = .ok (.istore 4, 2) := by decide +kernel
theorem dXM_decimal_35 : decode cXM_decimal 35 = .ok (.iload_n 1, 1) := by decide +kernel
theorem dXM_decimal_36 : decode cXM_decimal 36 = .ok (.istore 5, 2) := by decide +kernel
theorem dXM_decimal_38 : decode cXM_decimal 38 = .ok (.iload 5, 2) := by decide +kernel
theorem dXM_decimal_40 : decode cXM_decimal 40 = .ok (.iload_n 2, 1) := by decide +kernel
theorem dXM_decimal_41 : decode cXM_decimal 41 = .ok (.if_icmp .ge 42, 3) := by decide +kernel
theorem dXM_decimal_44 : decode cXM_decimal 44 = .ok (.aload_n 0, 1) := by decide +kernel
theorem dXM_decimal_45 : decode cXM_decimal 45 = .ok (.getfield 7, 3) := by decide +kernel
theorem dXM_decimal_48 : decode cXM_decimal 48 = .ok (.iload 5, 2) := by decide +kernel
theorem dXM_decimal_50 : decode cXM_decimal 50 = .ok (.iaload, 1) := by decide +kernel
theorem dXM_decimal_51 : decode cXM_decimal 51 = .ok (.invokestatic 36, 3) := by decide +kernel
theorem dXM_decimal_54 : decode cXM_decimal 54 = .ok (.ifCond .ne 5, 3) := by decide +kernel
theorem dXM_decimal_57 : decode cXM_decimal 57 = .ok (.iconst (-1), 1) := by decide +kernel
theorem dXM_decimal_58 : decode cXM_decimal 58 = .ok (.ireturn, 1) := by decide +kernel
theorem dXM_decimal_59 : decode cXM_decimal 59 = .ok (.bipush 10, 2) := by decide +kernel
theorem dXM_decimal_61 : decode cXM_decimal 61 = .ok (.iload 4, 2) := by decide +kernel
theorem dXM_decimal_63 : decode cXM_decimal 63 = .ok (.imul, 1) := by decide +kernel
theorem dXM_decimal_64 : decode cXM_decimal 64 = .ok (.aload_n 0, 1) := by decide +kernel
theorem dXM_decimal_65 : decode cXM_decimal 65 = .ok (.getfield 7, 3) := by decide +kernel
theorem dXM_decimal_68 : decode cXM_decimal 68 = .ok (.iload 5, 2) := by decide +kernel
theorem dXM_decimal_70 : decode cXM_decimal 70 = .ok (.iaload, 1) := by decide +kernel
theorem dXM_decimal_71 : decode cXM_decimal 71 = .ok (.iadd, 1) := by decide +kernel
theorem dXM_decimal_72 : decode cXM_decimal 72 = .ok (.bipush 48, 2) := by decide +kernel
theorem dXM_decimal_74 : decode cXM_decimal 74 = .ok (.isub, 1) := by decide +kernel
theorem dXM_decimal_75 : decode cXM_decimal 75 = .ok (.istore 4, 2) := by decide +kernel
theorem dXM_decimal_77 : decode cXM_decimal 77 = .ok (.iinc 5 1, 3) := by decide +kernel
theorem dXM_decimal_80 : decode cXM_decimal 80 = .ok (.goto (-42), 3) := by decide +kernel
theorem dXM_decimal_83 : decode cXM_decimal 83 = .ok (.iload 4, 2) := by decide +kernel
theorem dXM_decimal_85 : decode cXM_decimal 85 = .ok (.iload_n 3, 1) := by decide +kernel
theorem dXM_decimal_86 : decode cXM_decimal 86 = .ok (.if_icmp .le 7, 3) := by decide +kernel
theorem dXM_decimal_89 : decode cXM_decimal 89 = .ok (.iconst (-1), 1) := by decide +kernel
theorem dXM_decimal_90 : decode cXM_decimal 90 = .ok (.goto 5, 3) := by decide +kernel
theorem dXM_decimal_93 : decode cXM_decimal 93 = .ok (.iload 4, 2) := by decide +kernel
theorem dXM_decimal_95 : decode cXM_decimal 95 = .ok (.ireturn, 1) := by decide +kernel
theorem dXM_isFour_0 : decode cXM_isFour 0 = .ok (.aload_n 0, 1) := by decide +kernel
theorem dXM_isFour_1 : decode cXM_isFour 1 = .ok (.iconst 0, 1) := by decide +kernel
theorem dXM_isFour_2 : decode cXM_isFour 2 = .ok (.putfield 40, 3) := by decide +kernel
theorem dXM_isFour_5 : decode cXM_isFour 5 = .ok (.iconst 0, 1) := by decide +kernel
theorem dXM_isFour_6 : decode cXM_isFour 6 = .ok (.istore_n 1, 1) := by decide +kernel
theorem dXM_isFour_7 : decode cXM_isFour 7 = .ok (.iconst 0, 1) := by decide +kernel
theorem dXM_isFour_8 : decode cXM_isFour 8 = .ok (.istore_n 2, 1) := by decide +kernel
theorem dXM_isFour_9 : decode cXM_isFour 9 = .ok (.iload_n 2, 1) := by decide +kernel
theorem dXM_isFour_10 : decode cXM_isFour 10 = .ok (.aload_n 0, 1) := by decide +kernel
theorem dXM_isFour_11 : decode cXM_isFour 11 = .ok (.getfield 28, 3) := by decide +kernel
theorem dXM_isFour_14 : decode cXM_isFour 14 = .ok (.if_icmp .gt 83, 3) := by decide +kernel
theorem dXM_isFour_17 : decode cXM_isFour 17 = .ok (.iload_n 2, 1) := by decide +kernel
theorem dXM_isFour_18 : decode cXM_isFour 18 = .ok (.aload_n 0, 1) := by decide +kernel
theorem dXM_isFour_19 : decode cXM_isFour 19 = .ok (.getfield 28, 3) := by decide +kernel
theorem dXM_isFour_22 : decode cXM_isFour 22 = .ok (.if_icmp .ge 17, 3) := by decide +kernel
theorem dXM_isFour_25 : decode cXM_isFour 25 = .ok (.aload_n 0, 1) := by decide +kernel
theorem dXM_isFour_26 : decode cXM_isFour 26 = .ok (.getfield 7, 3) := by decide +kernel
theorem dXM_isFour_29 : decode cXM_isFour 29 = .ok (.iload_n 2, 1) := by decide +kernel
theorem dXM_isFour_30 : decode cXM_isFour 30 = .ok (.iaload, 1) := by decide +kernel
theorem dXM_isFour_31 : decode cXM_isFour 31 = .ok (.bipush 46, 2) := by decide +kernel
theorem dXM_isFour_33 : decode cXM_isFour 33 = .ok (.if_icmp .eq 6, 3) := by decide +kernel
theorem dXM_isFour_36 : decode cXM_isFour 36 = .ok (.goto 55, 3) := by decide +kernel
theorem dXM_isFour_39 : decode cXM_isFour 39 = .ok (.aload_n 0, 1) := by decide +kernel
theorem dXM_isFour_40 : decode cXM_isFour 40 = .ok (.getfield 40, 3) := by decide +kernel
theorem dXM_isFour_43 : decode cXM_isFour 43 = .ok (.iconst 4, 1) := by decide +kernel
theorem dXM_isFour_44 : decode cXM_isFour 44 = .ok (.if_icmp .ge 15, 3) := by decide +kernel
theorem dXM_isFour_47 : decode cXM_isFour 47 = .ok (.aload_n 0, 1) := by decide +kernel
theorem dXM_isFour_48 : decode cXM_isFour 48 = .ok (.iload_n 1, 1) := by decide +kernel
theorem dXM_isFour_49 : decode cXM_isFour 49 = .ok (.iload_n 2, 1) := by decide +kernel
theorem dXM_isFour_50 : decode cXM_isFour 50 = .ok (.sipush 255, 3) := by decide +kernel
theorem dXM_isFour_53 : decode cXM_isFour 53 = .ok (.invokevirtual 43, 3) := by decide +kernel
theorem dXM_isFour_56 : decode cXM_isFour 56 = .ok (.goto 4, 3) := by decide +kernel
theorem dXM_isFour_59 : decode cXM_isFour 59 = .ok (.iconst (-1), 1) := by decide +kernel
theorem dXM_isFour_60 : decode cXM_isFour 60 = .ok (.istore_n 3, 1) := by decide +kernel
theorem dXM_isFour_61 : decode cXM_isFour 61 = .ok (.iload_n 3, 1) := by decide +kernel
theorem dXM_isFour_62 : decode cXM_isFour 62 = .ok (.ifCond .ge 5, 3) := by decide +kernel
theorem dXM_isFour_65 : decode cXM_isFour 65 = .ok (.iconst 0, 1) := by decide +kernel
theorem dXM_isFour_66 : decode cXM_isFour 66 = .ok (.ireturn, 1) := by decide +kernel
theorem dXM_isFour_67 : decode cXM_isFour 67 = .ok (.aload_n 0, 1) := by decide +kernel
theorem dXM_isFour_68 : decode cXM_isFour 68 = .ok (.getfield 22, 3) := by decide +kernel
theorem dXM_isFour_71 : decode cXM_isFour 71 = .ok (.aload_n 0, 1) := by decide +kernel
theorem dXM_isFour_72 : decode cXM_isFour 72 = .ok (.getfield 40, 3) := by decide +kernel
theorem dXM_isFour_75 : decode cXM_isFour 75 = .ok (.iload_n 3, 1) := by decide +kernel
theorem dXM_isFour_76 : decode cXM_isFour 76 = .ok (.iastore, 1) := by decide +kernel
theorem dXM_isFour_77 : decode cXM_isFour 77 = .ok (.aload_n 0, 1) := by decide +kernel
theorem dXM_isFour_78 : decode cXM_isFour 78 = .ok (.dup, 1) := by decide +kernel
theorem dXM_isFour_79 : decode cXM_isFour 79 = .ok (.getfield 40, 3) := by decide +kernel
theorem dXM_isFour_82 : decode cXM_isFour 82 = .ok (.iconst 1, 1) := by decide +kernel
theorem dXM_isFour_83 : decode cXM_isFour 83 = .ok (.iadd, 1) := by decide +kernel
theorem dXM_isFour_84 : decode cXM_isFour 84 = .ok (.putfield 40, 3) := by decide +kernel
theorem dXM_isFour_87 : decode cXM_isFour 87 = .ok (.iload_n 2, 1) := by decide +kernel
theorem dXM_isFour_88 : decode cXM_isFour 88 = .ok (.iconst 1, 1) := by decide +kernel
theorem dXM_isFour_89 : decode cXM_isFour 89 = .ok (.iadd, 1) := by decide +kernel
theorem dXM_isFour_90 : decode cXM_isFour 90 = .ok (.istore_n 1, 1) := by decide +kernel
theorem dXM_isFour_91 : decode cXM_isFour 91 = .ok (.iinc 2 1, 3) := by decide +kernel
theorem dXM_isFour_94 : decode cXM_isFour 94 = .ok (.goto (-85), 3) := by decide +kernel
theorem dXM_isFour_97 : decode cXM_isFour 97 = .ok (.aload_n 0, 1) := by decide +kernel
theorem dXM_isFour_98 : decode cXM_isFour 98 = .ok (.getfield 40, 3) := by decide +kernel
theorem dXM_isFour_101 : decode cXM_isFour 101 = .ok (.iconst 4, 1) := by decide +kernel
theorem dXM_isFour_102 : decode cXM_isFour 102 = .ok (.if_icmp .ne 7, 3) := by decide +kernel
theorem dXM_isFour_105 : decode cXM_isFour 105 = .ok (.iconst 1, 1) := by decide +kernel
theorem dXM_isFour_106 : decode cXM_isFour 106 = .ok (.goto 4, 3) := by decide +kernel
theorem dXM_isFour_109 : decode cXM_isFour 109 = .ok (.iconst 0, 1) := by decide +kernel
theorem dXM_isFour_110 : decode cXM_isFour 110 = .ok (.ireturn, 1) := by decide +kernel
theorem dXM_isSix_0 : decode cXM_isSix 0 = .ok (.aload_n 0, 1) := by decide +kernel
theorem dXM_isSix_1 : decode cXM_isSix 1 = .ok (.iconst 0, 1) := by decide +kernel
theorem dXM_isSix_2 : decode cXM_isSix 2 = .ok (.putfield 40, 3) := by decide +kernel
theorem dXM_isSix_5 : decode cXM_isSix 5 = .ok (.aload_n 0, 1) := by decide +kernel
theorem dXM_isSix_6 : decode cXM_isSix 6 = .ok (.iconst (-1), 1) := by decide +kernel
theorem dXM_isSix_7 : decode cXM_isSix 7 = .ok (.putfield 47, 3) := by decide +kernel
theorem dXM_isSix_10 : decode cXM_isSix 10 = .ok (.iconst 0, 1) := by decide +kernel
theorem dXM_isSix_11 : decode cXM_isSix 11 = .ok (.istore_n 1, 1) := by decide +kernel
theorem dXM_isSix_12 : decode cXM_isSix 12 = .ok (.aload_n 0, 1) := by decide +kernel
theorem dXM_isSix_13 : decode cXM_isSix 13 = .ok (.getfield 28, 3) := by decide +kernel
theorem dXM_isSix_16 : decode cXM_isSix 16 = .ok (.iconst 1, 1) := by decide +kernel
theorem dXM_isSix_17 : decode cXM_isSix 17 = .ok (.if_icmp .le 32, 3) := by decide +kernel
theorem dXM_isSix_20 : decode cXM_isSix 20 = .ok (.aload_n 0, 1) := by decide +kernel
theorem dXM_isSix_21 : decode cXM_isSix 21 = .ok (.getfield 7, 3) := by decide +kernel
theorem dXM_isSix_24 : decode cXM_isSix 24 = .ok (.iconst 0, 1) := by decide +kernel
theorem dXM_isSix_25 : decode cXM_isSix 25 = .ok (.iaload, 1) := by decide +kernel
theorem dXM_isSix_26 : decode cXM_isSix 26 = .ok (.bipush 58, 2) := by decide +kernel
theorem dXM_isSix_28 : decode cXM_isSix 28 = .ok (.if_icmp .ne 21, 3) := by decide +kernel
theorem dXM_isSix_31 : decode cXM_isSix 31 = .ok (.aload_n 0, 1) := by decide +kernel
theorem dXM_isSix_32 : decode cXM_isSix 32 = .ok (.getfield 7, 3) := by decide +kernel
theorem dXM_isSix_35 : decode cXM_isSix 35 = .ok (.iconst 1, 1) := by decide +kernel
theorem dXM_isSix_36 : decode cXM_isSix 36 = .ok (.iaload, 1) := by decide +kernel
theorem dXM_isSix_37 : decode cXM_isSix 37 = .ok (.bipush 58, 2) := by decide +kernel
theorem dXM_isSix_39 : decode cXM_isSix 39 = .ok (.if_icmp .ne 10, 3) := by decide +kernel
theorem dXM_isSix_42 : decode cXM_isSix 42 = .ok (.aload_n 0, 1) := by decide +kernel
theorem dXM_isSix_43 : decode cXM_isSix 43 = .ok (.iconst 0, 1) := by decide +kernel
theorem dXM_isSix_44 : decode cXM_isSix 44 = .ok (.putfield 47, 3) := by decide +kernel
theorem dXM_isSix_47 : decode cXM_isSix 47 = .ok (.iconst 2, 1) := by decide +kernel
theorem dXM_isSix_48 : decode cXM_isSix 48 = .ok (.istore_n 1, 1) := by decide +kernel
theorem dXM_isSix_49 : decode cXM_isSix 49 = .ok (.iload_n 1, 1) := by decide +kernel
theorem dXM_isSix_50 : decode cXM_isSix 50 = .ok (.aload_n 0, 1) := by decide +kernel
theorem dXM_isSix_51 : decode cXM_isSix 51 = .ok (.getfield 28, 3) := by decide +kernel
theorem dXM_isSix_54 : decode cXM_isSix 54 = .ok (.if_icmp .ge 165, 3) := by decide +kernel
theorem dXM_isSix_57 : decode cXM_isSix 57 = .ok (.iconst 0, 1) := by decide +kernel
theorem dXM_isSix_58 : decode cXM_isSix 58 = .ok (.istore_n 2, 1) := by decide +kernel
theorem dXM_isSix_59 : decode cXM_isSix 59 = .ok (.iconst 0, 1) := by decide +kernel
theorem dXM_isSix_60 : decode cXM_isSix 60 = .ok (.istore_n 3, 1) := by decide +kernel
theorem dXM_isSix_61 : decode cXM_isSix 61 = .ok (.iload_n 1, 1) := by decide +kernel
theorem dXM_isSix_62 : decode cXM_isSix 62 = .ok (.aload_n 0, 1) := by decide +kernel
theorem dXM_isSix_63 : decode cXM_isSix 63 = .ok (.getfield 28, 3) := by decide +kernel
theorem dXM_isSix_66 : decode cXM_isSix 66 = .ok (.if_icmp .ge 44, 3) := by decide +kernel
theorem dXM_isSix_69 : decode cXM_isSix 69 = .ok (.iload_n 3, 1) := by decide +kernel
theorem dXM_isSix_70 : decode cXM_isSix 70 = .ok (.iconst 4, 1) := by decide +kernel
theorem dXM_isSix_71 : decode cXM_isSix 71 = .ok (.if_icmp .ge 39, 3) := by decide +kernel
theorem dXM_isSix_74 : decode cXM_isSix 74 = .ok (.aload_n 0, 1) := by decide +kernel
theorem dXM_isSix_75 : decode cXM_isSix 75 = .ok (.getfield 7, 3) := by decide +kernel
theorem dXM_isSix_78 : decode cXM_isSix 78 = .ok (.iload_n 1, 1) := by decide +kernel
theorem dXM_isSix_79 : decode cXM_isSix 79 = .ok (.iaload, 1) := by decide +kernel
theorem dXM_isSix_80 : decode cXM_isSix 80 = .ok (.invokestatic 50, 3) := by decide +kernel
theorem dXM_isSix_83 : decode cXM_isSix 83 = .ok (.ifCond .lt 27, 3) := by decide +kernel
theorem dXM_isSix_86 : decode cXM_isSix 86 = .ok (.bipush 16, 2) := by decide +kernel
theorem dXM_isSix_88 : decode cXM_isSix 88 = .ok (.iload_n 2, 1) := by decide +kernel
theorem dXM_isSix_89 : decode cXM_isSix 89 = .ok (.imul, 1) := by decide +kernel
theorem dXM_isSix_90 : decode cXM_isSix 90 = .ok (.aload_n 0, 1) := by decide +kernel
theorem dXM_isSix_91 : decode cXM_isSix 91 = .ok (.getfield 7, 3) := by decide +kernel
theorem dXM_isSix_94 : decode cXM_isSix 94 = .ok (.iload_n 1, 1) := by decide +kernel
theorem dXM_isSix_95 : decode cXM_isSix 95 = .ok (.iaload, 1) := by decide +kernel
theorem dXM_isSix_96 : decode cXM_isSix 96 = .ok (.invokestatic 50, 3) := by decide +kernel
theorem dXM_isSix_99 : decode cXM_isSix 99 = .ok (.iadd, 1) := by decide +kernel
theorem dXM_isSix_100 : decode cXM_isSix 100 = .ok (.istore_n 2, 1) := by decide +kernel
theorem dXM_isSix_101 : decode cXM_isSix 101 = .ok (.iinc 3 1, 3) := by decide +kernel
theorem dXM_isSix_104 : decode cXM_isSix 104 = .ok (.iinc 1 1, 3) := by decide +kernel
theorem dXM_isSix_107 : decode cXM_isSix 107 = .ok (.goto (-46), 3) := by decide +kernel
theorem dXM_isSix_110 : decode cXM_isSix 110 = .ok (.iload_n 3, 1) := by decide +kernel
theorem dXM_isSix_111 : decode cXM_isSix 111 = .ok (.ifCond .eq 12, 3) := by decide +kernel
theorem dXM_isSix_114 : decode cXM_isSix 114 = .ok (.aload_n 0, 1) := by decide +kernel
theorem dXM_isSix_115 : decode cXM_isSix 115 = .ok (.getfield 40, 3) := by decide +kernel
theorem dXM_isSix_118 : decode cXM_isSix 118 = .ok (.bipush 8, 2) := by decide +kernel
theorem dXM_isSix_120 : decode cXM_isSix 120 = .ok (.if_icmp .ne 5, 3) := by decide +kernel
theorem dXM_isSix_123 : decode cXM_isSix 123 = .ok (.iconst 0, 1) := by decide +kernel
theorem dXM_isSix_124 : decode cXM_isSix 124 = .ok (.ireturn, 1) := by decide +kernel
theorem dXM_isSix_125 : decode cXM_isSix 125 = .ok (.aload_n 0, 1) := by decide +kernel
theorem dXM_isSix_126 : decode cXM_isSix 126 = .ok (.getfield 22, 3) := by decide +kernel
theorem dXM_isSix_129 : decode cXM_isSix 129 = .ok (.aload_n 0, 1) := by decide +kernel
theorem dXM_isSix_130 : decode cXM_isSix 130 = .ok (.getfield 40, 3) := by decide +kernel
theorem dXM_isSix_133 : decode cXM_isSix 133 = .ok (.iload_n 2, 1) := by decide +kernel
theorem dXM_isSix_134 : decode cXM_isSix 134 = .ok (.iastore, 1) := by decide +kernel
theorem dXM_isSix_135 : decode cXM_isSix 135 = .ok (.aload_n 0, 1) := by decide +kernel
theorem dXM_isSix_136 : decode cXM_isSix 136 = .ok (.dup, 1) := by decide +kernel
theorem dXM_isSix_137 : decode cXM_isSix 137 = .ok (.getfield 40, 3) := by decide +kernel
theorem dXM_isSix_140 : decode cXM_isSix 140 = .ok (.iconst 1, 1) := by decide +kernel
theorem dXM_isSix_141 : decode cXM_isSix 141 = .ok (.iadd, 1) := by decide +kernel
theorem dXM_isSix_142 : decode cXM_isSix 142 = .ok (.putfield 40, 3) := by decide +kernel
theorem dXM_isSix_145 : decode cXM_isSix 145 = .ok (.iload_n 1, 1) := by decide +kernel
theorem dXM_isSix_146 : decode cXM_isSix 146 = .ok (.aload_n 0, 1) := by decide +kernel
theorem dXM_isSix_147 : decode cXM_isSix 147 = .ok (.getfield 28, 3) := by decide +kernel
theorem dXM_isSix_150 : decode cXM_isSix 150 = .ok (.if_icmp .ne 6, 3) := by decide +kernel
theorem dXM_isSix_153 : decode cXM_isSix 153 = .ok (.goto 66, 3) := by decide +kernel
theorem dXM_isSix_156 : decode cXM_isSix 156 = .ok (.aload_n 0, 1) := by decide +kernel
theorem dXM_isSix_157 : decode cXM_isSix 157 = .ok (.getfield 7, 3) := by decide +kernel
theorem dXM_isSix_160 : decode cXM_isSix 160 = .ok (.iload_n 1, 1) := by decide +kernel
theorem dXM_isSix_161 : decode cXM_isSix 161 = .ok (.iaload, 1) := by decide +kernel
theorem dXM_isSix_162 : decode cXM_isSix 162 = .ok (.bipush 58, 2) := by decide +kernel
theorem dXM_isSix_164 : decode cXM_isSix 164 = .ok (.if_icmp .ne 13, 3) := by decide +kernel
theorem dXM_isSix_167 : decode cXM_isSix 167 = .ok (.iload_n 1, 1) := by decide +kernel
theorem dXM_isSix_168 : decode cXM_isSix 168 = .ok (.iconst 1, 1) := by decide +kernel
theorem dXM_isSix_169 : decode cXM_isSix 169 = .ok (.iadd, 1) := by decide +kernel
theorem dXM_isSix_170 : decode cXM_isSix 170 = .ok (.aload_n 0, 1) := by decide +kernel
theorem dXM_isSix_171 : decode cXM_isSix 171 = .ok (.getfield 28, 3) := by decide +kernel
theorem dXM_isSix_174 : decode cXM_isSix 174 = .ok (.if_icmp .ne 5, 3) := by decide +kernel
theorem dXM_isSix_177 : decode cXM_isSix 177 = .ok (.iconst 0, 1) := by decide +kernel
theorem dXM_isSix_178 : decode cXM_isSix 178 = .ok (.ireturn, 1) := by decide +kernel
theorem dXM_isSix_179 : decode cXM_isSix 179 = .ok (.iinc 1 1, 3) := by decide +kernel
theorem dXM_isSix_182 : decode cXM_isSix 182 = .ok (.aload_n 0, 1) := by decide +kernel
theorem dXM_isSix_183 : decode cXM_isSix 183 = .ok (.getfield 7, 3) := by decide +kernel
theorem dXM_isSix_186 : decode cXM_isSix 186 = .ok (.iload_n 1, 1) := by decide +kernel
theorem dXM_isSix_187 : decode cXM_isSix 187 = .ok (.iaload, 1) := by decide +kernel
theorem dXM_isSix_188 : decode cXM_isSix 188 = .ok (.bipush 58, 2) := by decide +kernel
theorem dXM_isSix_190 : decode cXM_isSix 190 = .ok (.if_icmp .eq 6, 3) := by decide +kernel
theorem dXM_isSix_193 : decode cXM_isSix 193 = .ok (.goto (-144), 3) := by decide +kernel
theorem dXM_isSix_196 : decode cXM_isSix 196 = .ok (.aload_n 0, 1) := by decide +kernel
theorem dXM_isSix_197 : decode cXM_isSix 197 = .ok (.getfield 47, 3) := by decide +kernel
theorem dXM_isSix_200 : decode cXM_isSix 200 = .ok (.ifCond .lt 5, 3) := by decide +kernel
theorem dXM_isSix_203 : decode cXM_isSix 203 = .ok (.iconst 0, 1) := by decide +kernel
theorem dXM_isSix_204 : decode cXM_isSix 204 = .ok (.ireturn, 1) := by decide +kernel
theorem dXM_isSix_205 : decode cXM_isSix 205 = .ok (.aload_n 0, 1) := by decide +kernel
theorem dXM_isSix_206 : decode cXM_isSix 206 = .ok (.aload_n 0, 1) := by decide +kernel
theorem dXM_isSix_207 : decode cXM_isSix 207 = .ok (.getfield 40, 3) := by decide +kernel
theorem dXM_isSix_210 : decode cXM_isSix 210 = .ok (.putfield 47, 3) := by decide +kernel
theorem dXM_isSix_213 : decode cXM_isSix 213 = .ok (.iinc 1 1, 3) := by decide +kernel
theorem dXM_isSix_216 : decode cXM_isSix 216 = .ok (.goto (-167), 3) := by decide +kernel
theorem dXM_isSix_219 : decode cXM_isSix 219 = .ok (.aload_n 0, 1) := by decide +kernel
theorem dXM_isSix_220 : decode cXM_isSix 220 = .ok (.getfield 47, 3) := by decide +kernel
theorem dXM_isSix_223 : decode cXM_isSix 223 = .ok (.ifCond .ge 20, 3) := by decide +kernel
theorem dXM_isSix_226 : decode cXM_isSix 226 = .ok (.aload_n 0, 1) := by decide +kernel
theorem dXM_isSix_227 : decode cXM_isSix 227 = .ok (.getfield 40, 3) := by decide +kernel
theorem dXM_isSix_230 : decode cXM_isSix 230 = .ok (.bipush 8, 2) := by decide +kernel
theorem dXM_isSix_232 : decode cXM_isSix 232 = .ok (.if_icmp .ne 7, 3) := by decide +kernel
theorem dXM_isSix_235 : decode cXM_isSix 235 = .ok (.iconst 1, 1) := by decide +kernel
theorem dXM_isSix_236 : decode cXM_isSix 236 = .ok (.goto 21, 3) := by decide +kernel
theorem dXM_isSix_239 : decode cXM_isSix 239 = .ok (.iconst 0, 1) := by decide +kernel
theorem dXM_isSix_240 : decode cXM_isSix 240 = .ok (.goto 17, 3) := by decide +kernel
theorem dXM_isSix_243 : decode cXM_isSix 243 = .ok (.aload_n 0, 1) := by decide +kernel
theorem dXM_isSix_244 : decode cXM_isSix 244 = .ok (.getfield 40, 3) := by decide +kernel
theorem dXM_isSix_247 : decode cXM_isSix 247 = .ok (.bipush 8, 2) := by decide +kernel
theorem dXM_isSix_249 : decode cXM_isSix 249 = .ok (.if_icmp .ge 7, 3) := by decide +kernel
theorem dXM_isSix_252 : decode cXM_isSix 252 = .ok (.iconst 1, 1) := by decide +kernel
theorem dXM_isSix_253 : decode cXM_isSix 253 = .ok (.goto 4, 3) := by decide +kernel
theorem dXM_isSix_256 : decode cXM_isSix 256 = .ok (.iconst 0, 1) := by decide +kernel
theorem dXM_isSix_257 : decode cXM_isSix 257 = .ok (.ireturn, 1) := by decide +kernel
theorem dXM_read_0 : decode cXM_read 0 = .ok (.iconst 0, 1) := by decide +kernel
theorem dXM_read_1 : decode cXM_read 1 = .ok (.istore_n 1, 1) := by decide +kernel
theorem dXM_read_2 : decode cXM_read 2 = .ok (.iconst 0, 1) := by decide +kernel
theorem dXM_read_3 : decode cXM_read 3 = .ok (.istore_n 2, 1) := by decide +kernel
theorem dXM_read_4 : decode cXM_read 4 = .ok (.iload_n 2, 1) := by decide +kernel
theorem dXM_read_5 : decode cXM_read 5 = .ok (.aload_n 0, 1) := by decide +kernel
theorem dXM_read_6 : decode cXM_read 6 = .ok (.getfield 28, 3) := by decide +kernel
theorem dXM_read_9 : decode cXM_read 9 = .ok (.if_icmp .ge 30, 3) := by decide +kernel
theorem dXM_read_12 : decode cXM_read 12 = .ok (.iload_n 1, 1) := by decide +kernel
theorem dXM_read_13 : decode cXM_read 13 = .ok (.ifCond .ne 14, 3) := by decide +kernel
theorem dXM_read_16 : decode cXM_read 16 = .ok (.aload_n 0, 1) := by decide +kernel
theorem dXM_read_17 : decode cXM_read 17 = .ok (.getfield 7, 3) := by decide +kernel
theorem dXM_read_20 : decode cXM_read 20 = .ok (.iload_n 2, 1) := by decide +kernel
theorem dXM_read_21 : decode cXM_read 21 = .ok (.iaload, 1) := by decide +kernel
theorem dXM_read_22 : decode cXM_read 22 = .ok (.bipush 58, 2) := by decide +kernel
theorem dXM_read_24 : decode cXM_read 24 = .ok (.if_icmp .ne 7, 3) := by decide +kernel
theorem dXM_read_27 : decode cXM_read 27 = .ok (.iconst 1, 1) := by decide +kernel
theorem dXM_read_28 : decode cXM_read 28 = .ok (.goto 4, 3) := by decide +kernel
theorem dXM_read_31 : decode cXM_read 31 = .ok (.iconst 0, 1) := by decide +kernel
theorem dXM_read_32 : decode cXM_read 32 = .ok (.istore_n 1, 1) := by decide +kernel
theorem dXM_read_33 : decode cXM_read 33 = .ok (.iinc 2 1, 3) := by decide +kernel
theorem dXM_read_36 : decode cXM_read 36 = .ok (.goto (-32), 3) := by decide +kernel
theorem dXM_read_39 : decode cXM_read 39 = .ok (.iload_n 1, 1) := by decide +kernel
theorem dXM_read_40 : decode cXM_read 40 = .ok (.ifCond .eq 10, 3) := by decide +kernel
theorem dXM_read_43 : decode cXM_read 43 = .ok (.aload_n 0, 1) := by decide +kernel
theorem dXM_read_44 : decode cXM_read 44 = .ok (.invokevirtual 54, 3) := by decide +kernel
theorem dXM_read_47 : decode cXM_read 47 = .ok (.goto 7, 3) := by decide +kernel
theorem dXM_read_50 : decode cXM_read 50 = .ok (.aload_n 0, 1) := by decide +kernel
theorem dXM_read_51 : decode cXM_read 51 = .ok (.invokevirtual 58, 3) := by decide +kernel
theorem dXM_read_54 : decode cXM_read 54 = .ok (.istore_n 2, 1) := by decide +kernel
theorem dXM_read_55 : decode cXM_read 55 = .ok (.aload_n 0, 1) := by decide +kernel
theorem dXM_read_56 : decode cXM_read 56 = .ok (.iconst 0, 1) := by decide +kernel
theorem dXM_read_57 : decode cXM_read 57 = .ok (.putfield 28, 3) := by decide +kernel
theorem dXM_read_60 : decode cXM_read 60 = .ok (.iload_n 2, 1) := by decide +kernel
theorem dXM_read_61 : decode cXM_read 61 = .ok (.ifCond .ne 5, 3) := by decide +kernel
theorem dXM_read_64 : decode cXM_read 64 = .ok (.iconst (-1), 1) := by decide +kernel
theorem dXM_read_65 : decode cXM_read 65 = .ok (.ireturn, 1) := by decide +kernel
theorem dXM_read_66 : decode cXM_read 66 = .ok (.iconst 0, 1) := by decide +kernel
theorem dXM_read_67 : decode cXM_read 67 = .ok (.istore_n 3, 1) := by decide +kernel
theorem dXM_read_68 : decode cXM_read 68 = .ok (.iload_n 3, 1) := by decide +kernel
theorem dXM_read_69 : decode cXM_read 69 = .ok (.bipush 16, 2) := by decide +kernel
theorem dXM_read_71 : decode cXM_read 71 = .ok (.if_icmp .ge 31, 3) := by decide +kernel
theorem dXM_read_74 : decode cXM_read 74 = .ok (.aload_n 0, 1) := by decide +kernel
theorem dXM_read_75 : decode cXM_read 75 = .ok (.getfield 13, 3) := by decide +kernel
theorem dXM_read_78 : decode cXM_read 78 = .ok (.bipush 16, 2) := by decide +kernel
theorem dXM_read_80 : decode cXM_read 80 = .ok (.iload_n 3, 1) := by decide +kernel
theorem dXM_read_81 : decode cXM_read 81 = .ok (.iadd, 1) := by decide +kernel
theorem dXM_read_82 : decode cXM_read 82 = .ok (.aload_n 0, 1) := by decide +kernel
theorem dXM_read_83 : decode cXM_read 83 = .ok (.getfield 13, 3) := by decide +kernel
theorem dXM_read_86 : decode cXM_read 86 = .ok (.iload_n 3, 1) := by decide +kernel
theorem dXM_read_87 : decode cXM_read 87 = .ok (.iaload, 1) := by decide +kernel
theorem dXM_read_88 : decode cXM_read 88 = .ok (.iastore, 1) := by decide +kernel
theorem dXM_read_89 : decode cXM_read 89 = .ok (.aload_n 0, 1) := by decide +kernel
theorem dXM_read_90 : decode cXM_read 90 = .ok (.getfield 13, 3) := by decide +kernel
theorem dXM_read_93 : decode cXM_read 93 = .ok (.iload_n 3, 1) := by decide +kernel
theorem dXM_read_94 : decode cXM_read 94 = .ok (.iconst 0, 1) := by decide +kernel
theorem dXM_read_95 : decode cXM_read 95 = .ok (.iastore, 1) := by decide +kernel
theorem dXM_read_96 : decode cXM_read 96 = .ok (.iinc 3 1, 3) := by decide +kernel
theorem dXM_read_99 : decode cXM_read 99 = .ok (.goto (-31), 3) := by decide +kernel
theorem dXM_read_102 : decode cXM_read 102 = .ok (.aload_n 0, 1) := by decide +kernel
theorem dXM_read_103 : decode cXM_read 103 = .ok (.getfield 16, 3) := by decide +kernel
theorem dXM_read_106 : decode cXM_read 106 = .ok (.iconst 1, 1) := by decide +kernel
theorem dXM_read_107 : decode cXM_read 107 = .ok (.aload_n 0, 1) := by decide +kernel
theorem dXM_read_108 : decode cXM_read 108 = .ok (.getfield 16, 3) := by decide +kernel
theorem dXM_read_111 : decode cXM_read 111 = .ok (.iconst 0, 1) := by decide +kernel
theorem dXM_read_112 : decode cXM_read 112 = .ok (.iaload, 1) := by decide +kernel
theorem dXM_read_113 : decode cXM_read 113 = .ok (.iastore, 1) := by decide +kernel
theorem dXM_read_114 : decode cXM_read 114 = .ok (.aload_n 0, 1) := by decide +kernel
theorem dXM_read_115 : decode cXM_read 115 = .ok (.getfield 19, 3) := by decide +kernel
theorem dXM_read_118 : decode cXM_read 118 = .ok (.iconst 1, 1) := by decide +kernel
theorem dXM_read_119 : decode cXM_read 119 = .ok (.aload_n 0, 1) := by decide +kernel
theorem dXM_read_120 : decode cXM_read 120 = .ok (.getfield 19, 3) := by decide +kernel
theorem dXM_read_123 : decode cXM_read 123 = .ok (.iconst 0, 1) := by decide +kernel
theorem dXM_read_124 : decode cXM_read 124 = .ok (.iaload, 1) := by decide +kernel
theorem dXM_read_125 : decode cXM_read 125 = .ok (.iastore, 1) := by decide +kernel
theorem dXM_read_126 : decode cXM_read 126 = .ok (.aload_n 0, 1) := by decide +kernel
theorem dXM_read_127 : decode cXM_read 127 = .ok (.getfield 16, 3) := by decide +kernel
theorem dXM_read_130 : decode cXM_read 130 = .ok (.iconst 0, 1) := by decide +kernel
theorem dXM_read_131 : decode cXM_read 131 = .ok (.iload_n 1, 1) := by decide +kernel
theorem dXM_read_132 : decode cXM_read 132 = .ok (.ifCond .eq 8, 3) := by decide +kernel
theorem dXM_read_135 : decode cXM_read 135 = .ok (.bipush 6, 2) := by decide +kernel
theorem dXM_read_137 : decode cXM_read 137 = .ok (.goto 4, 3) := by decide +kernel
theorem dXM_read_140 : decode cXM_read 140 = .ok (.iconst 4, 1) := by decide +kernel
theorem dXM_read_141 : decode cXM_read 141 = .ok (.iastore, 1) := by decide +kernel
theorem dXM_read_142 : decode cXM_read 142 = .ok (.aload_n 0, 1) := by decide +kernel
theorem dXM_read_143 : decode cXM_read 143 = .ok (.getfield 19, 3) := by decide +kernel
theorem dXM_read_146 : decode cXM_read 146 = .ok (.iconst 0, 1) := by decide +kernel
theorem dXM_read_147 : decode cXM_read 147 = .ok (.iload_n 1, 1) := by decide +kernel
theorem dXM_read_148 : decode cXM_read 148 = .ok (.ifCond .eq 9, 3) := by decide +kernel
theorem dXM_read_151 : decode cXM_read 151 = .ok (.sipush 128, 3) := by decide +kernel
theorem dXM_read_154 : decode cXM_read 154 = .ok (.goto 5, 3) := by decide +kernel
theorem dXM_read_157 : decode cXM_read 157 = .ok (.bipush 32, 2) := by decide +kernel
theorem dXM_read_159 : decode cXM_read 159 = .ok (.iastore, 1) := by decide +kernel
theorem dXM_read_160 : decode cXM_read 160 = .ok (.iconst 0, 1) := by decide +kernel
theorem dXM_read_161 : decode cXM_read 161 = .ok (.istore_n 3, 1) := by decide +kernel
theorem dXM_read_162 : decode cXM_read 162 = .ok (.iload_n 3, 1) := by decide +kernel
theorem dXM_read_163 : decode cXM_read 163 = .ok (.aload_n 0, 1) := by decide +kernel
theorem dXM_read_164 : decode cXM_read 164 = .ok (.getfield 40, 3) := by decide +kernel
theorem dXM_read_167 : decode cXM_read 167 = .ok (.if_icmp .ge 100, 3) := by decide +kernel
theorem dXM_read_170 : decode cXM_read 170 = .ok (.iload_n 1, 1) := by decide +kernel
theorem dXM_read_171 : decode cXM_read 171 = .ok (.ifCond .ne 21, 3) := by decide +kernel
theorem dXM_read_174 : decode cXM_read 174 = .ok (.aload_n 0, 1) := by decide +kernel
theorem dXM_read_175 : decode cXM_read 175 = .ok (.getfield 13, 3) := by decide +kernel
theorem dXM_read_178 : decode cXM_read 178 = .ok (.bipush 12, 2) := by decide +kernel
theorem dXM_read_180 : decode cXM_read 180 = .ok (.iload_n 3, 1) := by decide +kernel
theorem dXM_read_181 : decode cXM_read 181 = .ok (.iadd, 1) := by decide +kernel
theorem dXM_read_182 : decode cXM_read 182 = .ok (.aload_n 0, 1) := by decide +kernel
theorem dXM_read_183 : decode cXM_read 183 = .ok (.getfield 22, 3) := by decide +kernel
theorem dXM_read_186 : decode cXM_read 186 = .ok (.iload_n 3, 1) := by decide +kernel
theorem dXM_read_187 : decode cXM_read 187 = .ok (.iaload, 1) := by decide +kernel
theorem dXM_read_188 : decode cXM_read 188 = .ok (.iastore, 1) := by decide +kernel
theorem dXM_read_189 : decode cXM_read 189 = .ok (.goto 72, 3) := by decide +kernel
theorem dXM_read_192 : decode cXM_read 192 = .ok (.aload_n 0, 1) := by decide +kernel
theorem dXM_read_193 : decode cXM_read 193 = .ok (.getfield 47, 3) := by decide +kernel
theorem dXM_read_196 : decode cXM_read 196 = .ok (.ifCond .lt 23, 3) := by decide +kernel
theorem dXM_read_199 : decode cXM_read 199 = .ok (.iload_n 3, 1) := by decide +kernel
theorem dXM_read_200 : decode cXM_read 200 = .ok (.aload_n 0, 1) := by decide +kernel
theorem dXM_read_201 : decode cXM_read 201 = .ok (.getfield 47, 3) := by decide +kernel
theorem dXM_read_204 : decode cXM_read 204 = .ok (.if_icmp .lt 15, 3) := by decide +kernel
theorem dXM_read_207 : decode cXM_read 207 = .ok (.bipush 8, 2) := by decide +kernel
theorem dXM_read_209 : decode cXM_read 209 = .ok (.aload_n 0, 1) := by decide +kernel
theorem dXM_read_210 : decode cXM_read 210 = .ok (.getfield 40, 3) := by decide +kernel
theorem dXM_read_213 : decode cXM_read 213 = .ok (.isub, 1) := by decide +kernel
theorem dXM_read_214 : decode cXM_read 214 = .ok (.iload_n 3, 1) := by decide +kernel
theorem dXM_read_215 : decode cXM_read 215 = .ok (.iadd, 1) := by decide +kernel
theorem dXM_read_216 : decode cXM_read 216 = .ok (.goto 4, 3) := by decide +kernel
theorem dXM_read_219 : decode cXM_read 219 = .ok (.iload_n 3, 1) := by decide +kernel
theorem dXM_read_220 : decode cXM_read 220 = .ok (.istore 4, 2) := by decide +kernel
theorem dXM_read_222 : decode cXM_read 222 = .ok (.aload_n 0, 1) := by decide +kernel
theorem dXM_read_223 : decode cXM_read 223 = .ok (.getfield 13, 3) := by decide +kernel
theorem dXM_read_226 : decode cXM_read 226 = .ok (.iconst 2, 1) := by decide +kernel
theorem dXM_read_227 : decode cXM_read 227 = .ok (.iload 4, 2) := by decide +kernel
theorem dXM_read_229 : decode cXM_read 229 = .ok (.imul, 1) := by decide +kernel
theorem dXM_read_230 : decode cXM_read 230 = .ok (.aload_n 0, 1) := by decide +kernel
theorem dXM_read_231 : decode cXM_read 231 = .ok (.getfield 22, 3) := by decide +kernel
theorem dXM_read_234 : decode cXM_read 234 = .ok (.iload_n 3, 1) := by decide +kernel
theorem dXM_read_235 : decode cXM_read 235 = .ok (.iaload, 1) := by decide +kernel
theorem dXM_read_236 : decode cXM_read 236 = .ok (.bipush 8, 2) := by decide +kernel
theorem dXM_read_238 : decode cXM_read 238 = .ok (.ishr, 1) := by decide +kernel
theorem dXM_read_239 : decode cXM_read 239 = .ok (.iastore, 1) := by decide +kernel
theorem dXM_read_240 : decode cXM_read 240 = .ok (.aload_n 0, 1) := by decide +kernel
theorem dXM_read_241 : decode cXM_read 241 = .ok (.getfield 13, 3) := by decide +kernel
theorem dXM_read_244 : decode cXM_read 244 = .ok (.iconst 2, 1) := by decide +kernel
theorem dXM_read_245 : decode cXM_read 245 = .ok (.iload 4, 2) := by decide +kernel
theorem dXM_read_247 : decode cXM_read 247 = .ok (.imul, 1) := by decide +kernel
theorem dXM_read_248 : decode cXM_read 248 = .ok (.iconst 1, 1) := by decide +kernel
theorem dXM_read_249 : decode cXM_read 249 = .ok (.iadd, 1) := by decide +kernel
theorem dXM_read_250 : decode cXM_read 250 = .ok (.aload_n 0, 1) := by decide +kernel
theorem dXM_read_251 : decode cXM_read 251 = .ok (.getfield 22, 3) := by decide +kernel
theorem dXM_read_254 : decode cXM_read 254 = .ok (.iload_n 3, 1) := by decide +kernel
theorem dXM_read_255 : decode cXM_read 255 = .ok (.iaload, 1) := by decide +kernel
theorem dXM_read_256 : decode cXM_read 256 = .ok (.sipush 255, 3) := by decide +kernel
theorem dXM_read_259 : decode cXM_read 259 = .ok (.iand, 1) := by decide +kernel
theorem dXM_read_260 : decode cXM_read 260 = .ok (.iastore, 1) := by decide +kernel
theorem dXM_read_261 : decode cXM_read 261 = .ok (.iinc 3 1, 3) := by decide +kernel
theorem dXM_read_264 : decode cXM_read 264 = .ok (.goto (-102), 3) := by decide +kernel
theorem dXM_read_267 : decode cXM_read 267 = .ok (.aload_n 0, 1) := by decide +kernel
theorem dXM_read_268 : decode cXM_read 268 = .ok (.getfield 16, 3) := by decide +kernel
theorem dXM_read_271 : decode cXM_read 271 = .ok (.iconst 0, 1) := by decide +kernel
theorem dXM_read_272 : decode cXM_read 272 = .ok (.iaload, 1) := by decide +kernel
theorem dXM_read_273 : decode cXM_read 273 = .ok (.ireturn, 1) := by decide +kernel
theorem dXM_length_0 : decode cXM_length 0 = .ok (.aload_n 0, 1) := by decide +kernel
theorem dXM_length_1 : decode cXM_length 1 = .ok (.iconst 0, 1) := by decide +kernel
theorem dXM_length_2 : decode cXM_length 2 = .ok (.aload_n 0, 1) := by decide +kernel
theorem dXM_length_3 : decode cXM_length 3 = .ok (.getfield 28, 3) := by decide +kernel
theorem dXM_length_6 : decode cXM_length 6 = .ok (.aload_n 0, 1) := by decide +kernel
theorem dXM_length_7 : decode cXM_length 7 = .ok (.getfield 16, 3) := by decide +kernel
theorem dXM_length_10 : decode cXM_length 10 = .ok (.iconst 0, 1) := by decide +kernel
theorem dXM_length_11 : decode cXM_length 11 = .ok (.iaload, 1) := by decide +kernel
theorem dXM_length_12 : decode cXM_length 12 = .ok (.iconst 4, 1) := by decide +kernel
theorem dXM_length_13 : decode cXM_length 13 = .ok (.if_icmp .ne 8, 3) := by decide +kernel
theorem dXM_length_16 : decode cXM_length 16 = .ok (.bipush 32, 2) := by decide +kernel
theorem dXM_length_18 : decode cXM_length 18 = .ok (.goto 6, 3) := by decide +kernel
theorem dXM_length_21 : decode cXM_length 21 = .ok (.sipush 128, 3) := by decide +kernel
theorem dXM_length_24 : decode cXM_length 24 = .ok (.invokevirtual 43, 3) := by decide +kernel
theorem dXM_length_27 : decode cXM_length 27 = .ok (.istore_n 1, 1) := by decide +kernel
theorem dXM_length_28 : decode cXM_length 28 = .ok (.aload_n 0, 1) := by decide +kernel
theorem dXM_length_29 : decode cXM_length 29 = .ok (.iconst 0, 1) := by decide +kernel
theorem dXM_length_30 : decode cXM_length 30 = .ok (.putfield 28, 3) := by decide +kernel
theorem dXM_length_33 : decode cXM_length 33 = .ok (.iload_n 1, 1) := by decide +kernel
theorem dXM_length_34 : decode cXM_length 34 = .ok (.ifCond .lt 10, 3) := by decide +kernel
theorem dXM_length_37 : decode cXM_length 37 = .ok (.aload_n 0, 1) := by decide +kernel
theorem dXM_length_38 : decode cXM_length 38 = .ok (.getfield 19, 3) := by decide +kernel
theorem dXM_length_41 : decode cXM_length 41 = .ok (.iconst 0, 1) := by decide +kernel
theorem dXM_length_42 : decode cXM_length 42 = .ok (.iload_n 1, 1) := by decide +kernel
theorem dXM_length_43 : decode cXM_length 43 = .ok (.iastore, 1) := by decide +kernel
theorem dXM_length_44 : decode cXM_length 44 = .ok (.iload_n 1, 1) := by decide +kernel
theorem dXM_length_45 : decode cXM_length 45 = .ok (.ireturn, 1) := by decide +kernel
theorem dXM_bit_0 : decode cXM_bit 0 = .ok (.aload_n 0, 1) := by decide +kernel
theorem dXM_bit_1 : decode cXM_bit 1 = .ok (.getfield 16, 3) := by decide +kernel
theorem dXM_bit_4 : decode cXM_bit 4 = .ok (.iload_n 1, 1) := by decide +kernel
theorem dXM_bit_5 : decode cXM_bit 5 = .ok (.iaload, 1) := by decide +kernel
theorem dXM_bit_6 : decode cXM_bit 6 = .ok (.iconst 4, 1) := by decide +kernel
theorem dXM_bit_7 : decode cXM_bit 7 = .ok (.if_icmp .ne 10, 3) := by decide +kernel
theorem dXM_bit_10 : decode cXM_bit 10 = .ok (.bipush 96, 2) := by decide +kernel
theorem dXM_bit_12 : decode cXM_bit 12 = .ok (.iload_n 2, 1) := by decide +kernel
theorem dXM_bit_13 : decode cXM_bit 13 = .ok (.iadd, 1) := by decide +kernel
theorem dXM_bit_14 : decode cXM_bit 14 = .ok (.goto 4, 3) := by decide +kernel
theorem dXM_bit_17 : decode cXM_bit 17 = .ok (.iload_n 2, 1) := by decide +kernel
theorem dXM_bit_18 : decode cXM_bit 18 = .ok (.istore_n 3, 1) := by decide +kernel
theorem dXM_bit_19 : decode cXM_bit 19 = .ok (.aload_n 0, 1) := by decide +kernel
theorem dXM_bit_20 : decode cXM_bit 20 = .ok (.getfield 13, 3) := by decide +kernel
theorem dXM_bit_23 : decode cXM_bit 23 = .ok (.bipush 16, 2) := by decide +kernel
theorem dXM_bit_25 : decode cXM_bit 25 = .ok (.iload_n 1, 1) := by decide +kernel
theorem dXM_bit_26 : decode cXM_bit 26 = .ok (.imul, 1) := by decide +kernel
theorem dXM_bit_27 : decode cXM_bit 27 = .ok (.iload_n 3, 1) := by decide +kernel
theorem dXM_bit_28 : decode cXM_bit 28 = .ok (.bipush 8, 2) := by decide +kernel
theorem dXM_bit_30 : decode cXM_bit 30 = .ok (.idiv, 1) := by decide +kernel
theorem dXM_bit_31 : decode cXM_bit 31 = .ok (.iadd, 1) := by decide +kernel
theorem dXM_bit_32 : decode cXM_bit 32 = .ok (.iaload, 1) := by decide +kernel
theorem dXM_bit_33 : decode cXM_bit 33 = .ok (.bipush 7, 2) := by decide +kernel
theorem dXM_bit_35 : decode cXM_bit 35 = .ok (.iload_n 3, 1) := by decide +kernel
theorem dXM_bit_36 : decode cXM_bit 36 = .ok (.bipush 8, 2) := by decide +kernel
theorem dXM_bit_38 : decode cXM_bit 38 = .ok (.irem, 1) := by decide +kernel
theorem dXM_bit_39 : decode cXM_bit 39 = .ok (.isub, 1) := by decide +kernel
theorem dXM_bit_40 : decode cXM_bit 40 = .ok (.ishr, 1) := by decide +kernel
theorem dXM_bit_41 : decode cXM_bit 41 = .ok (.iconst 1, 1) := by decide +kernel
theorem dXM_bit_42 : decode cXM_bit 42 = .ok (.iand, 1) := by decide +kernel
theorem dXM_bit_43 : decode cXM_bit 43 = .ok (.ireturn, 1) := by decide +kernel
theorem dXM_cut_0 : decode cXM_cut 0 = .ok (.iconst 0, 1) := by decide +kernel
theorem dXM_cut_1 : decode cXM_cut 1 = .ok (.istore_n 1, 1) := by decide +kernel
theorem dXM_cut_2 : decode cXM_cut 2 = .ok (.aload_n 0, 1) := by decide +kernel
theorem dXM_cut_3 : decode cXM_cut 3 = .ok (.getfield 16, 3) := by decide +kernel
theorem dXM_cut_6 : decode cXM_cut 6 = .ok (.iconst 0, 1) := by decide +kernel
theorem dXM_cut_7 : decode cXM_cut 7 = .ok (.iaload, 1) := by decide +kernel
theorem dXM_cut_8 : decode cXM_cut 8 = .ok (.iconst 4, 1) := by decide +kernel
theorem dXM_cut_9 : decode cXM_cut 9 = .ok (.if_icmp .ne 8, 3) := by decide +kernel
theorem dXM_cut_12 : decode cXM_cut 12 = .ok (.bipush 32, 2) := by decide +kernel
theorem dXM_cut_14 : decode cXM_cut 14 = .ok (.goto 6, 3) := by decide +kernel
theorem dXM_cut_17 : decode cXM_cut 17 = .ok (.sipush 128, 3) := by decide +kernel
theorem dXM_cut_20 : decode cXM_cut 20 = .ok (.istore_n 2, 1) := by decide +kernel
theorem dXM_cut_21 : decode cXM_cut 21 = .ok (.aload_n 0, 1) := by decide +kernel
theorem dXM_cut_22 : decode cXM_cut 22 = .ok (.getfield 19, 3) := by decide +kernel
theorem dXM_cut_25 : decode cXM_cut 25 = .ok (.iconst 0, 1) := by decide +kernel
theorem dXM_cut_26 : decode cXM_cut 26 = .ok (.iaload, 1) := by decide +kernel
theorem dXM_cut_27 : decode cXM_cut 27 = .ok (.istore_n 3, 1) := by decide +kernel
theorem dXM_cut_28 : decode cXM_cut 28 = .ok (.iload_n 3, 1) := by decide +kernel
theorem dXM_cut_29 : decode cXM_cut 29 = .ok (.iload_n 2, 1) := by decide +kernel
theorem dXM_cut_30 : decode cXM_cut 30 = .ok (.if_icmp .ge 69, 3) := by decide +kernel
theorem dXM_cut_33 : decode cXM_cut 33 = .ok (.iload_n 1, 1) := by decide +kernel
theorem dXM_cut_34 : decode cXM_cut 34 = .ok (.ifCond .ne 13, 3) := by decide +kernel
theorem dXM_cut_37 : decode cXM_cut 37 = .ok (.aload_n 0, 1) := by decide +kernel
theorem dXM_cut_38 : decode cXM_cut 38 = .ok (.iconst 0, 1) := by decide +kernel
theorem dXM_cut_39 : decode cXM_cut 39 = .ok (.iload_n 3, 1) := by decide +kernel
theorem dXM_cut_40 : decode cXM_cut 40 = .ok (.invokevirtual 61, 3) := by decide +kernel
theorem dXM_cut_43 : decode cXM_cut 43 = .ok (.iconst 1, 1) := by decide +kernel
theorem dXM_cut_44 : decode cXM_cut 44 = .ok (.if_icmp .ne 7, 3) := by decide +kernel
theorem dXM_cut_47 : decode cXM_cut 47 = .ok (.iconst 1, 1) := by decide +kernel
theorem dXM_cut_48 : decode cXM_cut 48 = .ok (.goto 4, 3) := by decide +kernel
theorem dXM_cut_51 : decode cXM_cut 51 = .ok (.iconst 0, 1) := by decide +kernel
theorem dXM_cut_52 : decode cXM_cut 52 = .ok (.istore_n 1, 1) := by decide +kernel
theorem dXM_cut_53 : decode cXM_cut 53 = .ok (.iload_n 2, 1) := by decide +kernel
theorem dXM_cut_54 : decode cXM_cut 54 = .ok (.bipush 32, 2) := by decide +kernel
theorem dXM_cut_56 : decode cXM_cut 56 = .ok (.if_icmp .ne 10, 3) := by decide +kernel
theorem dXM_cut_59 : decode cXM_cut 59 = .ok (.bipush 96, 2) := by decide +kernel
theorem dXM_cut_61 : decode cXM_cut 61 = .ok (.iload_n 3, 1) := by decide +kernel
theorem dXM_cut_62 : decode cXM_cut 62 = .ok (.iadd, 1) := by decide +kernel
theorem dXM_cut_63 : decode cXM_cut 63 = .ok (.goto 4, 3) := by decide +kernel
theorem dXM_cut_66 : decode cXM_cut 66 = .ok (.iload_n 3, 1) := by decide +kernel
theorem dXM_cut_67 : decode cXM_cut 67 = .ok (.istore 4, 2) := by decide +kernel
theorem dXM_cut_69 : decode cXM_cut 69 = .ok (.aload_n 0, 1) := by decide +kernel
theorem dXM_cut_70 : decode cXM_cut 70 = .ok (.getfield 13, 3) := by decide +kernel
theorem dXM_cut_73 : decode cXM_cut 73 = .ok (.iload 4, 2) := by decide +kernel
theorem dXM_cut_75 : decode cXM_cut 75 = .ok (.bipush 8, 2) := by decide +kernel
theorem dXM_cut_77 : decode cXM_cut 77 = .ok (.idiv, 1) := by decide +kernel
theorem dXM_cut_78 : decode cXM_cut 78 = .ok (.dup2, 1) := by decide +kernel
theorem dXM_cut_79 : decode cXM_cut 79 = .ok (.iaload, 1) := by decide +kernel
theorem dXM_cut_80 : decode cXM_cut 80 = .ok (.sipush 128, 3) := by decide +kernel
theorem dXM_cut_83 : decode cXM_cut 83 = .ok (.iload 4, 2) := by decide +kernel
theorem dXM_cut_85 : decode cXM_cut 85 = .ok (.bipush 8, 2) := by decide +kernel
theorem dXM_cut_87 : decode cXM_cut 87 = .ok (.irem, 1) := by decide +kernel
theorem dXM_cut_88 : decode cXM_cut 88 = .ok (.ishr, 1) := by decide +kernel
theorem dXM_cut_89 : decode cXM_cut 89 = .ok (.iconst (-1), 1) := by decide +kernel
theorem dXM_cut_90 : decode cXM_cut 90 = .ok (.ixor, 1) := by decide +kernel
theorem dXM_cut_91 : decode cXM_cut 91 = .ok (.iand, 1) := by decide +kernel
theorem dXM_cut_92 : decode cXM_cut 92 = .ok (.iastore, 1) := by decide +kernel
theorem dXM_cut_93 : decode cXM_cut 93 = .ok (.iinc 3 1, 3) := by decide +kernel
theorem dXM_cut_96 : decode cXM_cut 96 = .ok (.goto (-68), 3) := by decide +kernel
theorem dXM_cut_99 : decode cXM_cut 99 = .ok (.iload_n 1, 1) := by decide +kernel
theorem dXM_cut_100 : decode cXM_cut 100 = .ok (.ireturn, 1) := by decide +kernel
theorem dXM_covers_0 : decode cXM_covers 0 = .ok (.aload_n 0, 1) := by decide +kernel
theorem dXM_covers_1 : decode cXM_covers 1 = .ok (.getfield 16, 3) := by decide +kernel
theorem dXM_covers_4 : decode cXM_covers 4 = .ok (.iconst 0, 1) := by decide +kernel
theorem dXM_covers_5 : decode cXM_covers 5 = .ok (.iaload, 1) := by decide +kernel
theorem dXM_covers_6 : decode cXM_covers 6 = .ok (.aload_n 0, 1) := by decide +kernel
theorem dXM_covers_7 : decode cXM_covers 7 = .ok (.getfield 16, 3) := by decide +kernel
theorem dXM_covers_10 : decode cXM_covers 10 = .ok (.iconst 1, 1) := by decide +kernel
theorem dXM_covers_11 : decode cXM_covers 11 = .ok (.iaload, 1) := by decide +kernel
theorem dXM_covers_12 : decode cXM_covers 12 = .ok (.if_icmp .ne 22, 3) := by decide +kernel
theorem dXM_covers_15 : decode cXM_covers 15 = .ok (.aload_n 0, 1) := by decide +kernel
theorem dXM_covers_16 : decode cXM_covers 16 = .ok (.getfield 19, 3) := by decide +kernel
theorem dXM_covers_19 : decode cXM_covers 19 = .ok (.iconst 0, 1) := by decide +kernel
theorem dXM_covers_20 : decode cXM_covers 20 = .ok (.iaload, 1) := by decide +kernel
theorem dXM_covers_21 : decode cXM_covers 21 = .ok (.aload_n 0, 1) := by decide +kernel
theorem dXM_covers_22 : decode cXM_covers 22 = .ok (.getfield 19, 3) := by decide +kernel
theorem dXM_covers_25 : decode cXM_covers 25 = .ok (.iconst 1, 1) := by decide +kernel
theorem dXM_covers_26 : decode cXM_covers 26 = .ok (.iaload, 1) := by decide +kernel
theorem dXM_covers_27 : decode cXM_covers 27 = .ok (.if_icmp .gt 7, 3) := by decide +kernel
theorem dXM_covers_30 : decode cXM_covers 30 = .ok (.iconst 1, 1) := by decide +kernel
theorem dXM_covers_31 : decode cXM_covers 31 = .ok (.goto 4, 3) := by decide +kernel
theorem dXM_covers_34 : decode cXM_covers 34 = .ok (.iconst 0, 1) := by decide +kernel
theorem dXM_covers_35 : decode cXM_covers 35 = .ok (.istore_n 1, 1) := by decide +kernel
theorem dXM_covers_36 : decode cXM_covers 36 = .ok (.iconst 0, 1) := by decide +kernel
theorem dXM_covers_37 : decode cXM_covers 37 = .ok (.istore_n 2, 1) := by decide +kernel
theorem dXM_covers_38 : decode cXM_covers 38 = .ok (.iload_n 2, 1) := by decide +kernel
theorem dXM_covers_39 : decode cXM_covers 39 = .ok (.aload_n 0, 1) := by decide +kernel
theorem dXM_covers_40 : decode cXM_covers 40 = .ok (.getfield 19, 3) := by decide +kernel
theorem dXM_covers_43 : decode cXM_covers 43 = .ok (.iconst 0, 1) := by decide +kernel
theorem dXM_covers_44 : decode cXM_covers 44 = .ok (.iaload, 1) := by decide +kernel
theorem dXM_covers_45 : decode cXM_covers 45 = .ok (.if_icmp .ge 34, 3) := by decide +kernel
theorem dXM_covers_48 : decode cXM_covers 48 = .ok (.iload_n 1, 1) := by decide +kernel
theorem dXM_covers_49 : decode cXM_covers 49 = .ok (.ifCond .eq 30, 3) := by decide +kernel
theorem dXM_covers_52 : decode cXM_covers 52 = .ok (.aload_n 0, 1) := by decide +kernel
theorem dXM_covers_53 : decode cXM_covers 53 = .ok (.iconst 0, 1) := by decide +kernel
theorem dXM_covers_54 : decode cXM_covers 54 = .ok (.iload_n 2, 1) := by decide +kernel
theorem dXM_covers_55 : decode cXM_covers 55 = .ok (.invokevirtual 61, 3) := by decide +kernel
theorem dXM_covers_58 : decode cXM_covers 58 = .ok (.aload_n 0, 1) := by decide +kernel
theorem dXM_covers_59 : decode cXM_covers 59 = .ok (.iconst 1, 1) := by decide +kernel
theorem dXM_covers_60 : decode cXM_covers 60 = .ok (.iload_n 2, 1) := by decide +kernel
theorem dXM_covers_61 : decode cXM_covers 61 = .ok (.invokevirtual 61, 3) := by decide +kernel
theorem dXM_covers_64 : decode cXM_covers 64 = .ok (.if_icmp .ne 7, 3) := by decide +kernel
theorem dXM_covers_67 : decode cXM_covers 67 = .ok (.iconst 1, 1) := by decide +kernel
theorem dXM_covers_68 : decode cXM_covers 68 = .ok (.goto 4, 3) := by decide +kernel
theorem dXM_covers_71 : decode cXM_covers 71 = .ok (.iconst 0, 1) := by decide +kernel
theorem dXM_covers_72 : decode cXM_covers 72 = .ok (.istore_n 1, 1) := by decide +kernel
theorem dXM_covers_73 : decode cXM_covers 73 = .ok (.iinc 2 1, 3) := by decide +kernel
theorem dXM_covers_76 : decode cXM_covers 76 = .ok (.goto (-38), 3) := by decide +kernel
theorem dXM_covers_79 : decode cXM_covers 79 = .ok (.iload_n 1, 1) := by decide +kernel
theorem dXM_covers_80 : decode cXM_covers 80 = .ok (.ireturn, 1) := by decide +kernel
theorem dXM_order_0 : decode cXM_order 0 = .ok (.aload_n 0, 1) := by decide +kernel
theorem dXM_order_1 : decode cXM_order 1 = .ok (.getfield 16, 3) := by decide +kernel
theorem dXM_order_4 : decode cXM_order 4 = .ok (.iconst 0, 1) := by decide +kernel
theorem dXM_order_5 : decode cXM_order 5 = .ok (.iaload, 1) := by decide +kernel
theorem dXM_order_6 : decode cXM_order 6 = .ok (.aload_n 0, 1) := by decide +kernel
theorem dXM_order_7 : decode cXM_order 7 = .ok (.getfield 16, 3) := by decide +kernel
theorem dXM_order_10 : decode cXM_order 10 = .ok (.iconst 1, 1) := by decide +kernel
theorem dXM_order_11 : decode cXM_order 11 = .ok (.iaload, 1) := by decide +kernel
theorem dXM_order_12 : decode cXM_order 12 = .ok (.if_icmp .eq 24, 3) := by decide +kernel
theorem dXM_order_15 : decode cXM_order 15 = .ok (.aload_n 0, 1) := by decide +kernel
theorem dXM_order_16 : decode cXM_order 16 = .ok (.getfield 16, 3) := by decide +kernel
theorem dXM_order_19 : decode cXM_order 19 = .ok (.iconst 0, 1) := by decide +kernel
theorem dXM_order_20 : decode cXM_order 20 = .ok (.iaload, 1) := by decide +kernel
theorem dXM_order_21 : decode cXM_order 21 = .ok (.aload_n 0, 1) := by decide +kernel
theorem dXM_order_22 : decode cXM_order 22 = .ok (.getfield 16, 3) := by decide +kernel
theorem dXM_order_25 : decode cXM_order 25 = .ok (.iconst 1, 1) := by decide +kernel
theorem dXM_order_26 : decode cXM_order 26 = .ok (.iaload, 1) := by decide +kernel
theorem dXM_order_27 : decode cXM_order 27 = .ok (.if_icmp .ge 7, 3) := by decide +kernel
theorem dXM_order_30 : decode cXM_order 30 = .ok (.iconst (-1), 1) := by decide +kernel
theorem dXM_order_31 : decode cXM_order 31 = .ok (.goto 4, 3) := by decide +kernel
theorem dXM_order_34 : decode cXM_order 34 = .ok (.iconst 1, 1) := by decide +kernel
theorem dXM_order_35 : decode cXM_order 35 = .ok (.ireturn, 1) := by decide +kernel
theorem dXM_order_36 : decode cXM_order 36 = .ok (.iconst 0, 1) := by decide +kernel
theorem dXM_order_37 : decode cXM_order 37 = .ok (.istore_n 1, 1) := by decide +kernel
theorem dXM_order_38 : decode cXM_order 38 = .ok (.iload_n 1, 1) := by decide +kernel
theorem dXM_order_39 : decode cXM_order 39 = .ok (.bipush 16, 2) := by decide +kernel
theorem dXM_order_41 : decode cXM_order 41 = .ok (.if_icmp .ge 51, 3) := by decide +kernel
theorem dXM_order_44 : decode cXM_order 44 = .ok (.aload_n 0, 1) := by decide +kernel
theorem dXM_order_45 : decode cXM_order 45 = .ok (.getfield 13, 3) := by decide +kernel
theorem dXM_order_48 : decode cXM_order 48 = .ok (.iload_n 1, 1) := by decide +kernel
theorem dXM_order_49 : decode cXM_order 49 = .ok (.iaload, 1) := by decide +kernel
theorem dXM_order_50 : decode cXM_order 50 = .ok (.aload_n 0, 1) := by decide +kernel
theorem dXM_order_51 : decode cXM_order 51 = .ok (.getfield 13, 3) := by decide +kernel
theorem dXM_order_54 : decode cXM_order 54 = .ok (.bipush 16, 2) := by decide +kernel
theorem dXM_order_56 : decode cXM_order 56 = .ok (.iload_n 1, 1) := by decide +kernel
theorem dXM_order_57 : decode cXM_order 57 = .ok (.iadd, 1) := by decide +kernel
theorem dXM_order_58 : decode cXM_order 58 = .ok (.iaload, 1) := by decide +kernel
theorem dXM_order_59 : decode cXM_order 59 = .ok (.if_icmp .eq 27, 3) := by decide +kernel
theorem dXM_order_62 : decode cXM_order 62 = .ok (.aload_n 0, 1) := by decide +kernel
theorem dXM_order_63 : decode cXM_order 63 = .ok (.getfield 13, 3) := by decide +kernel
theorem dXM_order_66 : decode cXM_order 66 = .ok (.iload_n 1, 1) := by decide +kernel
theorem dXM_order_67 : decode cXM_order 67 = .ok (.iaload, 1) := by decide +kernel
theorem dXM_order_68 : decode cXM_order 68 = .ok (.aload_n 0, 1) := by decide +kernel
theorem dXM_order_69 : decode cXM_order 69 = .ok (.getfield 13, 3) := by decide +kernel
theorem dXM_order_72 : decode cXM_order 72 = .ok (.bipush 16, 2) := by decide +kernel
theorem dXM_order_74 : decode cXM_order 74 = .ok (.iload_n 1, 1) := by decide +kernel
theorem dXM_order_75 : decode cXM_order 75 = .ok (.iadd, 1) := by decide +kernel
theorem dXM_order_76 : decode cXM_order 76 = .ok (.iaload, 1) := by decide +kernel
theorem dXM_order_77 : decode cXM_order 77 = .ok (.if_icmp .ge 7, 3) := by decide +kernel
theorem dXM_order_80 : decode cXM_order 80 = .ok (.iconst (-1), 1) := by decide +kernel
theorem dXM_order_81 : decode cXM_order 81 = .ok (.goto 4, 3) := by decide +kernel
theorem dXM_order_84 : decode cXM_order 84 = .ok (.iconst 1, 1) := by decide +kernel
theorem dXM_order_85 : decode cXM_order 85 = .ok (.ireturn, 1) := by decide +kernel
theorem dXM_order_86 : decode cXM_order 86 = .ok (.iinc 1 1, 3) := by decide +kernel
theorem dXM_order_89 : decode cXM_order 89 = .ok (.goto (-51), 3) := by decide +kernel
theorem dXM_order_92 : decode cXM_order 92 = .ok (.aload_n 0, 1) := by decide +kernel
theorem dXM_order_93 : decode cXM_order 93 = .ok (.getfield 19, 3) := by decide +kernel
theorem dXM_order_96 : decode cXM_order 96 = .ok (.iconst 0, 1) := by decide +kernel
theorem dXM_order_97 : decode cXM_order 97 = .ok (.iaload, 1) := by decide +kernel
theorem dXM_order_98 : decode cXM_order 98 = .ok (.aload_n 0, 1) := by decide +kernel
theorem dXM_order_99 : decode cXM_order 99 = .ok (.getfield 19, 3) := by decide +kernel
theorem dXM_order_102 : decode cXM_order 102 = .ok (.iconst 1, 1) := by decide +kernel
theorem dXM_order_103 : decode cXM_order 103 = .ok (.iaload, 1) := by decide +kernel
theorem dXM_order_104 : decode cXM_order 104 = .ok (.if_icmp .ge 7, 3) := by decide +kernel
theorem dXM_order_107 : decode cXM_order 107 = .ok (.iconst (-1), 1) := by decide +kernel
theorem dXM_order_108 : decode cXM_order 108 = .ok (.goto 23, 3) := by decide +kernel
theorem dXM_order_111 : decode cXM_order 111 = .ok (.aload_n 0, 1) := by decide +kernel
theorem dXM_order_112 : decode cXM_order 112 = .ok (.getfield 19, 3) := by decide +kernel
theorem dXM_order_115 : decode cXM_order 115 = .ok (.iconst 0, 1) := by decide +kernel
theorem dXM_order_116 : decode cXM_order 116 = .ok (.iaload, 1) := by decide +kernel
theorem dXM_order_117 : decode cXM_order 117 = .ok (.aload_n 0, 1) := by decide +kernel
theorem dXM_order_118 : decode cXM_order 118 = .ok (.getfield 19, 3) := by decide +kernel
theorem dXM_order_121 : decode cXM_order 121 = .ok (.iconst 1, 1) := by decide +kernel
theorem dXM_order_122 : decode cXM_order 122 = .ok (.iaload, 1) := by decide +kernel
theorem dXM_order_123 : decode cXM_order 123 = .ok (.if_icmp .le 7, 3) := by decide +kernel
theorem dXM_order_126 : decode cXM_order 126 = .ok (.iconst 1, 1) := by decide +kernel
theorem dXM_order_127 : decode cXM_order 127 = .ok (.goto 4, 3) := by decide +kernel
theorem dXM_order_130 : decode cXM_order 130 = .ok (.iconst 0, 1) := by decide +kernel
theorem dXM_order_131 : decode cXM_order 131 = .ok (.ireturn, 1) := by decide +kernel
theorem dXM_turn_0 : decode cXM_turn 0 = .ok (.iconst 0, 1) := by decide +kernel
theorem dXM_turn_1 : decode cXM_turn 1 = .ok (.istore_n 1, 1) := by decide +kernel
theorem dXM_turn_2 : decode cXM_turn 2 = .ok (.iload_n 1, 1) := by decide +kernel
theorem dXM_turn_3 : decode cXM_turn 3 = .ok (.bipush 16, 2) := by decide +kernel
theorem dXM_turn_5 : decode cXM_turn 5 = .ok (.if_icmp .ge 41, 3) := by decide +kernel
theorem dXM_turn_8 : decode cXM_turn 8 = .ok (.aload_n 0, 1) := by decide +kernel
theorem dXM_turn_9 : decode cXM_turn 9 = .ok (.getfield 13, 3) := by decide +kernel
theorem dXM_turn_12 : decode cXM_turn 12 = .ok (.iload_n 1, 1) := by decide +kernel
theorem dXM_turn_13 : decode cXM_turn 13 = .ok (.iaload, 1) := by decide +kernel
theorem dXM_turn_14 : decode cXM_turn 14 = .ok (.istore_n 2, 1) := by decide +kernel
theorem dXM_turn_15 : decode cXM_turn 15 = .ok (.aload_n 0, 1) := by decide +kernel
theorem dXM_turn_16 : decode cXM_turn 16 = .ok (.getfield 13, 3) := by decide +kernel
theorem dXM_turn_19 : decode cXM_turn 19 = .ok (.iload_n 1, 1) := by decide +kernel
theorem dXM_turn_20 : decode cXM_turn 20 = .ok (.aload_n 0, 1) := by decide +kernel
theorem dXM_turn_21 : decode cXM_turn 21 = .ok (.getfield 13, 3) := by decide +kernel
theorem dXM_turn_24 : decode cXM_turn 24 = .ok (.bipush 16, 2) := by decide +kernel
theorem dXM_turn_26 : decode cXM_turn 26 = .ok (.iload_n 1, 1) := by decide +kernel
theorem dXM_turn_27 : decode cXM_turn 27 = .ok (.iadd, 1) := by decide +kernel
theorem dXM_turn_28 : decode cXM_turn 28 = .ok (.iaload, 1) := by decide +kernel
theorem dXM_turn_29 : decode cXM_turn 29 = .ok (.iastore, 1) := by decide +kernel
theorem dXM_turn_30 : decode cXM_turn 30 = .ok (.aload_n 0, 1) := by decide +kernel
theorem dXM_turn_31 : decode cXM_turn 31 = .ok (.getfield 13, 3) := by decide +kernel
theorem dXM_turn_34 : decode cXM_turn 34 = .ok (.bipush 16, 2) := by decide +kernel
theorem dXM_turn_36 : decode cXM_turn 36 = .ok (.iload_n 1, 1) := by decide +kernel
theorem dXM_turn_37 : decode cXM_turn 37 = .ok (.iadd, 1) := by decide +kernel
theorem dXM_turn_38 : decode cXM_turn 38 = .ok (.iload_n 2, 1) := by decide +kernel
theorem dXM_turn_39 : decode cXM_turn 39 = .ok (.iastore, 1) := by decide +kernel
theorem dXM_turn_40 : decode cXM_turn 40 = .ok (.iinc 1 1, 3) := by decide +kernel
theorem dXM_turn_43 : decode cXM_turn 43 = .ok (.goto (-41), 3) := by decide +kernel
theorem dXM_turn_46 : decode cXM_turn 46 = .ok (.aload_n 0, 1) := by decide +kernel
theorem dXM_turn_47 : decode cXM_turn 47 = .ok (.getfield 16, 3) := by decide +kernel
theorem dXM_turn_50 : decode cXM_turn 50 = .ok (.iconst 0, 1) := by decide +kernel
theorem dXM_turn_51 : decode cXM_turn 51 = .ok (.iaload, 1) := by decide +kernel
theorem dXM_turn_52 : decode cXM_turn 52 = .ok (.istore_n 1, 1) := by decide +kernel
theorem dXM_turn_53 : decode cXM_turn 53 = .ok (.aload_n 0, 1) := by decide +kernel
theorem dXM_turn_54 : decode cXM_turn 54 = .ok (.getfield 16, 3) := by decide +kernel
theorem dXM_turn_57 : decode cXM_turn 57 = .ok (.iconst 0, 1) := by decide +kernel
theorem dXM_turn_58 : decode cXM_turn 58 = .ok (.aload_n 0, 1) := by decide +kernel
theorem dXM_turn_59 : decode cXM_turn 59 = .ok (.getfield 16, 3) := by decide +kernel
theorem dXM_turn_62 : decode cXM_turn 62 = .ok (.iconst 1, 1) := by decide +kernel
theorem dXM_turn_63 : decode cXM_turn 63 = .ok (.iaload, 1) := by decide +kernel
theorem dXM_turn_64 : decode cXM_turn 64 = .ok (.iastore, 1) := by decide +kernel
theorem dXM_turn_65 : decode cXM_turn 65 = .ok (.aload_n 0, 1) := by decide +kernel
theorem dXM_turn_66 : decode cXM_turn 66 = .ok (.getfield 16, 3) := by decide +kernel
theorem dXM_turn_69 : decode cXM_turn 69 = .ok (.iconst 1, 1) := by decide +kernel
theorem dXM_turn_70 : decode cXM_turn 70 = .ok (.iload_n 1, 1) := by decide +kernel
theorem dXM_turn_71 : decode cXM_turn 71 = .ok (.iastore, 1) := by decide +kernel
theorem dXM_turn_72 : decode cXM_turn 72 = .ok (.aload_n 0, 1) := by decide +kernel
theorem dXM_turn_73 : decode cXM_turn 73 = .ok (.getfield 19, 3) := by decide +kernel
theorem dXM_turn_76 : decode cXM_turn 76 = .ok (.iconst 0, 1) := by decide +kernel
theorem dXM_turn_77 : decode cXM_turn 77 = .ok (.iaload, 1) := by decide +kernel
theorem dXM_turn_78 : decode cXM_turn 78 = .ok (.istore_n 2, 1) := by decide +kernel
theorem dXM_turn_79 : decode cXM_turn 79 = .ok (.aload_n 0, 1) := by decide +kernel
theorem dXM_turn_80 : decode cXM_turn 80 = .ok (.getfield 19, 3) := by decide +kernel
theorem dXM_turn_83 : decode cXM_turn 83 = .ok (.iconst 0, 1) := by decide +kernel
theorem dXM_turn_84 : decode cXM_turn 84 = .ok (.aload_n 0, 1) := by decide +kernel
theorem dXM_turn_85 : decode cXM_turn 85 = .ok (.getfield 19, 3) := by decide +kernel
theorem dXM_turn_88 : decode cXM_turn 88 = .ok (.iconst 1, 1) := by decide +kernel
theorem dXM_turn_89 : decode cXM_turn 89 = .ok (.iaload, 1) := by decide +kernel
theorem dXM_turn_90 : decode cXM_turn 90 = .ok (.iastore, 1) := by decide +kernel
theorem dXM_turn_91 : decode cXM_turn 91 = .ok (.aload_n 0, 1) := by decide +kernel
theorem dXM_turn_92 : decode cXM_turn 92 = .ok (.getfield 19, 3) := by decide +kernel
theorem dXM_turn_95 : decode cXM_turn 95 = .ok (.iconst 1, 1) := by decide +kernel
theorem dXM_turn_96 : decode cXM_turn 96 = .ok (.iload_n 2, 1) := by decide +kernel
theorem dXM_turn_97 : decode cXM_turn 97 = .ok (.iastore, 1) := by decide +kernel
theorem dXM_turn_98 : decode cXM_turn 98 = .ok (.return_, 1) := by decide +kernel
theorem dXM_say_0 : decode cXM_say 0 = .ok (.aload_n 0, 1) := by decide +kernel
theorem dXM_say_1 : decode cXM_say 1 = .ok (.getfield 25, 3) := by decide +kernel
theorem dXM_say_4 : decode cXM_say 4 = .ok (.aload_n 0, 1) := by decide +kernel
theorem dXM_say_5 : decode cXM_say 5 = .ok (.getfield 65, 3) := by decide +kernel
theorem dXM_say_8 : decode cXM_say 8 = .ok (.iload_n 1, 1) := by decide +kernel
theorem dXM_say_9 : decode cXM_say 9 = .ok (.iastore, 1) := by decide +kernel
theorem dXM_say_10 : decode cXM_say 10 = .ok (.aload_n 0, 1) := by decide +kernel
theorem dXM_say_11 : decode cXM_say 11 = .ok (.dup, 1) := by decide +kernel
theorem dXM_say_12 : decode cXM_say 12 = .ok (.getfield 65, 3) := by decide +kernel
theorem dXM_say_15 : decode cXM_say 15 = .ok (.iconst 1, 1) := by decide +kernel
theorem dXM_say_16 : decode cXM_say 16 = .ok (.iadd, 1) := by decide +kernel
theorem dXM_say_17 : decode cXM_say 17 = .ok (.putfield 65, 3) := by decide +kernel
theorem dXM_say_20 : decode cXM_say 20 = .ok (.return_, 1) := by decide +kernel
theorem dXM_sayDecimal_0 : decode cXM_sayDecimal 0 = .ok (.iload_n 1, 1) := by decide +kernel
theorem dXM_sayDecimal_1 : decode cXM_sayDecimal 1 = .ok (.bipush 99, 2) := by decide +kernel
theorem dXM_sayDecimal_3 : decode cXM_sayDecimal 3 = .ok (.if_icmp .le 14, 3) := by decide +kernel
theorem dXM_sayDecimal_6 : decode cXM_sayDecimal 6 = .ok (.aload_n 0, 1) := by decide +kernel
theorem dXM_sayDecimal_7 : decode cXM_sayDecimal 7 = .ok (.bipush 48, 2) := by decide +kernel
theorem dXM_sayDecimal_9 : decode cXM_sayDecimal 9 = .ok (.iload_n 1, 1) := by decide +kernel
theorem dXM_sayDecimal_10 : decode cXM_sayDecimal 10 = .ok (.bipush 100, 2) := by decide +kernel
theorem dXM_sayDecimal_12 : decode cXM_sayDecimal 12 = .ok (.idiv, 1) := by decide +kernel
theorem dXM_sayDecimal_13 : decode cXM_sayDecimal 13 = .ok (.iadd, 1) := by decide +kernel
theorem dXM_sayDecimal_14 : decode cXM_sayDecimal 14 = .ok (.invokevirtual 68, 3) := by decide +kernel
theorem dXM_sayDecimal_17 : decode cXM_sayDecimal 17 = .ok (.iload_n 1, 1) := by decide +kernel
theorem dXM_sayDecimal_18 : decode cXM_sayDecimal 18 = .ok (.bipush 9, 2) := by decide +kernel
theorem dXM_sayDecimal_20 : decode cXM_sayDecimal 20 = .ok (.if_icmp .le 17, 3) := by decide +kernel
theorem dXM_sayDecimal_23 : decode cXM_sayDecimal 23 = .ok (.aload_n 0, 1) := by decide +kernel
theorem dXM_sayDecimal_24 : decode cXM_sayDecimal 24 = .ok (.bipush 48, 2) := by decide +kernel
theorem dXM_sayDecimal_26 : decode cXM_sayDecimal 26 = .ok (.iload_n 1, 1) := by decide +kernel
theorem dXM_sayDecimal_27 : decode cXM_sayDecimal 27 = .ok (.bipush 10, 2) := by decide +kernel
theorem dXM_sayDecimal_29 : decode cXM_sayDecimal 29 = .ok (.idiv, 1) := by decide +kernel
theorem dXM_sayDecimal_30 : decode cXM_sayDecimal 30 = .ok (.bipush 10, 2) := by decide +kernel
theorem dXM_sayDecimal_32 : decode cXM_sayDecimal 32 = .ok (.irem, 1) := by decide +kernel
theorem dXM_sayDecimal_33 : decode cXM_sayDecimal 33 = .ok (.iadd, 1) := by decide +kernel
theorem dXM_sayDecimal_34 : decode cXM_sayDecimal 34 = .ok (.invokevirtual 68, 3) := by decide +kernel
theorem dXM_sayDecimal_37 : decode cXM_sayDecimal 37 = .ok (.aload_n 0, 1) := by decide +kernel
theorem dXM_sayDecimal_38 : decode cXM_sayDecimal 38 = .ok (.bipush 48, 2) := by decide +kernel
theorem dXM_sayDecimal_40 : decode cXM_sayDecimal 40 = .ok (.iload_n 1, 1) := by decide +kernel
theorem dXM_sayDecimal_41 : decode cXM_sayDecimal 41 = .ok (.bipush 10, 2) := by decide +kernel
theorem dXM_sayDecimal_43 : decode cXM_sayDecimal 43 = .ok (.irem, 1) := by decide +kernel
theorem dXM_sayDecimal_44 : decode cXM_sayDecimal 44 = .ok (.iadd, 1) := by decide +kernel
theorem dXM_sayDecimal_45 : decode cXM_sayDecimal 45 = .ok (.invokevirtual 68, 3) := by decide +kernel
theorem dXM_sayDecimal_48 : decode cXM_sayDecimal 48 = .ok (.return_, 1) := by decide +kernel
theorem dXM_sayPart_0 : decode cXM_sayPart 0 = .ok (.bipush 12, 2) := by decide +kernel
theorem dXM_sayPart_2 : decode cXM_sayPart 2 = .ok (.istore_n 2, 1) := by decide +kernel
theorem dXM_sayPart_3 : decode cXM_sayPart 3 = .ok (.iload_n 2, 1) := by decide +kernel
theorem dXM_sayPart_4 : decode cXM_sayPart 4 = .ok (.ifCond .lt 55, 3) := by decide +kernel
theorem dXM_sayPart_7 : decode cXM_sayPart 7 = .ok (.iload_n 1, 1) := by decide +kernel
theorem dXM_sayPart_8 : decode cXM_sayPart 8 = .ok (.iload_n 2, 1) := by decide +kernel
theorem dXM_sayPart_9 : decode cXM_sayPart 9 = .ok (.ishr, 1) := by decide +kernel
theorem dXM_sayPart_10 : decode cXM_sayPart 10 = .ok (.ifCond .gt 7, 3) := by decide +kernel
theorem dXM_sayPart_13 : decode cXM_sayPart 13 = .ok (.iload_n 2, 1) := by decide +kernel
theorem dXM_sayPart_14 : decode cXM_sayPart 14 = .ok (.ifCond .ne 39, 3) := by decide +kernel
theorem dXM_sayPart_17 : decode cXM_sayPart 17 = .ok (.aload_n 0, 1) := by decide +kernel
theorem dXM_sayPart_18 : decode cXM_sayPart 18 = .ok (.iload_n 1, 1) := by decide +kernel
theorem dXM_sayPart_19 : decode cXM_sayPart 19 = .ok (.iload_n 2, 1) := by decide +kernel
theorem dXM_sayPart_20 : decode cXM_sayPart 20 = .ok (.ishr, 1) := by decide +kernel
theorem dXM_sayPart_21 : decode cXM_sayPart 21 = .ok (.bipush 15, 2) := by decide +kernel
theorem dXM_sayPart_23 : decode cXM_sayPart 23 = .ok (.iand, 1) := by decide +kernel
theorem dXM_sayPart_24 : decode cXM_sayPart 24 = .ok (.bipush 10, 2) := by decide +kernel
theorem dXM_sayPart_26 : decode cXM_sayPart 26 = .ok (.if_icmp .ge 15, 3) := by decide +kernel
theorem dXM_sayPart_29 : decode cXM_sayPart 29 = .ok (.bipush 48, 2) := by decide +kernel
theorem dXM_sayPart_31 : decode cXM_sayPart 31 = .ok (.iload_n 1, 1) := by decide +kernel
theorem dXM_sayPart_32 : decode cXM_sayPart 32 = .ok (.iload_n 2, 1) := by decide +kernel
theorem dXM_sayPart_33 : decode cXM_sayPart 33 = .ok (.ishr, 1) := by decide +kernel
theorem dXM_sayPart_34 : decode cXM_sayPart 34 = .ok (.bipush 15, 2) := by decide +kernel
theorem dXM_sayPart_36 : decode cXM_sayPart 36 = .ok (.iand, 1) := by decide +kernel
theorem dXM_sayPart_37 : decode cXM_sayPart 37 = .ok (.iadd, 1) := by decide +kernel
theorem dXM_sayPart_38 : decode cXM_sayPart 38 = .ok (.goto 12, 3) := by decide +kernel
theorem dXM_sayPart_41 : decode cXM_sayPart 41 = .ok (.bipush 87, 2) := by decide +kernel
theorem dXM_sayPart_43 : decode cXM_sayPart 43 = .ok (.iload_n 1, 1) := by decide +kernel
theorem dXM_sayPart_44 : decode cXM_sayPart 44 = .ok (.iload_n 2, 1) := by decide +kernel
theorem dXM_sayPart_45 : decode cXM_sayPart 45 = .ok (.ishr, 1) := by decide +kernel
theorem dXM_sayPart_46 : decode cXM_sayPart 46 = .ok (.bipush 15, 2) := by decide +kernel
theorem dXM_sayPart_48 : decode cXM_sayPart 48 = .ok (.iand, 1) := by decide +kernel
theorem dXM_sayPart_49 : decode cXM_sayPart 49 = .ok (.iadd, 1) := by decide +kernel
theorem dXM_sayPart_50 : decode cXM_sayPart 50 = .ok (.invokevirtual 68, 3) := by decide +kernel
theorem dXM_sayPart_53 : decode cXM_sayPart 53 = .ok (.iinc 2 (-4), 3) := by decide +kernel
theorem dXM_sayPart_56 : decode cXM_sayPart 56 = .ok (.goto (-53), 3) := by decide +kernel
theorem dXM_sayPart_59 : decode cXM_sayPart 59 = .ok (.return_, 1) := by decide +kernel
theorem dXM_part_0 : decode cXM_part 0 = .ok (.aload_n 0, 1) := by decide +kernel
theorem dXM_part_1 : decode cXM_part 1 = .ok (.getfield 13, 3) := by decide +kernel
theorem dXM_part_4 : decode cXM_part 4 = .ok (.iconst 2, 1) := by decide +kernel
theorem dXM_part_5 : decode cXM_part 5 = .ok (.iload_n 1, 1) := by decide +kernel
theorem dXM_part_6 : decode cXM_part 6 = .ok (.imul, 1) := by decide +kernel
theorem dXM_part_7 : decode cXM_part 7 = .ok (.iaload, 1) := by decide +kernel
theorem dXM_part_8 : decode cXM_part 8 = .ok (.bipush 8, 2) := by decide +kernel
theorem dXM_part_10 : decode cXM_part 10 = .ok (.ishl, 1) := by decide +kernel
theorem dXM_part_11 : decode cXM_part 11 = .ok (.aload_n 0, 1) := by decide +kernel
theorem dXM_part_12 : decode cXM_part 12 = .ok (.getfield 13, 3) := by decide +kernel
theorem dXM_part_15 : decode cXM_part 15 = .ok (.iconst 2, 1) := by decide +kernel
theorem dXM_part_16 : decode cXM_part 16 = .ok (.iload_n 1, 1) := by decide +kernel
theorem dXM_part_17 : decode cXM_part 17 = .ok (.imul, 1) := by decide +kernel
theorem dXM_part_18 : decode cXM_part 18 = .ok (.iconst 1, 1) := by decide +kernel
theorem dXM_part_19 : decode cXM_part 19 = .ok (.iadd, 1) := by decide +kernel
theorem dXM_part_20 : decode cXM_part 20 = .ok (.iaload, 1) := by decide +kernel
theorem dXM_part_21 : decode cXM_part 21 = .ok (.ior, 1) := by decide +kernel
theorem dXM_part_22 : decode cXM_part 22 = .ok (.ireturn, 1) := by decide +kernel
theorem dXM_noughts_0 : decode cXM_noughts 0 = .ok (.iload_n 1, 1) := by decide +kernel
theorem dXM_noughts_1 : decode cXM_noughts 1 = .ok (.istore_n 2, 1) := by decide +kernel
theorem dXM_noughts_2 : decode cXM_noughts 2 = .ok (.iload_n 2, 1) := by decide +kernel
theorem dXM_noughts_3 : decode cXM_noughts 3 = .ok (.bipush 8, 2) := by decide +kernel
theorem dXM_noughts_5 : decode cXM_noughts 5 = .ok (.if_icmp .ge 17, 3) := by decide +kernel
theorem dXM_noughts_8 : decode cXM_noughts 8 = .ok (.aload_n 0, 1) := by decide +kernel
theorem dXM_noughts_9 : decode cXM_noughts 9 = .ok (.iload_n 2, 1) := by decide +kernel
theorem dXM_noughts_10 : decode cXM_noughts 10 = .ok (.invokevirtual 71, 3) := by decide +kernel
theorem dXM_noughts_13 : decode cXM_noughts 13 = .ok (.ifCond .ne 9, 3) := by decide +kernel
theorem dXM_noughts_16 : decode cXM_noughts 16 = .ok (.iinc 2 1, 3) := by decide +kernel
theorem dXM_noughts_19 : decode cXM_noughts 19 = .ok (.goto (-17), 3) := by decide +kernel
theorem dXM_noughts_22 : decode cXM_noughts 22 = .ok (.iload_n 2, 1) := by decide +kernel
theorem dXM_noughts_23 : decode cXM_noughts 23 = .ok (.iload_n 1, 1) := by decide +kernel
theorem dXM_noughts_24 : decode cXM_noughts 24 = .ok (.isub, 1) := by decide +kernel
theorem dXM_noughts_25 : decode cXM_noughts 25 = .ok (.ireturn, 1) := by decide +kernel
theorem dXM_write_0 : decode cXM_write 0 = .ok (.aload_n 0, 1) := by decide +kernel
theorem dXM_write_1 : decode cXM_write 1 = .ok (.iconst 0, 1) := by decide +kernel
theorem dXM_write_2 : decode cXM_write 2 = .ok (.putfield 65, 3) := by decide +kernel
theorem dXM_write_5 : decode cXM_write 5 = .ok (.aload_n 0, 1) := by decide +kernel
theorem dXM_write_6 : decode cXM_write 6 = .ok (.getfield 16, 3) := by decide +kernel
theorem dXM_write_9 : decode cXM_write 9 = .ok (.iconst 0, 1) := by decide +kernel
theorem dXM_write_10 : decode cXM_write 10 = .ok (.iaload, 1) := by decide +kernel
theorem dXM_write_11 : decode cXM_write 11 = .ok (.iconst 4, 1) := by decide +kernel
theorem dXM_write_12 : decode cXM_write 12 = .ok (.if_icmp .ne 44, 3) := by decide +kernel
theorem dXM_write_15 : decode cXM_write 15 = .ok (.iconst 0, 1) := by decide +kernel
theorem dXM_write_16 : decode cXM_write 16 = .ok (.istore_n 1, 1) := by decide +kernel
theorem dXM_write_17 : decode cXM_write 17 = .ok (.iload_n 1, 1) := by decide +kernel
theorem dXM_write_18 : decode cXM_write 18 = .ok (.iconst 4, 1) := by decide +kernel
theorem dXM_write_19 : decode cXM_write 19 = .ok (.if_icmp .ge 32, 3) := by decide +kernel
theorem dXM_write_22 : decode cXM_write 22 = .ok (.iload_n 1, 1) := by decide +kernel
theorem dXM_write_23 : decode cXM_write 23 = .ok (.ifCond .le 9, 3) := by decide +kernel
theorem dXM_write_26 : decode cXM_write 26 = .ok (.aload_n 0, 1) := by decide +kernel
theorem dXM_write_27 : decode cXM_write 27 = .ok (.bipush 46, 2) := by decide +kernel
theorem dXM_write_29 : decode cXM_write 29 = .ok (.invokevirtual 68, 3) := by decide +kernel
theorem dXM_write_32 : decode cXM_write 32 = .ok (.aload_n 0, 1) := by decide +kernel
theorem dXM_write_33 : decode cXM_write 33 = .ok (.aload_n 0, 1) := by decide +kernel
theorem dXM_write_34 : decode cXM_write 34 = .ok (.getfield 13, 3) := by decide +kernel
theorem dXM_write_37 : decode cXM_write 37 = .ok (.bipush 12, 2) := by decide +kernel
theorem dXM_write_39 : decode cXM_write 39 = .ok (.iload_n 1, 1) := by decide +kernel
theorem dXM_write_40 : decode cXM_write 40 = .ok (.iadd, 1) := by decide +kernel
theorem dXM_write_41 : decode cXM_write 41 = .ok (.iaload, 1) := by decide +kernel
theorem dXM_write_42 : decode cXM_write 42 = .ok (.invokevirtual 74, 3) := by decide +kernel
theorem dXM_write_45 : decode cXM_write 45 = .ok (.iinc 1 1, 3) := by decide +kernel
theorem dXM_write_48 : decode cXM_write 48 = .ok (.goto (-31), 3) := by decide +kernel
theorem dXM_write_51 : decode cXM_write 51 = .ok (.aload_n 0, 1) := by decide +kernel
theorem dXM_write_52 : decode cXM_write 52 = .ok (.getfield 65, 3) := by decide +kernel
theorem dXM_write_55 : decode cXM_write 55 = .ok (.ireturn, 1) := by decide +kernel
theorem dXM_write_56 : decode cXM_write 56 = .ok (.iconst 0, 1) := by decide +kernel
theorem dXM_write_57 : decode cXM_write 57 = .ok (.istore_n 1, 1) := by decide +kernel
theorem dXM_write_58 : decode cXM_write 58 = .ok (.iconst 1, 1) := by decide +kernel
theorem dXM_write_59 : decode cXM_write 59 = .ok (.istore_n 2, 1) := by decide +kernel
theorem dXM_write_60 : decode cXM_write 60 = .ok (.iload_n 2, 1) := by decide +kernel
theorem dXM_write_61 : decode cXM_write 61 = .ok (.bipush 8, 2) := by decide +kernel
theorem dXM_write_63 : decode cXM_write 63 = .ok (.if_icmp .ge 28, 3) := by decide +kernel
theorem dXM_write_66 : decode cXM_write 66 = .ok (.aload_n 0, 1) := by decide +kernel
theorem dXM_write_67 : decode cXM_write 67 = .ok (.iload_n 2, 1) := by decide +kernel
theorem dXM_write_68 : decode cXM_write 68 = .ok (.invokevirtual 77, 3) := by decide +kernel
theorem dXM_write_71 : decode cXM_write 71 = .ok (.aload_n 0, 1) := by decide +kernel
theorem dXM_write_72 : decode cXM_write 72 = .ok (.iload_n 1, 1) := by decide +kernel
theorem dXM_write_73 : decode cXM_write 73 = .ok (.invokevirtual 77, 3) := by decide +kernel
theorem dXM_write_76 : decode cXM_write 76 = .ok (.if_icmp .le 7, 3) := by decide +kernel
theorem dXM_write_79 : decode cXM_write 79 = .ok (.iload_n 2, 1) := by decide +kernel
theorem dXM_write_80 : decode cXM_write 80 = .ok (.goto 4, 3) := by decide +kernel
theorem dXM_write_83 : decode cXM_write 83 = .ok (.iload_n 1, 1) := by decide +kernel
theorem dXM_write_84 : decode cXM_write 84 = .ok (.istore_n 1, 1) := by decide +kernel
theorem dXM_write_85 : decode cXM_write 85 = .ok (.iinc 2 1, 3) := by decide +kernel
theorem dXM_write_88 : decode cXM_write 88 = .ok (.goto (-28), 3) := by decide +kernel
theorem dXM_write_91 : decode cXM_write 91 = .ok (.aload_n 0, 1) := by decide +kernel
theorem dXM_write_92 : decode cXM_write 92 = .ok (.iload_n 1, 1) := by decide +kernel
theorem dXM_write_93 : decode cXM_write 93 = .ok (.invokevirtual 77, 3) := by decide +kernel
theorem dXM_write_96 : decode cXM_write 96 = .ok (.iconst 1, 1) := by decide +kernel
theorem dXM_write_97 : decode cXM_write 97 = .ok (.if_icmp .le 11, 3) := by decide +kernel
theorem dXM_write_100 : decode cXM_write 100 = .ok (.aload_n 0, 1) := by decide +kernel
theorem dXM_write_101 : decode cXM_write 101 = .ok (.iload_n 1, 1) := by decide +kernel
theorem dXM_write_102 : decode cXM_write 102 = .ok (.invokevirtual 77, 3) := by decide +kernel
theorem dXM_write_105 : decode cXM_write 105 = .ok (.goto 4, 3) := by decide +kernel
theorem dXM_write_108 : decode cXM_write 108 = .ok (.iconst 0, 1) := by decide +kernel
theorem dXM_write_109 : decode cXM_write 109 = .ok (.istore_n 2, 1) := by decide +kernel
theorem dXM_write_110 : decode cXM_write 110 = .ok (.iconst 0, 1) := by decide +kernel
theorem dXM_write_111 : decode cXM_write 111 = .ok (.istore_n 3, 1) := by decide +kernel
theorem dXM_write_112 : decode cXM_write 112 = .ok (.iload_n 3, 1) := by decide +kernel
theorem dXM_write_113 : decode cXM_write 113 = .ok (.bipush 8, 2) := by decide +kernel
theorem dXM_write_115 : decode cXM_write 115 = .ok (.if_icmp .ge 84, 3) := by decide +kernel
theorem dXM_write_118 : decode cXM_write 118 = .ok (.iload_n 2, 1) := by decide +kernel
theorem dXM_write_119 : decode cXM_write 119 = .ok (.ifCond .le 44, 3) := by decide +kernel
theorem dXM_write_122 : decode cXM_write 122 = .ok (.iload_n 3, 1) := by decide +kernel
theorem dXM_write_123 : decode cXM_write 123 = .ok (.iload_n 1, 1) := by decide +kernel
theorem dXM_write_124 : decode cXM_write 124 = .ok (.if_icmp .lt 39, 3) := by decide +kernel
theorem dXM_write_127 : decode cXM_write 127 = .ok (.iload_n 3, 1) := by decide +kernel
theorem dXM_write_128 : decode cXM_write 128 = .ok (.iload_n 1, 1) := by decide +kernel
theorem dXM_write_129 : decode cXM_write 129 = .ok (.iload_n 2, 1) := by decide +kernel
theorem dXM_write_130 : decode cXM_write 130 = .ok (.iadd, 1) := by decide +kernel
theorem dXM_write_131 : decode cXM_write 131 = .ok (.if_icmp .ge 32, 3) := by decide +kernel
theorem dXM_write_134 : decode cXM_write 134 = .ok (.iload_n 3, 1) := by decide +kernel
theorem dXM_write_135 : decode cXM_write 135 = .ok (.iload_n 1, 1) := by decide +kernel
theorem dXM_write_136 : decode cXM_write 136 = .ok (.if_icmp .ne 9, 3) := by decide +kernel
theorem dXM_write_139 : decode cXM_write 139 = .ok (.aload_n 0, 1) := by decide +kernel
theorem dXM_write_140 : decode cXM_write 140 = .ok (.bipush 58, 2) := by decide +kernel
theorem dXM_write_142 : decode cXM_write 142 = .ok (.invokevirtual 68, 3) := by decide +kernel
theorem dXM_write_145 : decode cXM_write 145 = .ok (.iload_n 3, 1) := by decide +kernel
theorem dXM_write_146 : decode cXM_write 146 = .ok (.iload_n 1, 1) := by decide +kernel
theorem dXM_write_147 : decode cXM_write 147 = .ok (.iload_n 2, 1) := by decide +kernel
theorem dXM_write_148 : decode cXM_write 148 = .ok (.iadd, 1) := by decide +kernel
theorem dXM_write_149 : decode cXM_write 149 = .ok (.iconst 1, 1) := by decide +kernel
theorem dXM_write_150 : decode cXM_write 150 = .ok (.isub, 1) := by decide +kernel
theorem dXM_write_151 : decode cXM_write 151 = .ok (.if_icmp .ne 42, 3) := by decide +kernel
theorem dXM_write_154 : decode cXM_write 154 = .ok (.aload_n 0, 1) := by decide +kernel
theorem dXM_write_155 : decode cXM_write 155 = .ok (.bipush 58, 2) := by decide +kernel
theorem dXM_write_157 : decode cXM_write 157 = .ok (.invokevirtual 68, 3) := by decide +kernel
theorem dXM_write_160 : decode cXM_write 160 = .ok (.goto 33, 3) := by decide +kernel
theorem dXM_write_163 : decode cXM_write 163 = .ok (.iload_n 3, 1) := by decide +kernel
theorem dXM_write_164 : decode cXM_write 164 = .ok (.ifCond .le 20, 3) := by decide +kernel
theorem dXM_write_167 : decode cXM_write 167 = .ok (.iload_n 2, 1) := by decide +kernel
theorem dXM_write_168 : decode cXM_write 168 = .ok (.ifCond .le 10, 3) := by decide +kernel
theorem dXM_write_171 : decode cXM_write 171 = .ok (.iload_n 3, 1) := by decide +kernel
theorem dXM_write_172 : decode cXM_write 172 = .ok (.iload_n 1, 1) := by decide +kernel
theorem dXM_write_173 : decode cXM_write 173 = .ok (.iload_n 2, 1) := by decide +kernel
theorem dXM_write_174 : decode cXM_write 174 = .ok (.iadd, 1) := by decide +kernel
theorem dXM_write_175 : decode cXM_write 175 = .ok (.if_icmp .eq 9, 3) := by decide +kernel
theorem dXM_write_178 : decode cXM_write 178 = .ok (.aload_n 0, 1) := by decide +kernel
theorem dXM_write_179 : decode cXM_write 179 = .ok (.bipush 58, 2) := by decide +kernel
theorem dXM_write_181 : decode cXM_write 181 = .ok (.invokevirtual 68, 3) := by decide +kernel
theorem dXM_write_184 : decode cXM_write 184 = .ok (.aload_n 0, 1) := by decide +kernel
theorem dXM_write_185 : decode cXM_write 185 = .ok (.aload_n 0, 1) := by decide +kernel
theorem dXM_write_186 : decode cXM_write 186 = .ok (.iload_n 3, 1) := by decide +kernel
theorem dXM_write_187 : decode cXM_write 187 = .ok (.invokevirtual 71, 3) := by decide +kernel
theorem dXM_write_190 : decode cXM_write 190 = .ok (.invokevirtual 80, 3) := by decide +kernel
theorem dXM_write_193 : decode cXM_write 193 = .ok (.iinc 3 1, 3) := by decide +kernel
theorem dXM_write_196 : decode cXM_write 196 = .ok (.goto (-84), 3) := by decide +kernel
theorem dXM_write_199 : decode cXM_write 199 = .ok (.aload_n 0, 1) := by decide +kernel
theorem dXM_write_200 : decode cXM_write 200 = .ok (.getfield 65, 3) := by decide +kernel
theorem dXM_write_203 : decode cXM_write 203 = .ok (.ireturn, 1) := by decide +kernel
theorem dXM_writtenAt_0 : decode cXM_writtenAt 0 = .ok (.iload_n 1, 1) := by decide +kernel
theorem dXM_writtenAt_1 : decode cXM_writtenAt 1 = .ok (.ifCond .lt 11, 3) := by decide +kernel
theorem dXM_writtenAt_4 : decode cXM_writtenAt 4 = .ok (.iload_n 1, 1) := by decide +kernel
theorem dXM_writtenAt_5 : decode cXM_writtenAt 5 = .ok (.aload_n 0, 1) := by decide +kernel
theorem dXM_writtenAt_6 : decode cXM_writtenAt 6 = .ok (.getfield 65, 3) := by decide +kernel
theorem dXM_writtenAt_9 : decode cXM_writtenAt 9 = .ok (.if_icmp .lt 7, 3) := by decide +kernel
theorem dXM_writtenAt_12 : decode cXM_writtenAt 12 = .ok (.iconst (-1), 1) := by decide +kernel
theorem dXM_writtenAt_13 : decode cXM_writtenAt 13 = .ok (.goto 9, 3) := by decide +kernel
theorem dXM_writtenAt_16 : decode cXM_writtenAt 16 = .ok (.aload_n 0, 1) := by decide +kernel
theorem dXM_writtenAt_17 : decode cXM_writtenAt 17 = .ok (.getfield 25, 3) := by decide +kernel
theorem dXM_writtenAt_20 : decode cXM_writtenAt 20 = .ok (.iload_n 1, 1) := by decide +kernel
theorem dXM_writtenAt_21 : decode cXM_writtenAt 21 = .ok (.iaload, 1) := by decide +kernel
theorem dXM_writtenAt_22 : decode cXM_writtenAt 22 = .ok (.ireturn, 1) := by decide +kernel
theorem dXM_bits_0 : decode cXM_bits 0 = .ok (.iload_n 1, 1) := by decide +kernel
theorem dXM_bits_1 : decode cXM_bits 1 = .ok (.ifCond .eq 10, 3) := by decide +kernel
theorem dXM_bits_4 : decode cXM_bits 4 = .ok (.iload_n 1, 1) := by decide +kernel
theorem dXM_bits_5 : decode cXM_bits 5 = .ok (.iconst 1, 1) := by decide +kernel
theorem dXM_bits_6 : decode cXM_bits 6 = .ok (.if_icmp .eq 5, 3) := by decide +kernel
theorem dXM_bits_9 : decode cXM_bits 9 = .ok (.lconst 0, 1) := by decide +kernel
theorem dXM_bits_10 : decode cXM_bits 10 = .ok (.lreturn, 1) := by decide +kernel
theorem dXM_bits_11 : decode cXM_bits 11 = .ok (.lconst 0, 1) := by decide +kernel
theorem dXM_bits_12 : decode cXM_bits 12 = .ok (.lstore_n 2, 1) := by decide +kernel
theorem dXM_bits_13 : decode cXM_bits 13 = .ok (.iconst 0, 1) := by decide +kernel
theorem dXM_bits_14 : decode cXM_bits 14 = .ok (.istore 4, 2) := by decide +kernel
theorem dXM_bits_16 : decode cXM_bits 16 = .ok (.iload 4, 2) := by decide +kernel
theorem dXM_bits_18 : decode cXM_bits 18 = .ok (.bipush 8, 2) := by decide +kernel
theorem dXM_bits_20 : decode cXM_bits 20 = .ok (.if_icmp .ge 28, 3) := by decide +kernel
theorem dXM_bits_23 : decode cXM_bits 23 = .ok (.lload_n 2, 1) := by decide +kernel
theorem dXM_bits_24 : decode cXM_bits 24 = .ok (.bipush 8, 2) := by decide +kernel
theorem dXM_bits_26 : decode cXM_bits 26 = .ok (.lshl, 1) := by decide +kernel
theorem dXM_bits_27 : decode cXM_bits 27 = .ok (.aload_n 0, 1) := by decide +kernel
theorem dXM_bits_28 : decode cXM_bits 28 = .ok (.getfield 13, 3) := by decide +kernel
theorem dXM_bits_31 : decode cXM_bits 31 = .ok (.bipush 8, 2) := by decide +kernel
theorem dXM_bits_33 : decode cXM_bits 33 = .ok (.iload_n 1, 1) := by decide +kernel
theorem dXM_bits_34 : decode cXM_bits 34 = .ok (.imul, 1) := by decide +kernel
theorem dXM_bits_35 : decode cXM_bits 35 = .ok (.iload 4, 2) := by decide +kernel
theorem dXM_bits_37 : decode cXM_bits 37 = .ok (.iadd, 1) := by decide +kernel
theorem dXM_bits_38 : decode cXM_bits 38 = .ok (.iaload, 1) := by decide +kernel
theorem dXM_bits_39 : decode cXM_bits 39 = .ok (.i2l, 1) := by decide +kernel
theorem dXM_bits_40 : decode cXM_bits 40 = .ok (.lor, 1) := by decide +kernel
theorem dXM_bits_41 : decode cXM_bits 41 = .ok (.lstore_n 2, 1) := by decide +kernel
theorem dXM_bits_42 : decode cXM_bits 42 = .ok (.iinc 4 1, 3) := by decide +kernel
theorem dXM_bits_45 : decode cXM_bits 45 = .ok (.goto (-29), 3) := by decide +kernel
theorem dXM_bits_48 : decode cXM_bits 48 = .ok (.lload_n 2, 1) := by decide +kernel
theorem dXM_bits_49 : decode cXM_bits 49 = .ok (.lreturn, 1) := by decide +kernel
set_option maxRecDepth 20000 in
theorem ggXM_feed_XM_lay : GoodIn wsXM_feed wsXM_lay := goodIn_r _ [6, 7, 1, 8, 9, 10, 11, 12, 13, 14, 15, 16, 17] (by decide +kernel) (by decide +kernel)
set_option maxRecDepth 20000 in
theorem gXM_feed_XM_lay : GoodIn wsXM_feed (wsV RXM 32 RXM yXM_lay wsXM_lay) := goodIn_app (goodIn_of _ (by decide +kernel)) ggXM_feed_XM_lay
set_option maxRecDepth 20000 in
theorem ggXM_hexadecimal_XM_isDigit : GoodIn wsXM_hexadecimal wsXM_isDigit := goodIn_r _ [4, 5, 6, 7, 8, 9, 10, 11, 12, 13, 14] (by decide +kernel) (by decide +kernel)
set_option maxRecDepth 20000 in
theorem gXM_hexadecimal_XM_isDigit : GoodIn wsXM_hexadecimal (wsS RXM 36 yXM_isDigit wsXM_isDigit) := goodIn_app (goodIn_of _ (by decide +kernel)) ggXM_hexadecimal_XM_isDigit
set_option maxRecDepth 20000 in
theorem ggXM_decimal_XM_isDigit : GoodIn wsXM_decimal wsXM_isDigit := goodIn_r _ [5, 6, 7, 8, 9, 10, 11, 12, 13, 14, 15] (by decide +kernel) (by decide +kernel)
set_option maxRecDepth 20000 in
theorem gXM_decimal_XM_isDigit : GoodIn wsXM_decimal (wsS RXM 36 yXM_isDigit wsXM_isDigit) := goodIn_app (goodIn_of _ (by decide +kernel)) ggXM_decimal_XM_isDigit
set_option maxRecDepth 20000 in
theorem ggXM_isFour_XM_decimal : GoodIn wsXM_isFour wsXM_decimal := goodIn_r _ [9, 3, 10, 11, 7, 12, 13, 14, 15, 16, 17, 18, 19, 20, 21, 22] (by decide +kernel) (by decide +kernel)
set_option maxRecDepth 20000 in
theorem gXM_isFour_XM_decimal : GoodIn wsXM_isFour (wsV RXM 43 RXM yXM_decimal wsXM_decimal) := goodIn_app (goodIn_of _ (by decide +kernel)) ggXM_isFour_XM_decimal
set_option maxRecDepth 20000 in
theorem ggXM_isSix_XM_hexadecimal : GoodIn wsXM_isSix wsXM_hexadecimal := goodIn_r _ [9, 10, 11, 7, 12, 13, 14, 15, 16, 17, 18, 19, 20, 21, 22] (by decide +kernel) (by decide +kernel)
set_option maxRecDepth 20000 in
theorem gXM_isSix_XM_hexadecimal : GoodIn wsXM_isSix (wsS RXM 50 yXM_hexadecimal wsXM_hexadecimal) := goodIn_app (goodIn_of _ (by decide +kernel)) ggXM_isSix_XM_hexadecimal
set_option maxRecDepth 20000 in
theorem ggXM_read_XM_isSix : GoodIn wsXM_read wsXM_isSix := goodIn_r _ [16, 13, 15, 1, 2, 17, 18, 6, 14, 19, 20, 21, 22, 28, 29, 30, 31, 32, 33, 34, 35, 36, 37] (by decide +kernel) (by decide +kernel)
set_option maxRecDepth 20000 in
theorem gXM_read_XM_isSix : GoodIn wsXM_read (wsV RXM 54 RXM yXM_isSix wsXM_isSix) := goodIn_app (goodIn_of _ (by decide +kernel)) ggXM_read_XM_isSix
set_option maxRecDepth 20000 in
theorem ggXM_read_XM_isFour : GoodIn wsXM_read wsXM_isFour := goodIn_r _ [23, 13, 1, 2, 24, 25, 26, 6, 14, 27, 20, 21, 22, 28, 29, 30, 31, 32, 33, 34, 35, 36, 37] (by decide +kernel) (by decide +kernel)
set_option maxRecDepth 20000 in
theorem gXM_read_XM_isFour : GoodIn wsXM_read (wsV RXM 58 RXM yXM_isFour wsXM_isFour) := goodIn_app (goodIn_of _ (by decide +kernel)) ggXM_read_XM_isFour
set_option maxRecDepth 20000 in
theorem ggXM_length_XM_decimal : GoodIn wsXM_length wsXM_decimal := goodIn_r _ [8, 9, 10, 11, 6, 12, 13, 14, 15, 16, 17, 18, 19, 20, 21, 22] (by decide +kernel) (by decide +kernel)
set_option maxRecDepth 20000 in
theorem gXM_length_XM_decimal : GoodIn wsXM_length (wsV RXM 43 RXM yXM_decimal wsXM_decimal) := goodIn_app (goodIn_of _ (by decide +kernel)) ggXM_length_XM_decimal
set_option maxRecDepth 20000 in
theorem ggXM_cut_XM_bit : GoodIn wsXM_cut wsXM_bit := goodIn_r _ [8, 1, 7, 9, 10, 11, 12, 13, 14, 15, 16, 17, 18] (by decide +kernel) (by decide +kernel)
set_option maxRecDepth 20000 in
theorem gXM_cut_XM_bit : GoodIn wsXM_cut (wsV RXM 61 RXM yXM_bit wsXM_bit) := goodIn_app (goodIn_of _ (by decide +kernel)) ggXM_cut_XM_bit
set_option maxRecDepth 20000 in
theorem ggXM_covers_XM_bit : GoodIn wsXM_covers wsXM_bit := goodIn_r _ [7, 1, 8, 9, 10, 11, 12, 13, 14, 15, 16, 17, 18] (by decide +kernel) (by decide +kernel)
set_option maxRecDepth 20000 in
theorem gXM_covers_XM_bit : GoodIn wsXM_covers (wsV RXM 61 RXM yXM_bit wsXM_bit) := goodIn_app (goodIn_of _ (by decide +kernel)) ggXM_covers_XM_bit
set_option maxRecDepth 20000 in
theorem ggXM_sayDecimal_XM_say : GoodIn wsXM_sayDecimal wsXM_say := goodIn_r _ [5, 6, 7, 8, 9, 10, 11, 12, 13, 14, 15, 16, 17] (by decide +kernel) (by decide +kernel)
set_option maxRecDepth 20000 in
theorem gXM_sayDecimal_XM_say : GoodIn wsXM_sayDecimal (wsV RXM 68 RXM yXM_say wsXM_say) := goodIn_app (goodIn_of _ (by decide +kernel)) ggXM_sayDecimal_XM_say
set_option maxRecDepth 20000 in
theorem ggXM_sayPart_XM_say : GoodIn wsXM_sayPart wsXM_say := goodIn_r _ [5, 6, 7, 8, 9, 10, 11, 12, 13, 14, 15, 16, 17] (by decide +kernel) (by decide +kernel)
set_option maxRecDepth 20000 in
theorem gXM_sayPart_XM_say : GoodIn wsXM_sayPart (wsV RXM 68 RXM yXM_say wsXM_say) := goodIn_app (goodIn_of _ (by decide +kernel)) ggXM_sayPart_XM_say
set_option maxRecDepth 20000 in
theorem ggXM_noughts_XM_part : GoodIn wsXM_noughts wsXM_part := goodIn_r _ [5, 6, 7, 8, 9, 10, 11, 12, 13, 14, 15, 16] (by decide +kernel) (by decide +kernel)
set_option maxRecDepth 20000 in
theorem gXM_noughts_XM_part : GoodIn wsXM_noughts (wsV RXM 71 RXM yXM_part wsXM_part) := goodIn_app (goodIn_of _ (by decide +kernel)) ggXM_noughts_XM_part
set_option maxRecDepth 20000 in
theorem ggXM_write_XM_say : GoodIn wsXM_write wsXM_say := goodIn_r _ [20, 21, 1, 26, 27, 28, 29, 30, 31, 32, 33, 34, 35] (by decide +kernel) (by decide +kernel)
set_option maxRecDepth 20000 in
theorem gXM_write_XM_say : GoodIn wsXM_write (wsV RXM 68 RXM yXM_say wsXM_say) := goodIn_app (goodIn_of _ (by decide +kernel)) ggXM_write_XM_say
set_option maxRecDepth 20000 in
theorem ggXM_write_XM_sayDecimal : GoodIn wsXM_write wsXM_sayDecimal := goodIn_r _ [22, 3, 4, 5, 6, 20, 21, 1, 26, 27, 28, 29, 30, 31, 32, 33, 34, 35] (by decide +kernel) (by decide +kernel)
set_option maxRecDepth 20000 in
theorem gXM_write_XM_sayDecimal : GoodIn wsXM_write (wsV RXM 74 RXM yXM_sayDecimal wsXM_sayDecimal) := goodIn_app (goodIn_of _ (by decide +kernel)) ggXM_write_XM_sayDecimal
set_option maxRecDepth 20000 in
theorem ggXM_write_XM_noughts : GoodIn wsXM_write wsXM_noughts := goodIn_r _ [23, 14, 15, 16, 6, 24, 7, 26, 27, 28, 29, 30, 31, 32, 33, 34, 35] (by decide +kernel) (by decide +kernel)
set_option maxRecDepth 20000 in
theorem gXM_write_XM_noughts : GoodIn wsXM_write (wsV RXM 77 RXM yXM_noughts wsXM_noughts) := goodIn_app (goodIn_of _ (by decide +kernel)) ggXM_write_XM_noughts
set_option maxRecDepth 20000 in
theorem ggXM_write_XM_part : GoodIn wsXM_write wsXM_part := goodIn_r _ [24, 7, 26, 27, 28, 29, 30, 31, 32, 33, 34, 35] (by decide +kernel) (by decide +kernel)
set_option maxRecDepth 20000 in
theorem gXM_write_XM_part : GoodIn wsXM_write (wsV RXM 71 RXM yXM_part wsXM_part) := goodIn_app (goodIn_of _ (by decide +kernel)) ggXM_write_XM_part
set_option maxRecDepth 20000 in
theorem ggXM_write_XM_sayPart : GoodIn wsXM_write wsXM_sayPart := goodIn_r _ [25, 3, 4, 5, 6, 20, 21, 1, 26, 27, 28, 29, 30, 31, 32, 33, 34, 35] (by decide +kernel) (by decide +kernel)
set_option maxRecDepth 20000 in
theorem gXM_write_XM_sayPart : GoodIn wsXM_write (wsV RXM 80 RXM yXM_sayPart wsXM_sayPart) := goodIn_app (goodIn_of _ (by decide +kernel)) ggXM_write_XM_sayPart
abbrev azCl : List vw_C := [(RX0, TX0, 4), (RX1, TX1, 7), (RXM, TXM, 10)]
end
section
/-! rows over the kit's rows: numbers as nI, worlds read and written, calls of readers and writers -/
theorem nI_m1 {n : Nat} (h : n < 2 ^ 31) : ¬ nI n = -1 := fun z => by
  have h1 := nI_toInt h
  rw [z] at h1
  have h2 : ((-1 : Int32)).toInt = -1 := by decide
  omega
abbrev rd_P (D : va_G) (cl : List vw_C) (ws : va_W) (tys : List (ClassId × FieldType)) (av : List Value) : Array Value → State → Prop := va_Pc av (fun U => va_P D cl ws U.heap ∧ va_K D cl tys U)
abbrev wr_P (D : va_G) (cl : List vw_C) (ws : va_W) (tys : List (ClassId × FieldType)) (sz : Nat) (av : List Value) : Array Value → State → Prop := va_Pc av (fun U => U.heap.size = sz ∧ va_P D cl ws U.heap ∧ va_K D cl tys U ∧ va_D (fun _ => True) ws)
abbrev wr_B (D : va_G) (cl : List vw_C) (tys : List (ClassId × FieldType)) (A : Nat → Prop) {S : Type} (wf : S → va_W) : S → State → Prop := fun u t => va_P D cl (wf u) t.heap ∧ va_K D cl tys t ∧ va_D A (wf u)
theorem fb_r {D : va_G} {cl : List vw_C} {ws : va_W} {tys : List (ClassId × FieldType)} {av : List Value} : FrameBlind (rd_P D cl ws tys av) := fun a U g mk q => by
  obtain ⟨q0, qP, qK⟩ := q
  exact ⟨q0, qP, va_K.moved (u := U) (U := U.calling g mk a) (Vm.Alike.refl U.vm) qK⟩
theorem fb_w {D : va_G} {cl : List vw_C} {ws : va_W} {tys : List (ClassId × FieldType)} {sz : Nat} {av : List Value} : FrameBlind (wr_P D cl ws tys sz av) := fun a U g mk q => by
  obtain ⟨q0, q1, qP, qK, qD⟩ := q
  exact ⟨q0, q1, qP, va_K.moved (u := U) (U := U.calling g mk a) (Vm.Alike.refl U.vm) qK, qD⟩
theorem fm_some {α β : Type} {f : α → Option β} : ∀ {is : List α} {ws : List β}, is.map f = ws.map some → is.filterMap f = ws
  | [], [], _ => rfl
  | [], _ :: _, h => by simp at h
  | _ :: _, [], h => by simp at h
  | i :: is, w :: ws, h => by
    simp only [List.map_cons, List.cons.injEq] at h
    rw [List.filterMap_cons, h.1, fm_some h.2]
section BX
variable {p : Program} {l : Launch} {e : Env} {R : Room} {s : State} {m : MethodId} {args : Array Value} {below : List Frame} {meth : Method} {c : Code} {H : Heap} {locs : List Loc} {cells slots : Nat} {Q : State → Prop}
variable {cc : ByteArray} {pc : Nat} {ls : Array Slot} {rest : List Value}
theorem tp_i {x : Int32} (y : Int32) (h : x = y) (k : W p l e R s m args below meth c H locs cells slots Q (F0 m pc ls (.int y :: rest))) : W p l e R s m args below meth c H locs cells slots Q (F0 m pc ls (.int x :: rest)) := by rw [h]; exact k
theorem tp_l {x : Int64} (y : Int64) (h : x = y) (k : W p l e R s m args below meth c H locs cells slots Q (F0 m pc ls (.long y :: rest))) : W p l e R s m args below meth c H locs cells slots Q (F0 m pc ls (.long x :: rest)) := by rw [h]; exact k
theorem bn_eq (hexec : p.tables.exec = Jvm.exec) (hb : c.code = cc) {a b : Nat} {off : Int} {tgt : Nat} (hdg : decode cc pc = .ok (.if_icmp .eq off, 3)) (ht : (pc : Int) + off = (tgt : Int)) (ha : a < 2 ^ 31) (hc : b < 2 ^ 31) (kt : a = b → W p l e R s m args below meth c H locs cells slots Q (F0 m tgt ls rest)) (kf : a ≠ b → W p l e R s m args below meth c H locs cells slots Q (F0 m (pc + 3) ls rest)) : W p l e R s m args below meth c H locs cells slots Q (F0 m pc ls (.int (nI b) :: .int (nI a) :: rest)) := lv_icmp_eq hexec hb hdg ht (fun h => kt ((nI_eq ha hc).mp h)) (fun h => kf (fun z => h ((nI_eq ha hc).mpr z)))
theorem bn_ne (hexec : p.tables.exec = Jvm.exec) (hb : c.code = cc) {a b : Nat} {off : Int} {tgt : Nat} (hdg : decode cc pc = .ok (.if_icmp .ne off, 3)) (ht : (pc : Int) + off = (tgt : Int)) (ha : a < 2 ^ 31) (hc : b < 2 ^ 31) (kt : a ≠ b → W p l e R s m args below meth c H locs cells slots Q (F0 m tgt ls rest)) (kf : a = b → W p l e R s m args below meth c H locs cells slots Q (F0 m (pc + 3) ls rest)) : W p l e R s m args below meth c H locs cells slots Q (F0 m pc ls (.int (nI b) :: .int (nI a) :: rest)) := lv_icmp_ne hexec hb hdg ht (fun h => kt (fun z => h ((nI_eq ha hc).mpr z))) (fun h => kf ((nI_eq ha hc).mp h))
theorem bn_lt (hexec : p.tables.exec = Jvm.exec) (hb : c.code = cc) {a b : Nat} {off : Int} {tgt : Nat} (hdg : decode cc pc = .ok (.if_icmp .lt off, 3)) (ht : (pc : Int) + off = (tgt : Int)) (ha : a < 2 ^ 31) (hc : b < 2 ^ 31) (kt : a < b → W p l e R s m args below meth c H locs cells slots Q (F0 m tgt ls rest)) (kf : b ≤ a → W p l e R s m args below meth c H locs cells slots Q (F0 m (pc + 3) ls rest)) : W p l e R s m args below meth c H locs cells slots Q (F0 m pc ls (.int (nI b) :: .int (nI a) :: rest)) := lv_icmp_lt hexec hb hdg ht (fun h => kt ((nI_ltI ha hc).mp h)) (fun h => kf (Nat.not_lt.mp (fun z => h ((nI_ltI ha hc).mpr z))))
theorem bn_ge (hexec : p.tables.exec = Jvm.exec) (hb : c.code = cc) {a b : Nat} {off : Int} {tgt : Nat} (hdg : decode cc pc = .ok (.if_icmp .ge off, 3)) (ht : (pc : Int) + off = (tgt : Int)) (ha : a < 2 ^ 31) (hc : b < 2 ^ 31) (kt : b ≤ a → W p l e R s m args below meth c H locs cells slots Q (F0 m tgt ls rest)) (kf : a < b → W p l e R s m args below meth c H locs cells slots Q (F0 m (pc + 3) ls rest)) : W p l e R s m args below meth c H locs cells slots Q (F0 m pc ls (.int (nI b) :: .int (nI a) :: rest)) := lv_icmp_ge hexec hb hdg ht (fun h => kt ((nI_leI hc ha).mp h)) (fun h => kf (Nat.not_le.mp (fun z => h ((nI_leI hc ha).mpr z))))
theorem bn_gt (hexec : p.tables.exec = Jvm.exec) (hb : c.code = cc) {a b : Nat} {off : Int} {tgt : Nat} (hdg : decode cc pc = .ok (.if_icmp .gt off, 3)) (ht : (pc : Int) + off = (tgt : Int)) (ha : a < 2 ^ 31) (hc : b < 2 ^ 31) (kt : b < a → W p l e R s m args below meth c H locs cells slots Q (F0 m tgt ls rest)) (kf : a ≤ b → W p l e R s m args below meth c H locs cells slots Q (F0 m (pc + 3) ls rest)) : W p l e R s m args below meth c H locs cells slots Q (F0 m pc ls (.int (nI b) :: .int (nI a) :: rest)) := lv_icmp_gt hexec hb hdg ht (fun h => kt ((nI_ltI hc ha).mp h)) (fun h => kf (Nat.not_lt.mp (fun z => h ((nI_ltI hc ha).mpr z))))
theorem bn_le (hexec : p.tables.exec = Jvm.exec) (hb : c.code = cc) {a b : Nat} {off : Int} {tgt : Nat} (hdg : decode cc pc = .ok (.if_icmp .le off, 3)) (ht : (pc : Int) + off = (tgt : Int)) (ha : a < 2 ^ 31) (hc : b < 2 ^ 31) (kt : a ≤ b → W p l e R s m args below meth c H locs cells slots Q (F0 m tgt ls rest)) (kf : b < a → W p l e R s m args below meth c H locs cells slots Q (F0 m (pc + 3) ls rest)) : W p l e R s m args below meth c H locs cells slots Q (F0 m pc ls (.int (nI b) :: .int (nI a) :: rest)) := lv_icmp_le hexec hb hdg ht (fun h => kt ((nI_leI ha hc).mp h)) (fun h => kf (Nat.not_le.mp (fun z => h ((nI_leI ha hc).mpr z))))
theorem nz_eq {a : Nat} (ha : a < 2 ^ 31) : nI a = 0 ↔ a = 0 := by rw [← nI_0, nI_eq ha (by decide)]
theorem nz_lt {a : Nat} (ha : a < 2 ^ 31) : 0 < nI a ↔ 0 < a := by rw [← nI_0, nI_ltI (by decide) ha]
theorem nz_le {a : Nat} (ha : a < 2 ^ 31) : nI a ≤ 0 ↔ a = 0 := by rw [← nI_0, nI_leI ha (by decide)]; omega
theorem bz_eq (hexec : p.tables.exec = Jvm.exec) (hb : c.code = cc) {a : Nat} {off : Int} {tgt : Nat} (hdg : decode cc pc = .ok (.ifCond .eq off, 3)) (ht : (pc : Int) + off = (tgt : Int)) (ha : a < 2 ^ 31) (kt : a = 0 → W p l e R s m args below meth c H locs cells slots Q (F0 m tgt ls rest)) (kf : a ≠ 0 → W p l e R s m args below meth c H locs cells slots Q (F0 m (pc + 3) ls rest)) : W p l e R s m args below meth c H locs cells slots Q (F0 m pc ls (.int (nI a) :: rest)) := lv_if_eq hexec hb hdg ht (fun h => kt ((nz_eq ha).mp h)) (fun h => kf (fun z => h ((nz_eq ha).mpr z)))
theorem bz_ne (hexec : p.tables.exec = Jvm.exec) (hb : c.code = cc) {a : Nat} {off : Int} {tgt : Nat} (hdg : decode cc pc = .ok (.ifCond .ne off, 3)) (ht : (pc : Int) + off = (tgt : Int)) (ha : a < 2 ^ 31) (kt : a ≠ 0 → W p l e R s m args below meth c H locs cells slots Q (F0 m tgt ls rest)) (kf : a = 0 → W p l e R s m args below meth c H locs cells slots Q (F0 m (pc + 3) ls rest)) : W p l e R s m args below meth c H locs cells slots Q (F0 m pc ls (.int (nI a) :: rest)) := lv_if_ne hexec hb hdg ht (fun h => kt (fun z => h ((nz_eq ha).mpr z))) (fun h => kf ((nz_eq ha).mp h))
theorem bz_gt (hexec : p.tables.exec = Jvm.exec) (hb : c.code = cc) {a : Nat} {off : Int} {tgt : Nat} (hdg : decode cc pc = .ok (.ifCond .gt off, 3)) (ht : (pc : Int) + off = (tgt : Int)) (ha : a < 2 ^ 31) (kt : 0 < a → W p l e R s m args below meth c H locs cells slots Q (F0 m tgt ls rest)) (kf : a = 0 → W p l e R s m args below meth c H locs cells slots Q (F0 m (pc + 3) ls rest)) : W p l e R s m args below meth c H locs cells slots Q (F0 m pc ls (.int (nI a) :: rest)) := lv_if_gt hexec hb hdg ht (fun h => kt ((nz_lt ha).mp h)) (fun h => kf (Nat.eq_zero_of_not_pos (fun z => h ((nz_lt ha).mpr z))))
theorem bz_le (hexec : p.tables.exec = Jvm.exec) (hb : c.code = cc) {a : Nat} {off : Int} {tgt : Nat} (hdg : decode cc pc = .ok (.ifCond .le off, 3)) (ht : (pc : Int) + off = (tgt : Int)) (ha : a < 2 ^ 31) (kt : a = 0 → W p l e R s m args below meth c H locs cells slots Q (F0 m tgt ls rest)) (kf : 0 < a → W p l e R s m args below meth c H locs cells slots Q (F0 m (pc + 3) ls rest)) : W p l e R s m args below meth c H locs cells slots Q (F0 m pc ls (.int (nI a) :: rest)) := lv_if_le hexec hb hdg ht (fun h => kt ((nz_le ha).mp h)) (fun h => kf (Nat.pos_of_ne_zero (fun z => h ((nz_le ha).mpr z))))
theorem bz_lt (hexec : p.tables.exec = Jvm.exec) (hb : c.code = cc) {a : Nat} {off : Int} {tgt : Nat} (hdg : decode cc pc = .ok (.ifCond .lt off, 3)) (ht : (pc : Int) + off = (tgt : Int)) (ha : a < 2 ^ 31) (kf : W p l e R s m args below meth c H locs cells slots Q (F0 m (pc + 3) ls rest)) : W p l e R s m args below meth c H locs cells slots Q (F0 m pc ls (.int (nI a) :: rest)) := lv_if_lt hexec hb hdg ht (fun h => absurd h (nI_pos ha)) (fun _ => kf)
theorem bz_ge (hexec : p.tables.exec = Jvm.exec) (hb : c.code = cc) {a : Nat} {off : Int} {tgt : Nat} (hdg : decode cc pc = .ok (.ifCond .ge off, 3)) (ht : (pc : Int) + off = (tgt : Int)) (ha : a < 2 ^ 31) (kt : W p l e R s m args below meth c H locs cells slots Q (F0 m tgt ls rest)) : W p l e R s m args below meth c H locs cells slots Q (F0 m pc ls (.int (nI a) :: rest)) := lv_if_ge hexec hb hdg ht (fun _ => kt) (fun h => absurd (nI_pos' ha) h)
variable {D : va_G} {cl : List vw_C} {A : Nat → Prop} {ad : Nat} {tys : List (ClassId × FieldType)} {ws : va_W} {H0 : Heap}
theorem ld_i (hexec : p.tables.exec = Jvm.exec) (hb : c.code = cc) (hK : va_K D cl tys s) (hP : va_P D cl ws H) (q0 t0 : Nat) {cA : ClassId} {n : Nat} {f : Nat → Int32} (ha : ws[q0]? = some (ad, .inl (cA, n, .inl f))) (ht : tys[t0]? = some (cA, .int)) {i : Nat} (hi : i < n) (hn : n < 2 ^ 31) (hdg : decode cc pc = .ok (.iaload, 1))
    (kk : W p l e R s m args below meth c H locs cells slots Q (F0 m (pc + 1) ls (.int (f i) :: rest))) : W p l e R s m args below meth c H locs cells slots Q (F0 m pc ls (.int (nI i) :: .ref ad :: rest)) :=
  va_iald hexec hb hK hP q0 t0 ha ht (vp_in_nI hi hn) hdg (by rw [nI_clamp (Nat.lt_trans hi hn)]; exact kk)
theorem ld_b (hexec : p.tables.exec = Jvm.exec) (hb : c.code = cc) (hK : va_K D cl tys s) (hP : va_P D cl ws H) (q0 t0 : Nat) {cA : ClassId} {n : Nat} {f : Nat → Int32} (ha : ws[q0]? = some (ad, .inl (cA, n, .inl f))) (ht : tys[t0]? = some (cA, .byte)) {i : Nat} (hi : i < n) (hn : n < 2 ^ 31) (hdg : decode cc pc = .ok (.baload, 1))
    (kk : W p l e R s m args below meth c H locs cells slots Q (F0 m (pc + 1) ls (.int (f i) :: rest))) : W p l e R s m args below meth c H locs cells slots Q (F0 m pc ls (.int (nI i) :: .ref ad :: rest)) :=
  va_bald hexec hb hK hP q0 t0 ha ht (vp_in_nI hi hn) hdg (by rw [nI_clamp (Nat.lt_trans hi hn)]; exact kk)
theorem st_i (hexec : p.tables.exec = Jvm.exec) (hb : c.code = cc) (hK : va_K D cl tys s) (hP : va_P D cl ws H) (hD : va_D A ws) (hS : va_S A H0 H locs) (q0 t0 : Nat) {cA : ClassId} {n : Nat} {f : Nat → Int32} (ha : ws[q0]? = some (ad, .inl (cA, n, .inl f))) (ht : tys[t0]? = some (cA, .int)) {i : Nat} {x : Int32} (hi : i < n) (hn : n < 2 ^ 31) (hdg : decode cc pc = .ok (.iastore, 1))
    (kk : ∀ (H1 : Heap) (locs1 : List Loc), va_P D cl (ws.set q0 (ad, .inl (cA, n, .inl (upd f i x)))) H1 → va_D A (ws.set q0 (ad, .inl (cA, n, .inl (upd f i x)))) → va_S A H0 H1 locs1 → W p l e R s m args below meth c H1 locs1 cells slots Q (F0 m (pc + 1) ls rest)) : W p l e R s m args below meth c H locs cells slots Q (F0 m pc ls (.int x :: .int (nI i) :: .ref ad :: rest)) :=
  va_iast hexec hb hK hP hD hS q0 t0 ha ht (vp_in_nI hi hn) hdg (by rw [nI_clamp (Nat.lt_trans hi hn)]; exact kk)
theorem st_b (hexec : p.tables.exec = Jvm.exec) (hb : c.code = cc) (hK : va_K D cl tys s) (hP : va_P D cl ws H) (hD : va_D A ws) (hS : va_S A H0 H locs) (q0 t0 : Nat) {cA : ClassId} {n : Nat} {f : Nat → Int32} (ha : ws[q0]? = some (ad, .inl (cA, n, .inl f))) (ht : tys[t0]? = some (cA, .byte)) {i : Nat} {x : Int32} (hi : i < n) (hn : n < 2 ^ 31) (hdg : decode cc pc = .ok (.bastore, 1))
    (kk : ∀ (H1 : Heap) (locs1 : List Loc), va_P D cl (ws.set q0 (ad, .inl (cA, n, .inl (upd f i (vp_nar .byte x))))) H1 → va_D A (ws.set q0 (ad, .inl (cA, n, .inl (upd f i (vp_nar .byte x))))) → va_S A H0 H1 locs1 → W p l e R s m args below meth c H1 locs1 cells slots Q (F0 m (pc + 1) ls rest)) : W p l e R s m args below meth c H locs cells slots Q (F0 m pc ls (.int x :: .int (nI i) :: .ref ad :: rest)) :=
  va_bast hexec hb hK hP hD hS q0 t0 ha ht (vp_in_nI hi hn) hdg (by rw [nI_clamp (Nat.lt_trans hi hn)]; exact kk)
/-! returns -/
theorem rt_i (hexec : p.tables.exec = Jvm.exec) (hb : c.code = cc) (hr : meth.sig.returnType = some .int) {v v' : Int32} (hv : v = v') (hdg : decode cc pc = .ok (.ireturn, 1)) (hlocks : meth.locks = false) : W p l e R s m args below meth c s.heap [] 0 0 (MQ below (vp_Si (fun r => r = v')) args s 0 0 (fun _ => False)) (F0 m pc ls [.int v]) :=
  W.iret hexec hb hr (fun t ht _ => ⟨v, rfl, hv, ht⟩) (fun _ h => by cases h) hdg hlocks
theorem rt_z (hexec : p.tables.exec = Jvm.exec) (hb : c.code = cc) (hr : meth.sig.returnType = some .boolean) {v v' : Int32} (hn : narrow .boolean (.int v) = .int v) (hv : v = v') (hdg : decode cc pc = .ok (.ireturn, 1)) (hlocks : meth.locks = false) : W p l e R s m args below meth c s.heap [] 0 0 (MQ below (vp_Si (fun r => r = v')) args s 0 0 (fun _ => False)) (F0 m pc ls [.int v]) :=
  W.zret hexec hb hr hn (fun t ht _ => ⟨v, rfl, hv, ht⟩) (fun _ h => by cases h) hdg hlocks
theorem rt_l (hexec : p.tables.exec = Jvm.exec) (hb : c.code = cc) (hr : meth.sig.returnType = some .long) {v v' : Int64} (hv : v = v') (hdg : decode cc pc = .ok (.lreturn, 1)) (hlocks : meth.locks = false) : W p l e R s m args below meth c s.heap [] 0 0 (MQ below (vp_Sl (fun r => r = v')) args s 0 0 (fun _ => False)) (F0 m pc ls [.long v]) :=
  W.lret hexec hb hr (fun t ht _ => ⟨v, rfl, hv, ht⟩) (fun _ h => by cases h) hdg hlocks
theorem wt_v {S : Type} {post : S → Prop} {wf : S → va_W} (hexec : p.tables.exec = Jvm.exec) (hb : c.code = cc) (hr : meth.sig.returnType = none) (u : S) (hp : post u) (hP : va_P D cl (wf u) H) (hK : va_K D cl tys s) (hD : va_D A (wf u)) (hS : va_S A s.heap H locs) (hdg : decode cc pc = .ok (.return_, 1)) (hlocks : meth.locks = false) : W p l e R s m args below meth c H locs cells slots (MQ below (va_Qv post (wr_B D cl tys A wf) A) args s cells slots A) (F0 m pc ls []) :=
  W.vret hexec hb hr (fun t ht hW => ⟨⟨u, rfl, hp, by rw [ht]; exact hP, va_K.moved hW.alike hK, hD⟩, hS.F ht⟩) hS.2.2 hdg hlocks
theorem wt_i {S : Type} {post : Int32 → S → Prop} {wf : S → va_W} (hexec : p.tables.exec = Jvm.exec) (hb : c.code = cc) (hr : meth.sig.returnType = some .int) {v : Int32} (u : S) (hp : post v u) (hP : va_P D cl (wf u) H) (hK : va_K D cl tys s) (hD : va_D A (wf u)) (hS : va_S A s.heap H locs) (hdg : decode cc pc = .ok (.ireturn, 1)) (hlocks : meth.locks = false) : W p l e R s m args below meth c H locs cells slots (MQ below (va_Qi post (wr_B D cl tys A wf) A) args s cells slots A) (F0 m pc ls [.int v]) :=
  W.iret hexec hb hr (fun t ht hW => ⟨⟨v, u, rfl, hp, by rw [ht]; exact hP, va_K.moved hW.alike hK, hD⟩, hS.F ht⟩) hS.2.2 hdg hlocks
theorem wt_z {S : Type} {post : Int32 → S → Prop} {wf : S → va_W} (hexec : p.tables.exec = Jvm.exec) (hb : c.code = cc) (hr : meth.sig.returnType = some .boolean) {v : Int32} (hn : narrow .boolean (.int v) = .int v) (u : S) (hp : post v u) (hP : va_P D cl (wf u) H) (hK : va_K D cl tys s) (hD : va_D A (wf u)) (hS : va_S A s.heap H locs) (hdg : decode cc pc = .ok (.ireturn, 1)) (hlocks : meth.locks = false) : W p l e R s m args below meth c H locs cells slots (MQ below (va_Qi post (wr_B D cl tys A wf) A) args s cells slots A) (F0 m pc ls [.int v]) :=
  W.zret hexec hb hr hn (fun t ht hW => ⟨⟨v, u, rfl, hp, by rw [ht]; exact hP, va_K.moved hW.alike hK, hD⟩, hS.F ht⟩) hS.2.2 hdg hlocks
/-! calls -/
variable {y : MethodName} {bytes : ByteArray} {maxL nL n index mc ms : Nat} {ret : Option FieldType} {wx : List Cond} {rm : Room} {wc wr : va_W} {tyc : List (ClassId × FieldType)} {Ts : List Cond} {own C : String} {T : u_T} {N ci : Nat} {fs : List Value} {b : Addr} {As st0 : List Value}
theorem rc_Vi {v : Int32} (S : CallFix p m c cc nL s args Ts own) (hM : Met l y wx rm (rd_P D cl wc tyc (.ref b :: As)) (vp_Si (fun r => r = v)) 0 0 (fun _ => False)) (cw : CallW R s args own C index y bytes maxL ret wx rm 0 0 n)
    (hP : va_P D cl wc H) (hK : va_K D cl tyc s) (q0 : Nat) (hc : cl[ci]? = some (C, T, N)) (he : wc[q0]? = some (b, .inr (ci, fs))) (hn : As.length = n) (hsz : ls.size = nL) (hst : st0 = As.reverse ++ .ref b :: rest) (hW : (rest.map fun v => v.category).sum ≤ 8) (hdg : decode cc pc = .ok (.invokevirtual index, 3)) (hf : cells + 0 ≤ R.cells ∧ slots + 0 ≤ R.slots)
    (kk : W p l e R s m args below meth c H locs cells slots Q (F0 m (pc + 3) ls (.int v :: rest))) : W p l e R s m args below meth c H locs cells slots Q (F0 m pc ls st0) :=
  vp_callSi (W.runV (g := F0 m pc ls st0) S hM cw ⟨fb_r, va_recv hK hP hc he, fun U hU hW => ⟨rfl, by rw [hU]; exact hP, va_K.moved hW.alike hK⟩⟩ rfl hn hsz hst (by show 2 * 0 + _ ≤ 8; omega) hdg hf) (fun r hr => by rw [hr]; exact kk)
theorem rc_Vl {v : Int64} (S : CallFix p m c cc nL s args Ts own) (hM : Met l y wx rm (rd_P D cl wc tyc (.ref b :: As)) (vp_Sl (fun r => r = v)) 0 0 (fun _ => False)) (cw : CallW R s args own C index y bytes maxL ret wx rm 0 0 n)
    (hP : va_P D cl wc H) (hK : va_K D cl tyc s) (q0 : Nat) (hc : cl[ci]? = some (C, T, N)) (he : wc[q0]? = some (b, .inr (ci, fs))) (hn : As.length = n) (hsz : ls.size = nL) (hst : st0 = As.reverse ++ .ref b :: rest) (hW : (rest.map fun v => v.category).sum ≤ 8) (hdg : decode cc pc = .ok (.invokevirtual index, 3)) (hf : cells + 0 ≤ R.cells ∧ slots + 0 ≤ R.slots)
    (kk : W p l e R s m args below meth c H locs cells slots Q (F0 m (pc + 3) ls (.long v :: rest))) : W p l e R s m args below meth c H locs cells slots Q (F0 m pc ls st0) :=
  vp_callSl (W.runV (g := F0 m pc ls st0) S hM cw ⟨fb_r, va_recv hK hP hc he, fun U hU hW => ⟨rfl, by rw [hU]; exact hP, va_K.moved hW.alike hK⟩⟩ rfl hn hsz hst (by show 2 * 0 + _ ≤ 8; omega) hdg hf) (fun r hr => by rw [hr]; exact kk)
theorem fb_s {av : List Value} : FrameBlind (va_Pc av (fun _ => True)) := fun _ _ _ _ q => q
theorem rc_Si {v : Int32} (S : CallFix p m c cc nL s args Ts own) (hM : Met l y wx rm (va_Pc As (fun _ => True)) (vp_Si (fun r => r = v)) 0 0 (fun _ => False)) (cw : CallB R s args own index y bytes maxL ret wx rm 0 0 n ∧ (Cond.static y).before args s = true)
    (hn : As.length = n) (hsz : ls.size = nL) (hst : st0 = As.reverse ++ rest) (hW : (rest.map fun v => v.category).sum ≤ 8) (hdg : decode cc pc = .ok (.invokestatic index, 3)) (hf : cells + 0 ≤ R.cells ∧ slots + 0 ≤ R.slots)
    (kk : W p l e R s m args below meth c H locs cells slots Q (F0 m (pc + 3) ls (.int v :: rest))) : W p l e R s m args below meth c H locs cells slots Q (F0 m pc ls st0) :=
  vp_callSi (W.runS (g := F0 m pc ls st0) S hM cw ⟨fb_s, fun U hU hW => ⟨rfl, trivial⟩⟩ rfl hn hsz hst (by show 2 * 0 + _ ≤ 8; omega) hdg hf) (fun r hr => by rw [hr]; exact kk)
theorem rc_Sl {v : Int64} (S : CallFix p m c cc nL s args Ts own) (hM : Met l y wx rm (va_Pc As (fun _ => True)) (vp_Sl (fun r => r = v)) 0 0 (fun _ => False)) (cw : CallB R s args own index y bytes maxL ret wx rm 0 0 n ∧ (Cond.static y).before args s = true)
    (hn : As.length = n) (hsz : ls.size = nL) (hst : st0 = As.reverse ++ rest) (hW : (rest.map fun v => v.category).sum ≤ 8) (hdg : decode cc pc = .ok (.invokestatic index, 3)) (hf : cells + 0 ≤ R.cells ∧ slots + 0 ≤ R.slots)
    (kk : W p l e R s m args below meth c H locs cells slots Q (F0 m (pc + 3) ls (.long v :: rest))) : W p l e R s m args below meth c H locs cells slots Q (F0 m pc ls st0) :=
  vp_callSl (W.runS (g := F0 m pc ls st0) S hM cw ⟨fb_s, fun U hU hW => ⟨rfl, trivial⟩⟩ rfl hn hsz hst (by show 2 * 0 + _ ≤ 8; omega) hdg hf) (fun r hr => by rw [hr]; exact kk)
theorem wc_Vi {S : Type} {post : Int32 → S → Prop} {wf : S → va_W} (Sx : CallFix p m c cc nL s args Ts own) (hM : Met l y wx rm (wr_P D cl wc tyc H.size (.ref b :: As)) (va_Qi post (wr_B D cl tyc (va_A wc H.size) wf) (va_A wc H.size)) 0 0 (va_A wc H.size)) (cw : CallW R s args own C index y bytes maxL ret wx rm 0 0 n)
    (hP : va_P D cl ws H) (hD : va_D A ws) (hK : va_K D cl tys s) (hS : va_S A H0 H locs) (hA : ∀ q, H0.size ≤ q → A q) (isC isR it : List Nat) (hC : isC.map (fun i => ws[i]?) = wc.map some) (hR : isR.map (fun i => ws[i]?) = wr.map some) (hnC : va_nd isC = true) (hnR : va_nd isR = true) (hdis : ∀ i ∈ isR, i ∉ isC) (hit : it.filterMap (fun i => tys[i]?) = tyc)
    (q0 : Nat) (hc : cl[ci]? = some (C, T, N)) (he : wc[q0]? = some (b, .inr (ci, fs))) (hn : As.length = n) (hsz : ls.size = nL) (hst : st0 = As.reverse ++ .ref b :: rest) (hW : (rest.map fun v => v.category).sum ≤ 8) (hdg : decode cc pc = .ok (.invokevirtual index, 3)) (hf : cells + 0 ≤ R.cells ∧ slots + 0 ≤ R.slots)
    (kk : ∀ (r : Int32) (u : S) (H1 : Heap) (locs1 : List Loc), post r u → va_P D cl (wr ++ wf u) H1 → va_D A (wr ++ wf u) → va_S A H0 H1 locs1 → W p l e R s m args below meth c H1 locs1 cells slots Q (F0 m (pc + 3) ls (.int r :: rest))) : W p l e R s m args below meth c H locs cells slots Q (F0 m pc ls st0) := by
  have hPc : va_P D cl wc H := hP.sub isC (fm_some hC)
  have hDc : va_D A wc := hD.sub isC hnC hC
  have hKc : va_K D cl tyc s := hK.sub it hit
  have hF := va_free (wc := wc) hD hS hA isC hC
  refine va_calli (va_runV (g := F0 m pc ls st0) Sx hM cw ⟨fb_w, va_recv hKc hPc hc he, fun U hU hW => ⟨rfl, by rw [hU], by rw [hU]; exact hPc, va_K.moved hW.alike hKc, hDc.weaken (fun _ _ _ _ => trivial)⟩⟩ rfl hn hsz hst (by show 2 * 0 + _ ≤ 8; omega) hdg hf) hS (fun q _ h => hF q h) hF (fun r u t H1 locs1 ht hvm hp hB hz hk hS1 => ?_)
  obtain ⟨hP1, hK1, hD1⟩ := hB
  rw [ht] at hP1
  obtain ⟨hP2, hD2⟩ := va_join (wr := wr) (w1 := wf u) hP hD isC isR hC hR hnR hdis hk hF hP1 hD1
  exact kk r u H1 locs1 hp hP2 hD2 hS1
theorem wc_Vv {S : Type} {post : S → Prop} {wf : S → va_W} (Sx : CallFix p m c cc nL s args Ts own) (hM : Met l y wx rm (wr_P D cl wc tyc H.size (.ref b :: As)) (va_Qv post (wr_B D cl tyc (va_A wc H.size) wf) (va_A wc H.size)) 0 0 (va_A wc H.size)) (cw : CallW R s args own C index y bytes maxL ret wx rm 0 0 n)
    (hP : va_P D cl ws H) (hD : va_D A ws) (hK : va_K D cl tys s) (hS : va_S A H0 H locs) (hA : ∀ q, H0.size ≤ q → A q) (isC isR it : List Nat) (hC : isC.map (fun i => ws[i]?) = wc.map some) (hR : isR.map (fun i => ws[i]?) = wr.map some) (hnC : va_nd isC = true) (hnR : va_nd isR = true) (hdis : ∀ i ∈ isR, i ∉ isC) (hit : it.filterMap (fun i => tys[i]?) = tyc)
    (q0 : Nat) (hc : cl[ci]? = some (C, T, N)) (he : wc[q0]? = some (b, .inr (ci, fs))) (hn : As.length = n) (hsz : ls.size = nL) (hst : st0 = As.reverse ++ .ref b :: rest) (hW : (rest.map fun v => v.category).sum ≤ 8) (hdg : decode cc pc = .ok (.invokevirtual index, 3)) (hf : cells + 0 ≤ R.cells ∧ slots + 0 ≤ R.slots)
    (kk : ∀ (u : S) (H1 : Heap) (locs1 : List Loc), post u → va_P D cl (wr ++ wf u) H1 → va_D A (wr ++ wf u) → va_S A H0 H1 locs1 → W p l e R s m args below meth c H1 locs1 cells slots Q (F0 m (pc + 3) ls rest)) : W p l e R s m args below meth c H locs cells slots Q (F0 m pc ls st0) := by
  have hPc : va_P D cl wc H := hP.sub isC (fm_some hC)
  have hDc : va_D A wc := hD.sub isC hnC hC
  have hKc : va_K D cl tyc s := hK.sub it hit
  have hF := va_free (wc := wc) hD hS hA isC hC
  refine va_callv (va_runV (g := F0 m pc ls st0) Sx hM cw ⟨fb_w, va_recv hKc hPc hc he, fun U hU hW => ⟨rfl, by rw [hU], by rw [hU]; exact hPc, va_K.moved hW.alike hKc, hDc.weaken (fun _ _ _ _ => trivial)⟩⟩ rfl hn hsz hst (by show 2 * 0 + _ ≤ 8; omega) hdg hf) hS (fun q _ h => hF q h) hF (fun u t H1 locs1 ht hvm hp hB hz hk hS1 => ?_)
  obtain ⟨hP1, hK1, hD1⟩ := hB
  rw [ht] at hP1
  obtain ⟨hP2, hD2⟩ := va_join (wr := wr) (w1 := wf u) hP hD isC isR hC hR hnR hdis hk hF hP1 hD1
  exact kk u H1 locs1 hp hP2 hD2 hS1
theorem wc_Iv {S : Type} {post : S → Prop} {wf : S → va_W} (Sx : CallFix p m c cc nL s args Ts own) (hM : Met l y wx rm (wr_P D cl wc tyc H.size (.ref b :: As)) (va_Qv post (wr_B D cl tyc (va_A wc H.size) wf) (va_A wc H.size)) 0 0 (va_A wc H.size)) (cw : CallB R s args own index y bytes maxL none wx rm 0 0 n ∧ y.name = "<init>" ∧ (Cond.instanceMethod y).before args s = true)
    (hP : va_P D cl ws H) (hD : va_D A ws) (hK : va_K D cl tys s) (hS : va_S A H0 H locs) (hA : ∀ q, H0.size ≤ q → A q) (isC isR it : List Nat) (hC : isC.map (fun i => ws[i]?) = wc.map some) (hR : isR.map (fun i => ws[i]?) = wr.map some) (hnC : va_nd isC = true) (hnR : va_nd isR = true) (hdis : ∀ i ∈ isR, i ∉ isC) (hit : it.filterMap (fun i => tys[i]?) = tyc)
    (hn : As.length = n) (hsz : ls.size = nL) (hst : st0 = As.reverse ++ .ref b :: rest) (hW : (rest.map fun v => v.category).sum ≤ 8) (hdg : decode cc pc = .ok (.invokespecial index, 3)) (hf : cells + 0 ≤ R.cells ∧ slots + 0 ≤ R.slots)
    (kk : ∀ (u : S) (H1 : Heap) (locs1 : List Loc), post u → va_P D cl (wr ++ wf u) H1 → va_D A (wr ++ wf u) → va_S A H0 H1 locs1 → W p l e R s m args below meth c H1 locs1 cells slots Q (F0 m (pc + 3) ls rest)) : W p l e R s m args below meth c H locs cells slots Q (F0 m pc ls st0) := by
  have hPc : va_P D cl wc H := hP.sub isC (fm_some hC)
  have hDc : va_D A wc := hD.sub isC hnC hC
  have hKc : va_K D cl tyc s := hK.sub it hit
  have hF := va_free (wc := wc) hD hS hA isC hC
  refine va_callv (va_runI (g := F0 m pc ls st0) Sx hM cw ⟨fb_w, fun U hU hW => ⟨rfl, by rw [hU], by rw [hU]; exact hPc, va_K.moved hW.alike hKc, hDc.weaken (fun _ _ _ _ => trivial)⟩⟩ rfl hn hsz hst (by show 2 * 0 + _ ≤ 8; omega) hdg hf) hS (fun q _ h => hF q h) hF (fun u t H1 locs1 ht hvm hp hB hz hk hS1 => ?_)
  obtain ⟨hP1, hK1, hD1⟩ := hB
  rw [ht] at hP1
  obtain ⟨hP2, hD2⟩ := va_join (wr := wr) (w1 := wf u) hP hD isC isR hC hR hnR hdis hk hF hP1 hD1
  exact kk u H1 locs1 hp hP2 hD2 hS1
/-- a constructor that makes cells: its array classes come with them -/
theorem wc_Im {S : Type} {wf : S → va_W} {tf : S → List (ClassId × FieldType)} {mc ms : Nat} (Sx : CallFix p m c cc nL s args Ts own) (hM : Met l y wx rm (wr_P D cl wc tyc H.size (.ref b :: As)) (va_Qv (fun _ : S => True) (fun u t => va_P D cl (wf u) t.heap ∧ va_K D cl (tf u) t ∧ va_D (va_A wc H.size) (wf u)) (va_A wc H.size)) mc ms (va_A wc H.size)) (cw : CallB R s args own index y bytes maxL none wx rm mc ms n ∧ y.name = "<init>" ∧ (Cond.instanceMethod y).before args s = true)
    (hP : va_P D cl ws H) (hD : va_D A ws) (hK : va_K D cl tys s) (hS : va_S A H0 H locs) (hA : ∀ q, H0.size ≤ q → A q) (isC isR it : List Nat) (hC : isC.map (fun i => ws[i]?) = wc.map some) (hR : isR.map (fun i => ws[i]?) = wr.map some) (hnC : va_nd isC = true) (hnR : va_nd isR = true) (hdis : ∀ i ∈ isR, i ∉ isC) (hit : it.filterMap (fun i => tys[i]?) = tyc)
    (hn : As.length = n) (hsz : ls.size = nL) (hst : st0 = As.reverse ++ .ref b :: rest) (hW : (rest.map fun v => v.category).sum ≤ 8) (hdg : decode cc pc = .ok (.invokespecial index, 3)) (hf : cells + mc ≤ R.cells ∧ slots + ms ≤ R.slots)
    (kk : ∀ (u : S) (H1 : Heap) (locs1 : List Loc), va_P D cl (wr ++ wf u) H1 → va_D A (wr ++ wf u) → va_K D cl (tys ++ tf u) s → va_S A H0 H1 locs1 → W p l e R s m args below meth c H1 locs1 (cells + mc) (slots + ms) Q (F0 m (pc + 3) ls rest)) : W p l e R s m args below meth c H locs cells slots Q (F0 m pc ls st0) := by
  have hPc : va_P D cl wc H := hP.sub isC (fm_some hC)
  have hDc : va_D A wc := hD.sub isC hnC hC
  have hKc : va_K D cl tyc s := hK.sub it hit
  have hF := va_free (wc := wc) hD hS hA isC hC
  refine va_callv (va_runI (g := F0 m pc ls st0) Sx hM cw ⟨fb_w, fun U hU hW => ⟨rfl, by rw [hU], by rw [hU]; exact hPc, va_K.moved hW.alike hKc, hDc.weaken (fun _ _ _ _ => trivial)⟩⟩ rfl hn hsz hst (by show 2 * 0 + _ ≤ 8; omega) hdg hf) hS (fun q _ h => hF q h) hF (fun u t H1 locs1 ht hvm hp hB hz hk hS1 => ?_)
  obtain ⟨hP1, hK1, hD1⟩ := hB
  rw [ht] at hP1
  have hK1 := va_K.moved hvm.symm hK1
  obtain ⟨hP2, hD2⟩ := va_join (wr := wr) (w1 := wf u) hP hD isC isR hC hR hnR hdis hk hF hP1 hD1
  exact kk u H1 locs1 hP2 hD2 (hK.app hK1) hS1
end BX
end
section
/-! ===== Int32 by its bits: bt x i ===== -/
def bt (x : Int32) (i : Nat) : Bool := x.toBitVec.getLsbD i
theorem b_ext {x y : Int32} (h : ∀ i, i < 32 → bt x i = bt y i) : x = y := Int32.toBitVec_inj.mp (BitVec.eq_of_getLsbD_eq (fun i hi => h i hi))
theorem b_or (x y : Int32) (i : Nat) : bt (x ||| y) i = (bt x i || bt y i) := by unfold bt; rw [Int32.toBitVec_or, BitVec.getLsbD_or]
theorem b_and (x y : Int32) (i : Nat) : bt (x &&& y) i = (bt x i && bt y i) := by unfold bt; rw [Int32.toBitVec_and, BitVec.getLsbD_and]
theorem b_xor (x y : Int32) (i : Nat) : bt (x ^^^ y) i = (bt x i ^^ bt y i) := by unfold bt; rw [Int32.toBitVec_xor, BitVec.getLsbD_xor]
theorem b_big {x : Int32} {i : Nat} (h : 32 ≤ i) : bt x i = false := BitVec.getLsbD_of_ge _ _ h
theorem b_255 (i : Nat) : bt 255 i = decide (i < 8) := by
  rcases Nat.lt_or_ge i 32 with h | h
  · exact (by decide +kernel : ∀ i, i < 32 → bt 255 i = decide (i < 8)) i h
  · rw [b_big h, decide_eq_false (by omega)]
theorem b_65535 (i : Nat) : bt 65535 i = decide (i < 16) := by
  rcases Nat.lt_or_ge i 32 with h | h
  · exact (by decide +kernel : ∀ i, i < 32 → bt 65535 i = decide (i < 16)) i h
  · rw [b_big h, decide_eq_false (by omega)]
theorem b_m1 : ∀ i, i < 32 → bt (-1) i = true := by decide +kernel
theorem b_0 (i : Nat) : bt 0 i = false := BitVec.getLsbD_zero
theorem s_l : ∀ n, n < 32 → ((nI n &&& 31).toBitVec.smod 32).toNat = n := by decide +kernel
theorem s_u : ∀ n, n < 32 → (((nI n).toUInt32 &&& Int32.toUInt32 31).toBitVec % 32).toNat = n := by decide +kernel
theorem b_shl (n : Nat) (hn : n < 32) (x : Int32) {i : Nat} (hi : i < 32) : bt (x <<< (nI n &&& 31)) i = (decide (n ≤ i) && bt x (i - n)) := by
  unfold bt
  rw [Int32.toBitVec_shiftLeft]
  show (x.toBitVec <<< ((nI n &&& 31).toBitVec.smod 32).toNat).getLsbD i = _
  rw [s_l n hn, BitVec.getLsbD_shiftLeft]
  rcases Nat.lt_or_ge i n with h | h
  · simp [h, Nat.not_le.mpr h]
  · simp [hi, h, Nat.not_lt.mpr h]
theorem b_ushr (n : Nat) (hn : n < 32) (x : Int32) (i : Nat) : bt ((x.toUInt32 >>> ((nI n).toUInt32 &&& Int32.toUInt32 31)).toInt32) i = bt x (n + i) := by
  show (x.toUInt32 >>> ((nI n).toUInt32 &&& Int32.toUInt32 31)).toBitVec.getLsbD i = x.toUInt32.toBitVec.getLsbD (n + i)
  rw [UInt32.toBitVec_shiftRight]
  show (x.toUInt32.toBitVec >>> (((nI n).toUInt32 &&& Int32.toUInt32 31).toBitVec % 32).toNat).getLsbD i = _
  rw [s_u n hn, BitVec.getLsbD_ushiftRight]
theorem b_sshr (n : Nat) (hn : n < 32) (x : Int32) {i : Nat} (hi : i < 32) : bt (x >>> (nI n &&& 31)) i = if n + i < 32 then bt x (n + i) else bt x 31 := by
  unfold bt
  rw [Int32.toBitVec_shiftRight]
  show (x.toBitVec.sshiftRight ((nI n &&& 31).toBitVec.smod 32).toNat).getLsbD i = _
  rw [s_l n hn, BitVec.getLsbD_sshiftRight, BitVec.msb_eq_getLsbD_last]
  simp [hi]
theorem b_shl8 (x : Int32) {i : Nat} (hi : i < 32) : bt (x <<< ((8 : Int32) &&& 31)) i = (decide (8 ≤ i) && bt x (i - 8)) := b_shl 8 (by omega) x hi
theorem b_shl16 (x : Int32) {i : Nat} (hi : i < 32) : bt (x <<< ((16 : Int32) &&& 31)) i = (decide (16 ≤ i) && bt x (i - 16)) := b_shl 16 (by omega) x hi
theorem b_shl24 (x : Int32) {i : Nat} (hi : i < 32) : bt (x <<< ((24 : Int32) &&& 31)) i = (decide (24 ≤ i) && bt x (i - 24)) := b_shl 24 (by omega) x hi
theorem b_sshr8 (x : Int32) {i : Nat} (hi : i < 32) : bt (x >>> ((8 : Int32) &&& 31)) i = if 8 + i < 32 then bt x (8 + i) else bt x 31 := b_sshr 8 (by omega) x hi
/-! ===== nI under and, xor, >>>, one bit, 65535 ===== -/
theorem nx_and (a b : Nat) : nI a &&& nI b = nI (a &&& b) := by
  apply Int32.toBitVec_inj.1
  show BitVec.ofNat 32 a &&& BitVec.ofNat 32 b = BitVec.ofNat 32 (a &&& b)
  apply BitVec.eq_of_getLsbD_eq
  intro i hi
  simp [hi]
theorem nx_xor (a b : Nat) : nI a ^^^ nI b = nI (a ^^^ b) := by
  apply Int32.toBitVec_inj.1
  show BitVec.ofNat 32 a ^^^ BitVec.ofNat 32 b = BitVec.ofNat 32 (a ^^^ b)
  apply BitVec.eq_of_getLsbD_eq
  intro i hi
  simp [hi]
theorem nx_cnt : ∀ j : Fin 32, (UInt32.ofNat j.val &&& Int32.toUInt32 31).toNat % 32 = j.val := by decide +kernel
theorem nx_ush {k j : Nat} (hk : k < 65536) (hj : j < 32) : ((nI k).toUInt32 >>> ((nI j).toUInt32 &&& Int32.toUInt32 31)).toInt32 = nI (k >>> j) := by
  have hs : k >>> j ≤ k := by
    rw [Nat.shiftRight_eq_div_pow]
    exact Nat.div_le_self _ _
  have e2 : UInt32.ofNat k >>> (UInt32.ofNat j &&& Int32.toUInt32 31) = UInt32.ofNat (k >>> j) := by
    apply UInt32.toNat_inj.1
    have h1 : (UInt32.ofNat k).toNat = k := Nat.mod_eq_of_lt (by omega)
    have h2 : (UInt32.ofNat (k >>> j)).toNat = k >>> j := Nat.mod_eq_of_lt (by omega)
    rw [UInt32.toNat_shiftRight, nx_cnt ⟨j, hj⟩, h1, h2]
  show (UInt32.ofNat k >>> (UInt32.ofNat j &&& Int32.toUInt32 31)).toInt32 = _
  rw [e2]
  rfl
theorem nx_bit {k j : Nat} (hk : k < 65536) (hj : j < 16) : (((nI k).toUInt32 >>> ((nI j).toUInt32 &&& Int32.toUInt32 31)).toInt32 &&& 1) = 0 ↔ k.testBit j = false := by
  rw [nx_ush hk (by omega)]
  show nI (k >>> j) &&& nI 1 = 0 ↔ _
  rw [nx_and, Nat.and_one_is_mod, ← nI_0, nI_eq (by omega) (by omega), Nat.testBit_eq_decide_div_mod_eq, Nat.shiftRight_eq_div_pow, decide_eq_false_iff_not]
  generalize k / 2 ^ j = z
  omega
theorem nx_mod (k : Nat) : nI k &&& 65535 = nI (k % 65536) := by
  show nI k &&& nI 65535 = _
  rw [nx_and, show (65535 : Nat) = 2 ^ 16 - 1 from rfl, Nat.and_two_pow_sub_one_eq_mod]
theorem nx_m16 {k : Nat} (h : k < 65536) : nI k &&& 65535 = nI k := by rw [nx_mod, Nat.mod_eq_of_lt h]
theorem nx_mask (x : Int32) : ∃ k, k < 65536 ∧ x &&& 65535 = nI k := by
  have e : x = nI x.toBitVec.toNat := by
    apply Int32.toBitVec_inj.1
    show x.toBitVec = BitVec.ofNat 32 x.toBitVec.toNat
    simp
  refine ⟨x.toBitVec.toNat % 65536, Nat.mod_lt _ (by omega), ?_⟩
  rw [← nx_mod, ← e]
/-! ===== a byte read unsigned ===== -/
theorem bp_b (x : Int32) : x.toInt8.toInt32 &&& 255 = x &&& 255 := by
  apply Int32.toBitVec_inj.mp
  rw [Int32.toBitVec_and, Int32.toBitVec_and, Int8.toBitVec_toInt32, Int32.toBitVec_toInt8]
  apply BitVec.eq_of_getLsbD_eq
  intro i hi
  rw [BitVec.getLsbD_and, BitVec.getLsbD_and]
  have hm : ∀ i < 32, 8 ≤ i → (255 : Int32).toBitVec.getLsbD i = false := by decide
  rcases Nat.lt_or_ge i 8 with z | z
  · rw [BitVec.getLsbD_signExtend, BitVec.getLsbD_signExtend, if_pos z, if_pos hi]
    simp only [z, hi, decide_true, Bool.true_and]
  · rw [hm i hi z]; simp
/-! ===== lN n to 2^64: shifts, and, or, masks, one bit ===== -/
theorem wb_tb (n : Nat) : (lN n).toBitVec = BitVec.ofNat 64 n := rfl
theorem wb_inj {a b : Int64} (h : a.toBitVec = b.toBitVec) : a = b := Int64.toBitVec_inj.mp h
theorem wb_tn {n : Nat} (h : n < 2 ^ 64) : (lN n).toBitVec.toNat = n := by rw [wb_tb, BitVec.toNat_ofNat, Nat.mod_eq_of_lt h]
theorem wb_of (x : Int64) : ∃ n, n < 2 ^ 64 ∧ x = lN n := ⟨x.toBitVec.toNat, x.toBitVec.isLt, wb_inj (by rw [wb_tb]; simp)⟩
theorem wb_of32 (x : Int32) : ∃ n, n < 2 ^ 32 ∧ x = nI n := ⟨x.toBitVec.toNat, x.toBitVec.isLt, Int32.toBitVec_inj.mp (by show _ = BitVec.ofNat 32 _; simp)⟩
theorem wb_c : ∀ k, k < 64 → ((nI k).toInt64 &&& 63) = lN k := by decide +kernel
theorem wb_cu : ∀ k, k < 64 → ((nI k).toInt64.toUInt64 &&& Int64.toUInt64 63) = UInt64.ofNat k := by decide +kernel
theorem wb_sm : ∀ k, k < 64 → (BitVec.ofNat 64 k).smod 64 = BitVec.ofNat 64 k := by decide +kernel
theorem wb_pw {a b : Nat} (h : a ≤ b) : 2 ^ b = 2 ^ a * 2 ^ (b - a) := by rw [← Nat.pow_add]; congr 1; omega
theorem wb_lt2 {a b : Nat} (h : a < b) : 2 ^ a < 2 ^ b := Nat.pow_lt_pow_right (by decide) h
theorem wb_mod (n : Nat) : lN n = lN (n % 2 ^ 64) := wb_inj (by rw [wb_tb, wb_tb]; apply BitVec.eq_of_toNat_eq; rw [BitVec.toNat_ofNat, BitVec.toNat_ofNat, Nat.mod_mod])
theorem wb_shr {n k : Nat} (hn : n < 2 ^ 64) (hk : k < 64) : ((lN n).toUInt64 >>> ((nI k).toInt64.toUInt64 &&& Int64.toUInt64 63)).toInt64 = lN (n / 2 ^ k) := by
  rw [wb_cu k hk]
  apply wb_inj
  apply BitVec.eq_of_toNat_eq
  show ((lN n).toUInt64 >>> UInt64.ofNat k).toNat = (BitVec.ofNat 64 _).toNat
  have h1 : (UInt64.ofNat k).toNat = k := by
    show (BitVec.ofNat 64 k).toNat = k
    rw [BitVec.toNat_ofNat, Nat.mod_eq_of_lt (by omega)]
  have h2 : (lN n).toUInt64.toNat = n := wb_tn hn
  rw [UInt64.toNat_shiftRight, h1, h2, Nat.mod_eq_of_lt hk, Nat.shiftRight_eq_div_pow, BitVec.toNat_ofNat, Nat.mod_eq_of_lt (Nat.lt_of_le_of_lt (Nat.div_le_self _ _) hn)]
theorem wb_shl (n : Nat) {k : Nat} (hk : k < 64) : lN n <<< ((nI k).toInt64 &&& 63) = lN (n * 2 ^ k) := by
  rw [wb_c k hk]
  apply wb_inj
  rw [Int64.toBitVec_shiftLeft, wb_tb, wb_tb, wb_tb, wb_sm k hk]
  apply BitVec.eq_of_toNat_eq
  rw [BitVec.shiftLeft_eq', BitVec.toNat_shiftLeft, BitVec.toNat_ofNat, BitVec.toNat_ofNat, BitVec.toNat_ofNat, Nat.mod_eq_of_lt (show k < 2 ^ 64 by omega), Nat.shiftLeft_eq, Nat.mul_mod, Nat.mod_mod, ← Nat.mul_mod]
theorem wb_and {a b : Nat} (ha : a < 2 ^ 64) (hb : b < 2 ^ 64) : lN a &&& lN b = lN (a &&& b) := by
  apply wb_inj
  rw [Int64.toBitVec_and, wb_tb, wb_tb, wb_tb]
  apply BitVec.eq_of_toNat_eq
  rw [BitVec.toNat_and, BitVec.toNat_ofNat, BitVec.toNat_ofNat, BitVec.toNat_ofNat, Nat.mod_eq_of_lt ha, Nat.mod_eq_of_lt hb, Nat.mod_eq_of_lt (Nat.and_lt_two_pow _ hb)]
theorem wb_or {a b : Nat} (ha : a < 2 ^ 64) (hb : b < 2 ^ 64) : lN a ||| lN b = lN (a ||| b) := by
  apply wb_inj
  rw [Int64.toBitVec_or, wb_tb, wb_tb, wb_tb]
  apply BitVec.eq_of_toNat_eq
  rw [BitVec.toNat_or, BitVec.toNat_ofNat, BitVec.toNat_ofNat, BitVec.toNat_ofNat, Nat.mod_eq_of_lt ha, Nat.mod_eq_of_lt hb, Nat.mod_eq_of_lt (Nat.or_lt_two_pow ha hb)]
theorem wb_mask {n k : Nat} (hn : n < 2 ^ 64) (hk : k < 64) : lN n &&& lN (2 ^ k - 1) = lN (n % 2 ^ k) := by
  rw [wb_and hn (by have := wb_lt2 hk; omega), Nat.and_two_pow_sub_one_eq_mod]
theorem wb_a1 {n : Nat} (hn : n < 2 ^ 64) : lN n &&& 1 = lN (n % 2) := wb_mask (k := 1) hn (by decide)
theorem wb_bit {n k : Nat} (hn : n < 2 ^ 64) (hk : k < 64) : ((lN n).toUInt64 >>> ((nI k).toInt64.toUInt64 &&& Int64.toUInt64 63)).toInt64 &&& 1 = lN (n / 2 ^ k % 2) := by
  rw [wb_shr hn hk, wb_a1 (Nat.lt_of_le_of_lt (Nat.div_le_self _ _) hn)]
theorem wb_xor {q k : Nat} (hk : k < 63) (h : 2 ^ k ≤ q) (h2 : q < 2 ^ (k + 1)) : lN q ^^^ lN (2 ^ k) = lN (q - 2 ^ k) := by
  obtain ⟨r, rfl⟩ : ∃ r, q = 2 ^ k + r := ⟨q - 2 ^ k, by omega⟩
  have hr : r < 2 ^ k := by rw [Nat.pow_succ] at h2; omega
  have hx : (2 ^ k + r) ^^^ 2 ^ k = r := by
    apply Nat.eq_of_testBit_eq
    intro i
    rw [Nat.testBit_xor, Nat.testBit_two_pow]
    rcases Nat.lt_trichotomy i k with h | h | h
    · rw [Nat.testBit_two_pow_add_gt h]
      simp [show ¬ k = i by omega]
    · subst h
      rw [Nat.testBit_two_pow_add_eq]
      simp
    · have a1 : 2 ^ (k + 1) ≤ 2 ^ i := Nat.pow_le_pow_right (by decide) h
      rw [Nat.testBit_lt_two_pow (show 2 ^ k + r < 2 ^ i by omega), Nat.testBit_lt_two_pow (show r < 2 ^ i by omega)]
      simp [show ¬ k = i by omega]
  have b1 := wb_lt2 (show k + 1 < 64 by omega)
  have b2 := wb_lt2 (show k < 64 by omega)
  apply wb_inj
  rw [Int64.toBitVec_xor, wb_tb, wb_tb, wb_tb]
  apply BitVec.eq_of_toNat_eq
  rw [BitVec.toNat_xor, BitVec.toNat_ofNat, BitVec.toNat_ofNat, BitVec.toNat_ofNat, Nat.mod_eq_of_lt (by omega : 2 ^ k + r < 2 ^ 64), Nat.mod_eq_of_lt b2, hx, Nat.add_sub_cancel_left, Nat.mod_eq_of_lt (by omega)]
/-! ===== lN: masks, 'or' of parts that don't overlap is a sum ===== -/
theorem u_tn {n : Nat} (h : n < 2 ^ 64) : (UInt64.ofNat n).toNat = n := Nat.mod_eq_of_lt h
theorem g_and {a b c : Nat} (ha : a < 2 ^ 64) (hb : b < 2 ^ 64) (hc : a &&& b = c) : lN a &&& lN b = lN c := by
  subst hc
  have h : UInt64.ofNat a &&& UInt64.ofNat b = UInt64.ofNat (a &&& b) := UInt64.toNat_inj.mp (by rw [UInt64.toNat_and, u_tn ha, u_tn hb, u_tn (Nat.and_lt_two_pow a hb)])
  have h2 := congrArg UInt64.toInt64 h
  exact h2
theorem g_and1 {a : Nat} (ha : a < 2 ^ 64) : lN a &&& 1 = lN (a % 2) := g_and (b := 1) ha (by decide) (Nat.and_two_pow_sub_one_eq_mod a 1)
theorem g_mask {a s p : Nat} (hp : 2 ^ s = p) (hs : s < 64) (ha : a < 2 ^ 64) : lN a &&& lN (p - 1) = lN (a % p) := by
  subst hp
  have := Nat.pow_lt_pow_right (show 1 < 2 by decide) hs
  exact g_and ha (by omega) (Nat.and_two_pow_sub_one_eq_mod a s)
theorem g_or {k p a b : Nat} (hp : 2 ^ k = p) (ha : a < p) (h : b * p + a < 2 ^ 64) : lN (b * p) ||| lN a = lN (b * p + a) := by
  subst hp
  have h1 : b * 2 ^ k ||| a = b * 2 ^ k + a := by rw [← Nat.shiftLeft_eq, Nat.shiftLeft_add_eq_or_of_lt ha]
  have h3 : UInt64.ofNat (b * 2 ^ k) ||| UInt64.ofNat a = UInt64.ofNat (b * 2 ^ k + a) := UInt64.toNat_inj.mp (by rw [UInt64.toNat_or, u_tn (by omega), u_tn (by omega), u_tn h, h1])
  have h2 := congrArg UInt64.toInt64 h3
  exact h2
theorem g_or' {k p a b : Nat} (hp : 2 ^ k = p) (ha : a < p) (h : a + b * p < 2 ^ 64) : lN a ||| lN (b * p) = lN (a + b * p) := by
  rw [Int64.or_comm, g_or hp ha (by omega), Nat.add_comm]
theorem g_ushr {a k p : Nat} {y : UInt64} (hy : y = UInt64.ofNat k) (hk : k < 64) (hp : 2 ^ k = p) (ha : a < 2 ^ 64) : ((lN a).toUInt64 >>> y).toInt64 = lN (a / p) := by
  subst hy hp
  have h : UInt64.ofNat a >>> UInt64.ofNat k = UInt64.ofNat (a / 2 ^ k) := UInt64.toNat_inj.mp (by rw [UInt64.toNat_shiftRight, u_tn ha, u_tn (by omega), u_tn (Nat.lt_of_le_of_lt (Nat.div_le_self _ _) ha), Nat.mod_eq_of_lt hk, Nat.shiftRight_eq_div_pow])
  have h2 := congrArg UInt64.toInt64 h
  exact h2
theorem g_shl {a k p : Nat} {y : Int64} (hy : y.toBitVec.smod 64 = BitVec.ofNat 64 k) (hk : k < 64) (hp : 2 ^ k = p) (ha : a < 2 ^ 64) : lN a <<< y = lN (a * p) := by
  subst hp
  apply Int64.toBitVec_inj.mp
  rw [Int64.toBitVec_shiftLeft, hy]
  apply BitVec.eq_of_toNat_eq
  have hb : (lN a).toBitVec.toNat = a := Nat.mod_eq_of_lt ha
  have hk' : (BitVec.ofNat 64 k).toNat = k := Nat.mod_eq_of_lt (by omega)
  have h : ((lN a).toBitVec <<< BitVec.ofNat 64 k).toNat = (a * 2 ^ k) % 2 ^ 64 := by simp only [BitVec.shiftLeft_eq', BitVec.toNat_shiftLeft, hb, hk', Nat.shiftLeft_eq]
  exact h
/-! ===== unsigned comparison by xor with the least ===== -/
theorem lN_bv (n : Nat) : (lN n).toBitVec = BitVec.ofNat 64 n := rfl
theorem lN_nat {n : Nat} (h : n < 2 ^ 64) : (lN n).toBitVec.toNat = n := by rw [lN_bv, BitVec.toNat_ofNat]; exact Nat.mod_eq_of_lt h
theorem lN_xor (a b : Nat) : lN a ^^^ lN b = lN (a ^^^ b) := by
  apply Int64.toBitVec_inj.mp; rw [Int64.toBitVec_xor, lN_bv, lN_bv, lN_bv]; apply BitVec.eq_of_getLsbD_eq; intro i hi; simp [BitVec.getLsbD_ofNat, Nat.testBit_xor, hi]
theorem lN_ti {m : Nat} (h : m < 2 ^ 64) : (lN m).toInt = if m < 2 ^ 63 then (m : Int) else (m : Int) - 2 ^ 64 := by
  have c := BitVec.toInt_eq_toNat_cond (lN m).toBitVec
  rw [lN_nat h] at c
  show (lN m).toBitVec.toInt = _
  rw [c]
  split <;> split <;> omega
theorem xor63 {x : Nat} (h : x < 2 ^ 63) : x ^^^ 2 ^ 63 = 2 ^ 63 + x := by
  apply Nat.eq_of_testBit_eq
  intro i
  rw [Nat.testBit_xor, Nat.testBit_two_pow]
  rcases Nat.lt_trichotomy i 63 with z | z | z
  · rw [Nat.testBit_two_pow_add_gt z, decide_eq_false (by omega)]; simp
  · subst z; rw [Nat.testBit_two_pow_add_eq]; simp
  · have hp : 2 ^ 64 ≤ 2 ^ i := Nat.pow_le_pow_right (by decide) z
    rw [Nat.testBit_lt_two_pow (show x < 2 ^ i by omega), Nat.testBit_lt_two_pow (show 2 ^ 63 + x < 2 ^ i by omega), decide_eq_false (by omega)]; rfl
theorem xorS {a : Nat} (h : a < 2 ^ 64) : (lN a ^^^ (-9223372036854775808)).toInt = (a : Int) - 2 ^ 63 := by
  rw [show (-9223372036854775808 : Int64) = lN (2 ^ 63) from by decide +kernel, lN_xor]
  rcases Nat.lt_or_ge a (2 ^ 63) with z | z
  · rw [xor63 z, lN_ti (by omega), if_neg (by omega)]; omega
  · obtain ⟨x, rfl⟩ : ∃ x, a = 2 ^ 63 + x := ⟨a - 2 ^ 63, by omega⟩
    rw [← xor63 (by omega), Nat.xor_assoc, Nat.xor_self, Nat.xor_zero, lN_ti (by omega), if_pos (by omega), xor63 (by omega)]; omega
theorem ultL {a b : Nat} (ha : a < 2 ^ 64) (hb : b < 2 ^ 64) : ((lN b ^^^ (-9223372036854775808)) ≤ (lN a ^^^ (-9223372036854775808))) ↔ b ≤ a := by
  rw [Int64.le_iff_toInt_le, xorS ha, xorS hb]; omega
end
section
/-! the mathematics of the tape: T its bytes, n their number -/
def az_tp (f : Nat → Int32) (T : Nat → Nat) (n : Nat) : Prop := ∀ j, j < n → f j = sb_b (T j) ∧ T j < 256
def az_o (o : Option Nat) : Int32 := match o with
  | none => -1
  | some v => nI v
def az_hd (c : Nat) : Option Nat := if 48 ≤ c ∧ c ≤ 57 then some (c - 48) else if 97 ≤ c ∧ c ≤ 102 then some (c - 97 + 10) else if 65 ≤ c ∧ c ≤ 70 then some (c - 65 + 10) else none
theorem az_hd_a {c : Nat} (h : 48 ≤ c) (h2 : c ≤ 57) : az_hd c = some (c - 48) := by unfold az_hd; rw [if_pos ⟨h, h2⟩]
theorem az_hd_b {c : Nat} (h : 97 ≤ c) (h2 : c ≤ 102) : az_hd c = some (c - 97 + 10) := by unfold az_hd; rw [if_neg (by omega), if_pos ⟨h, h2⟩]
theorem az_hd_c {c : Nat} (h : 65 ≤ c) (h2 : c ≤ 70) : az_hd c = some (c - 65 + 10) := by unfold az_hd; rw [if_neg (by omega), if_neg (by omega), if_pos ⟨h, h2⟩]
theorem az_hd_n {c : Nat} (h1 : c < 48 ∨ 57 < c) (h2 : c < 97 ∨ 102 < c) (h3 : c < 65 ∨ 70 < c) : az_hd c = none := by unfold az_hd; rw [if_neg (by omega), if_neg (by omega), if_neg (by omega)]
/-- a digit: one of ten, or a letter -/
theorem az_hd_q {c d : Nat} (h : az_hd c = some d) : (d ≤ 9 ∧ 48 ≤ c ∧ c ≤ 57 ∧ d = c - 48) ∨ (9 < d ∧ d < 16 ∧ 57 < c ∧ c ≤ 102) := by
  unfold az_hd at h
  split at h
  · cases h; omega
  · split at h
    · cases h; omega
    · split at h
      · cases h; omega
      · cases h
theorem az_hd_lt {c d : Nat} (h : az_hd c = some d) : d < 16 := by rcases az_hd_q h with q | q <;> omega
theorem az_hd_ne {c : Nat} (h : az_hd c = none) : ¬ (48 ≤ c ∧ c ≤ 57) := fun q => by rw [az_hd_a q.1 q.2] at h; cases h
theorem az_hd_58 : az_hd 58 = none := rfl
/-! the first place of a mark -/
def az_plF (T : Nat → Nat) (mk : Nat) : Nat → Nat → Nat
  | 0, i => i
  | k + 1, i => if T i = mk then i else az_plF T mk k (i + 1)
def az_pl (T : Nat → Nat) (n mk i : Nat) : Nat := if i ≤ n then az_plF T mk (n - i) i else n
theorem az_pl_hit {T : Nat → Nat} {n mk i : Nat} (h : i < n) (e : T i = mk) : az_pl T n mk i = i := by
  unfold az_pl
  rw [if_pos (Nat.le_of_lt h), show n - i = (n - i - 1) + 1 by omega]
  show (if T i = mk then i else _) = i
  rw [if_pos e]
theorem az_pl_miss {T : Nat → Nat} {n mk i : Nat} (h : i < n) (e : T i ≠ mk) : az_pl T n mk i = az_pl T n mk (i + 1) := by
  unfold az_pl
  rw [if_pos (Nat.le_of_lt h), if_pos (show i + 1 ≤ n from h), show n - i = (n - (i + 1)) + 1 by omega]
  show (if T i = mk then i else _) = _
  rw [if_neg e]
theorem az_pl_end {T : Nat → Nat} {n mk i : Nat} (h : n ≤ i) : az_pl T n mk i = n := by
  unfold az_pl
  by_cases q : i ≤ n
  · rw [if_pos q, show n - i = 0 by omega]
    show i = n
    omega
  · rw [if_neg q]
/-- what is known of the first place -/
theorem az_pl_spec {T : Nat → Nat} {n mk : Nat} : ∀ (k i : Nat), i ≤ n → n - i = k → i ≤ az_pl T n mk i ∧ az_pl T n mk i ≤ n ∧ (∀ j, i ≤ j → j < az_pl T n mk i → T j ≠ mk) ∧ (az_pl T n mk i < n → T (az_pl T n mk i) = mk) := by
  intro k
  induction k with
  | zero =>
    intro i h1 h2
    rw [az_pl_end (show n ≤ i by omega)]
    refine ⟨h1, Nat.le_refl _, fun j h3 h4 => by omega, fun h3 => by omega⟩
  | succ k ih =>
    intro i h1 h2
    have hlt : i < n := by omega
    by_cases e : T i = mk
    · rw [az_pl_hit hlt e]
      exact ⟨Nat.le_refl _, h1, fun j h3 h4 => by omega, fun _ => e⟩
    · rw [az_pl_miss hlt e]
      obtain ⟨q1, q2, q3, q4⟩ := ih (i + 1) hlt (by omega)
      refine ⟨by omega, q2, fun j h3 h4 => ?_, q4⟩
      by_cases hj : j = i
      · rw [hj]; exact e
      · exact q3 j (by omega) h4
theorem az_pl_le {T : Nat → Nat} {n mk i : Nat} : az_pl T n mk i ≤ n := by
  by_cases h : i ≤ n
  · exact (az_pl_spec _ i h rfl).2.1
  · rw [az_pl_end (by omega)]; exact Nat.le_refl _
theorem az_pl_ge {T : Nat → Nat} {n mk i : Nat} (h : i ≤ n) : i ≤ az_pl T n mk i := (az_pl_spec _ i h rfl).1
theorem az_pl_ne {T : Nat → Nat} {n mk i j : Nat} (h : i ≤ n) (h1 : i ≤ j) (h2 : j < az_pl T n mk i) : T j ≠ mk := (az_pl_spec _ i h rfl).2.2.1 j h1 h2
theorem az_pl_at {T : Nat → Nat} {n mk i : Nat} (h : i ≤ n) (h1 : az_pl T n mk i < n) : T (az_pl T n mk i) = mk := (az_pl_spec _ i h rfl).2.2.2 h1
/-- the place is known by what holds of it -/
theorem az_pl_eq {T : Nat → Nat} {n mk i p : Nat} (h1 : i ≤ p) (h2 : p ≤ n) (h3 : ∀ j, i ≤ j → j < p → T j ≠ mk) (h4 : p < n → T p = mk) : az_pl T n mk i = p := by
  have hi : i ≤ n := Nat.le_trans h1 h2
  have g1 := az_pl_ge (T := T) (n := n) (mk := mk) hi
  have g2 := az_pl_le (T := T) (n := n) (mk := mk) (i := i)
  rcases Nat.lt_trichotomy (az_pl T n mk i) p with q | q | q
  · exact absurd (az_pl_at hi (by omega)) (h3 _ g1 q)
  · exact q
  · exact absurd (h4 (by omega)) (az_pl_ne hi h1 q)
/-! the first place of :: -/
def az_gpF (T : Nat → Nat) (n : Nat) : Nat → Nat → Nat
  | 0, i => i
  | k + 1, i => if T i = 58 ∧ i + 1 < n ∧ T (i + 1) = 58 then i else az_gpF T n k (i + 1)
def az_gp (T : Nat → Nat) (n i : Nat) : Nat := if i ≤ n then az_gpF T n (n - i) i else n
theorem az_gp_hit {T : Nat → Nat} {n i : Nat} (h : i < n) (e : T i = 58) (h2 : i + 1 < n) (e2 : T (i + 1) = 58) : az_gp T n i = i := by
  unfold az_gp
  rw [if_pos (Nat.le_of_lt h), show n - i = (n - i - 1) + 1 by omega]
  show (if T i = 58 ∧ i + 1 < n ∧ T (i + 1) = 58 then i else _) = i
  rw [if_pos ⟨e, h2, e2⟩]
theorem az_gp_miss {T : Nat → Nat} {n i : Nat} (h : i < n) (e : ¬ (T i = 58 ∧ i + 1 < n ∧ T (i + 1) = 58)) : az_gp T n i = az_gp T n (i + 1) := by
  unfold az_gp
  rw [if_pos (Nat.le_of_lt h), if_pos (show i + 1 ≤ n from h), show n - i = (n - (i + 1)) + 1 by omega]
  show (if T i = 58 ∧ i + 1 < n ∧ T (i + 1) = 58 then i else _) = _
  rw [if_neg e]
theorem az_gp_end {T : Nat → Nat} {n i : Nat} (h : n ≤ i) : az_gp T n i = n := by
  unfold az_gp
  by_cases q : i ≤ n
  · rw [if_pos q, show n - i = 0 by omega]
    show i = n
    omega
  · rw [if_neg q]
theorem az_gp_spec {T : Nat → Nat} {n : Nat} : ∀ (k i : Nat), i ≤ n → n - i = k → i ≤ az_gp T n i ∧ az_gp T n i ≤ n ∧ (∀ j, i ≤ j → j < az_gp T n i → ¬ (T j = 58 ∧ j + 1 < n ∧ T (j + 1) = 58)) ∧ (az_gp T n i < n → T (az_gp T n i) = 58 ∧ az_gp T n i + 1 < n ∧ T (az_gp T n i + 1) = 58) := by
  intro k
  induction k with
  | zero =>
    intro i h1 h2
    rw [az_gp_end (show n ≤ i by omega)]
    refine ⟨h1, Nat.le_refl _, fun j h3 h4 => by omega, fun h3 => by omega⟩
  | succ k ih =>
    intro i h1 h2
    have hlt : i < n := by omega
    by_cases e : T i = 58 ∧ i + 1 < n ∧ T (i + 1) = 58
    · rw [az_gp_hit hlt e.1 e.2.1 e.2.2]
      exact ⟨Nat.le_refl _, h1, fun j h3 h4 => by omega, fun _ => e⟩
    · rw [az_gp_miss hlt e]
      obtain ⟨q1, q2, q3, q4⟩ := ih (i + 1) hlt (by omega)
      refine ⟨by omega, q2, fun j h3 h4 => ?_, q4⟩
      by_cases hj : j = i
      · rw [hj]; exact e
      · exact q3 j (by omega) h4
theorem az_gp_le {T : Nat → Nat} {n i : Nat} : az_gp T n i ≤ n := by
  by_cases h : i ≤ n
  · exact (az_gp_spec _ i h rfl).2.1
  · rw [az_gp_end (by omega)]; exact Nat.le_refl _
/-! how many parts -/
def az_clF (T : Nat → Nat) : Nat → Nat → Nat
  | 0, _ => 0
  | k + 1, i => (if T i = 58 then 1 else 0) + az_clF T k (i + 1)
def az_cn (T : Nat → Nat) (fr to : Nat) : Nat := if to ≤ fr then 0 else 1 + az_clF T (to - fr) fr
theorem az_cn_0 {T : Nat → Nat} {fr to : Nat} (h : to ≤ fr) : az_cn T fr to = 0 := by unfold az_cn; rw [if_pos h]
theorem az_cn_1 {T : Nat → Nat} {fr to : Nat} (h : fr < to) : az_cn T fr to = 1 + az_clF T (to - fr) fr := by unfold az_cn; rw [if_neg (Nat.not_le.mpr h)]
theorem az_cl_hit {T : Nat → Nat} {i to : Nat} (h : i < to) (e : T i = 58) : az_clF T (to - i) i = 1 + az_clF T (to - (i + 1)) (i + 1) := by
  rw [show to - i = (to - (i + 1)) + 1 by omega]
  show (if T i = 58 then 1 else 0) + _ = _
  rw [if_pos e]
theorem az_cl_miss {T : Nat → Nat} {i to : Nat} (h : i < to) (e : T i ≠ 58) : az_clF T (to - i) i = az_clF T (to - (i + 1)) (i + 1) := by
  rw [show to - i = (to - (i + 1)) + 1 by omega]
  show (if T i = 58 then 1 else 0) + _ = _
  rw [if_neg e]
  omega
theorem az_cl_le (T : Nat → Nat) : ∀ k i, az_clF T k i ≤ k
  | 0, _ => Nat.le_refl _
  | k + 1, i => by
    have := az_cl_le T k (i + 1)
    show (if T i = 58 then 1 else 0) + az_clF T k (i + 1) ≤ k + 1
    split <;> omega
theorem az_cn_le {T : Nat → Nat} {fr to : Nat} : az_cn T fr to ≤ to + 1 := by
  by_cases h : to ≤ fr
  · rw [az_cn_0 h]; omega
  · rw [az_cn_1 (by omega)]
    have := az_cl_le T (to - fr) fr
    omega
/-! a hexadecimal part -/
def az_hxF (T : Nat → Nat) : Nat → Nat → Nat → Option Nat
  | 0, _, v => some v
  | k + 1, i, v => match az_hd (T i) with
    | none => none
    | some d => az_hxF T k (i + 1) (v * 16 + d)
def az_hx (T : Nat → Nat) (fr to : Nat) : Option Nat := if to ≤ fr ∨ fr + 4 < to then none else az_hxF T (to - fr) fr 0
theorem az_hx_n {T : Nat → Nat} {fr to : Nat} (h : to ≤ fr ∨ fr + 4 < to) : az_hx T fr to = none := by unfold az_hx; rw [if_pos h]
theorem az_hx_s {T : Nat → Nat} {fr to : Nat} (h : fr < to) (h2 : to ≤ fr + 4) : az_hx T fr to = az_hxF T (to - fr) fr 0 := by unfold az_hx; rw [if_neg (by omega)]
theorem az_hx_bad {T : Nat → Nat} {i to v : Nat} (h : i < to) (e : az_hd (T i) = none) : az_hxF T (to - i) i v = none := by
  rw [show to - i = (to - (i + 1)) + 1 by omega]
  show (match az_hd (T i) with | none => none | some d => az_hxF T (to - (i + 1)) (i + 1) (v * 16 + d)) = none
  rw [e]
theorem az_hx_step {T : Nat → Nat} {i to v d : Nat} (h : i < to) (e : az_hd (T i) = some d) : az_hxF T (to - i) i v = az_hxF T (to - (i + 1)) (i + 1) (v * 16 + d) := by
  rw [show to - i = (to - (i + 1)) + 1 by omega]
  show (match az_hd (T i) with | none => none | some d => az_hxF T (to - (i + 1)) (i + 1) (v * 16 + d)) = _
  rw [e]
theorem az_p16 : ∀ {k : Nat}, k < 4 → 16 ^ k ≤ 4096
  | 0, _ => by decide
  | 1, _ => by decide
  | 2, _ => by decide
  | 3, _ => by decide
  | _ + 4, h => by omega
theorem az_p16s {v d k : Nat} (hv : v < 16 ^ k) (hd : d < 16) : v * 16 + d < 16 ^ (k + 1) := by
  have := Nat.pow_succ 16 k
  omega
/-! a decimal number -/
def az_dcF (T : Nat → Nat) (most : Nat) : Nat → Nat → Nat → Option Nat
  | 0, _, v => some v
  | k + 1, i, v => if 48 ≤ T i ∧ T i ≤ 57 then (if most < v * 10 + (T i - 48) then none else az_dcF T most k (i + 1) (v * 10 + (T i - 48))) else none
def az_dc (T : Nat → Nat) (fr to most : Nat) : Option Nat := if to ≤ fr ∨ (T fr = 48 ∧ 1 < to - fr) then none else az_dcF T most (to - fr) fr 0
theorem az_dc_n {T : Nat → Nat} {fr to most : Nat} (h : to ≤ fr ∨ (T fr = 48 ∧ 1 < to - fr)) : az_dc T fr to most = none := by unfold az_dc; rw [if_pos h]
theorem az_dc_s {T : Nat → Nat} {fr to most : Nat} (h : ¬ (to ≤ fr ∨ (T fr = 48 ∧ 1 < to - fr))) : az_dc T fr to most = az_dcF T most (to - fr) fr 0 := by unfold az_dc; rw [if_neg h]
theorem az_dc_bad {T : Nat → Nat} {most i to v : Nat} (h : i < to) (e : ¬ (48 ≤ T i ∧ T i ≤ 57)) : az_dcF T most (to - i) i v = none := by
  rw [show to - i = (to - (i + 1)) + 1 by omega]
  show (if 48 ≤ T i ∧ T i ≤ 57 then _ else none) = _
  rw [if_neg e]
theorem az_dc_big {T : Nat → Nat} {most i to v : Nat} (h : i < to) (e : 48 ≤ T i ∧ T i ≤ 57) (hm : most < v * 10 + (T i - 48)) : az_dcF T most (to - i) i v = none := by
  rw [show to - i = (to - (i + 1)) + 1 by omega]
  show (if 48 ≤ T i ∧ T i ≤ 57 then (if most < v * 10 + (T i - 48) then none else _) else none) = _
  rw [if_pos e, if_pos hm]
theorem az_dc_step {T : Nat → Nat} {most i to v : Nat} (h : i < to) (e : 48 ≤ T i ∧ T i ≤ 57) (hm : v * 10 + (T i - 48) ≤ most) : az_dcF T most (to - i) i v = az_dcF T most (to - (i + 1)) (i + 1) (v * 10 + (T i - 48)) := by
  rw [show to - i = (to - (i + 1)) + 1 by omega]
  show (if 48 ≤ T i ∧ T i ≤ 57 then (if most < v * 10 + (T i - 48) then none else _) else none) = _
  rw [if_pos e, if_neg (Nat.not_lt.mpr hm)]
theorem az_nor (a b : Nat) : nI a ||| nI b = nI (a ||| b) := by
  apply Int32.toBitVec_inj.1
  show BitVec.ofNat 32 a ||| BitVec.ofNat 32 b = BitVec.ofNat 32 (a ||| b)
  apply BitVec.eq_of_getLsbD_eq
  intro i hi
  simp [hi]
theorem az_or16 {v d : Nat} (h : d < 16) : nI (v * 16) ||| nI d = nI (v * 16 + d) := by
  rw [az_nor]
  congr 1
  have := Nat.two_pow_add_eq_or_of_lt (i := 4) h v
  rw [Nat.mul_comm v 16]
  exact this.symm
end
section
set_option maxRecDepth 100000 in
set_option maxHeartbeats 4000000 in
/-- tapeAt(i) within the tape -/
theorem ct_tapeAt_in (l : Launch) (dC : Nat → ClassId) (dI : Nat → Nat → Nat) (h0 ht hw a1 a2 a3 n w : Nat) (cT : ClassId) (f : Nat → Int32) (T : Nat → Nat) (hT : az_tp f T n) (hn : n ≤ 60) (i : Nat) (hi : i < n) : Met l yX1_tapeAt wsX1_tapeAt ({ frames := 0, cells := 0, slots := 0, locals := 0 }) (rd_P (dC, dI) azCl [(h0, .inr (1, [.ref ht, .int (nI n), .ref hw, .int (nI w), .ref a1, .ref a2, .ref a3])), (ht, .inl (cT, 60, .inl f))] [(cT, .byte)] [.ref h0, .int (nI i)]) (vp_Si (fun r => r = nI (T i))) 0 0 (fun _ => False) := by
  refine Met.ofW (cc := cX1_tapeAt) (maxL := 2) (ret := (some .int)) (by decide) rfl ?_
  intro p e s m args below meth c s₁ Bd hml hv
  obtain ⟨rfl, hP, hK⟩ := hv
  have hx := Bd.exec
  have hb := Bd.bytes
  have hr := Bd.returns
  have hts := atoms_spec (ws := wsX1_tapeAt) Bd.pre
  have hown : s.vm.findClass RX1 = some m.cls := findClass_of_methodNamed Bd.named
  have hlocks := Bd.notSynchronized
  have hiX1 : ∀ w ∈ wsX10, w ∈ wsX1_tapeAt := by decide +kernel
  have hf13 := hts (.fieldLink RX1 13 "AddressTexts" "tapeCount" "I") (by decide +kernel)
  have hf9 := hts (.fieldLink RX1 9 "AddressTexts" "tape" "[B") (by decide +kernel)
  have hl := lv_entry ([.ref h0, .int (nI i)]) (n := 2) (Nat.le_of_ble_eq_true rfl)
  rw [lg_entry_eq]
  generalize (lg_sl ([.ref h0, .int (nI i)]) ++ List.replicate (2 - (lg_sl ([.ref h0, .int (nI i)])).length) Slot.unset).toArray = ls at hl ⊢
  have hl : lv_has ls 2 [(0, .ref h0), (1, .int (nI i))] := hl
  refine lv_iload_n hx hb dX1_tapeAt_0 rfl (lv_at hl 1 rfl) ?_
  refine bz_lt (tgt := 25) hx hb dX1_tapeAt_1 (by decide) (by omega) ?_
  refine lv_iload_n hx hb dX1_tapeAt_4 rfl (lv_at hl 1 rfl) ?_
  refine lv_aload_n hx hb dX1_tapeAt_5 rfl (lv_at hl 0 rfl) ?_
  refine va_get (D := (dC, dI)) (ci := 1) (v := .int (nI n)) (C := RX1) (T := TX1) (N := 7) hx hb hts hiX1 hown hK hP 0 rfl rfl 1 (by decide) hf13 (fun _ h9 => h9) rfl dX1_tapeAt_6 ?_
  refine bn_ge (tgt := 25) hx hb dX1_tapeAt_9 (by decide) (by omega) (by omega) (fun c9 => absurd c9 (by omega)) (fun c9 => ?_)
  refine lv_aload_n hx hb dX1_tapeAt_12 rfl (lv_at hl 0 rfl) ?_
  refine va_get (D := (dC, dI)) (ci := 1) (v := .ref ht) (C := RX1) (T := TX1) (N := 7) hx hb hts hiX1 hown hK hP 0 rfl rfl 0 (by decide) hf9 (fun _ h9 => h9) rfl dX1_tapeAt_13 ?_
  refine lv_iload_n hx hb dX1_tapeAt_16 rfl (lv_at hl 1 rfl) ?_
  refine ld_b hx hb hK hP 1 0 rfl rfl (by omega) (by omega) dX1_tapeAt_17 ?_
  refine lv_sipush (v := nI 255) hx hb dX1_tapeAt_18 (by decide) ?_
  refine lv_iand hx hb dX1_tapeAt_21 ?_
  refine tp_i (nI (T i)) (by rw [(hT i hi).1]; exact (sb_byte _ (hT i hi).2).1) ?_
  refine lv_goto (tgt := 26) hx hb dX1_tapeAt_22 (by decide) ?_
  exact rt_i hx hb hr (rfl) dX1_tapeAt_26 hlocks
set_option maxRecDepth 100000 in
set_option maxHeartbeats 4000000 in
/-- tapeAt(i) behind the tape -/
theorem ct_tapeAt_out (l : Launch) (dC : Nat → ClassId) (dI : Nat → Nat → Nat) (h0 ht hw a1 a2 a3 n w : Nat) (cT : ClassId) (f : Nat → Int32) (T : Nat → Nat) (hT : az_tp f T n) (hn : n ≤ 60) (i : Nat) (hi : n ≤ i) (hi2 : i < 2147483648) : Met l yX1_tapeAt wsX1_tapeAt ({ frames := 0, cells := 0, slots := 0, locals := 0 }) (rd_P (dC, dI) azCl [(h0, .inr (1, [.ref ht, .int (nI n), .ref hw, .int (nI w), .ref a1, .ref a2, .ref a3])), (ht, .inl (cT, 60, .inl f))] [(cT, .byte)] [.ref h0, .int (nI i)]) (vp_Si (fun r => r = -1)) 0 0 (fun _ => False) := by
  refine Met.ofW (cc := cX1_tapeAt) (maxL := 2) (ret := (some .int)) (by decide) rfl ?_
  intro p e s m args below meth c s₁ Bd hml hv
  obtain ⟨rfl, hP, hK⟩ := hv
  have hx := Bd.exec
  have hb := Bd.bytes
  have hr := Bd.returns
  have hts := atoms_spec (ws := wsX1_tapeAt) Bd.pre
  have hown : s.vm.findClass RX1 = some m.cls := findClass_of_methodNamed Bd.named
  have hlocks := Bd.notSynchronized
  have hiX1 : ∀ w ∈ wsX10, w ∈ wsX1_tapeAt := by decide +kernel
  have hf13 := hts (.fieldLink RX1 13 "AddressTexts" "tapeCount" "I") (by decide +kernel)
  have hl := lv_entry ([.ref h0, .int (nI i)]) (n := 2) (Nat.le_of_ble_eq_true rfl)
  rw [lg_entry_eq]
  generalize (lg_sl ([.ref h0, .int (nI i)]) ++ List.replicate (2 - (lg_sl ([.ref h0, .int (nI i)])).length) Slot.unset).toArray = ls at hl ⊢
  have hl : lv_has ls 2 [(0, .ref h0), (1, .int (nI i))] := hl
  refine lv_iload_n hx hb dX1_tapeAt_0 rfl (lv_at hl 1 rfl) ?_
  refine bz_lt (tgt := 25) hx hb dX1_tapeAt_1 (by decide) (by omega) ?_
  refine lv_iload_n hx hb dX1_tapeAt_4 rfl (lv_at hl 1 rfl) ?_
  refine lv_aload_n hx hb dX1_tapeAt_5 rfl (lv_at hl 0 rfl) ?_
  refine va_get (D := (dC, dI)) (ci := 1) (v := .int (nI n)) (C := RX1) (T := TX1) (N := 7) hx hb hts hiX1 hown hK hP 0 rfl rfl 1 (by decide) hf13 (fun _ h9 => h9) rfl dX1_tapeAt_6 ?_
  refine bn_ge (tgt := 25) hx hb dX1_tapeAt_9 (by decide) (by omega) (by omega) (fun c9 => ?_) (fun c9 => absurd c9 (by omega))
  refine lv_iconst (v := -1) hx hb dX1_tapeAt_25 (by decide) ?_
  exact rt_i hx hb hr (rfl) dX1_tapeAt_26 hlocks
set_option maxRecDepth 100000 in
set_option maxHeartbeats 4000000 in
/-- placeOf(mark, from) -/
theorem ct_placeOf (l : Launch) (dC : Nat → ClassId) (dI : Nat → Nat → Nat) (h0 ht hw a1 a2 a3 n w : Nat) (cT : ClassId) (f : Nat → Int32) (T : Nat → Nat) (hT : az_tp f T n) (hn : n ≤ 60) (mk fr : Nat) (hmk : mk < 256) (hfr : fr < 2147483648) : Met l yX1_placeOf wsX1_placeOf ({ frames := 1, cells := 0, slots := 0, locals := 21 }) (rd_P (dC, dI) azCl [(h0, .inr (1, [.ref ht, .int (nI n), .ref hw, .int (nI w), .ref a1, .ref a2, .ref a3])), (ht, .inl (cT, 60, .inl f))] [(cT, .byte)] [.ref h0, .int (nI mk), .int (nI fr)]) (vp_Si (fun r => r = nI (az_pl T n mk fr))) 0 0 (fun _ => False) := by
  refine Met.ofW (cc := cX1_placeOf) (maxL := 4) (ret := (some .int)) (by decide) rfl ?_
  intro p e s m args below meth c s₁ Bd hml hv
  obtain ⟨rfl, hP, hK⟩ := hv
  have hx := Bd.exec
  have hb := Bd.bytes
  have hr := Bd.returns
  have hts := atoms_spec (ws := wsX1_placeOf) Bd.pre
  have hown : s.vm.findClass RX1 = some m.cls := findClass_of_methodNamed Bd.named
  have hlocks := Bd.notSynchronized
  have hiX1 : ∀ w ∈ wsX10, w ∈ wsX1_placeOf := by decide +kernel
  have hf13 := hts (.fieldLink RX1 13 "AddressTexts" "tapeCount" "I") (by decide +kernel)
  have hl := lv_entry ([.ref h0, .int (nI mk), .int (nI fr)]) (n := 4) (Nat.le_of_ble_eq_true rfl)
  rw [lg_entry_eq]
  generalize (lg_sl ([.ref h0, .int (nI mk), .int (nI fr)]) ++ List.replicate (4 - (lg_sl ([.ref h0, .int (nI mk), .int (nI fr)])).length) Slot.unset).toArray = ls at hl ⊢
  have hl : lv_has ls 4 [(0, .ref h0), (1, .int (nI mk)), (2, .int (nI fr))] := hl
  refine lv_iload_n hx hb dX1_placeOf_0 rfl (lv_at hl 2 rfl) ?_
  refine lv_istore_n (lv' := [(3, .int (nI fr)), (0, .ref h0), (1, .int (nI mk)), (2, .int (nI fr))]) hx hb dX1_placeOf_1 rfl hl (by decide) rfl (fun ls hl => ?_)
  have lp2 : ∀ (N : Nat) (i : Nat), (az_pl T n mk i = az_pl T n mk fr) → (i < 2147483648) → (n - i) < N → ∀ (ls : Array Slot), lv_has ls 4 [(0, .ref h0), (1, .int (nI mk)), (2, .int (nI fr)), (3, .int (nI i))] → W p l e (headSpec wsX1_placeOf ({ frames := 1, cells := 0, slots := 0, locals := 21 })).room s m ([.ref h0, .int (nI mk), .int (nI fr)] : List Value).toArray below meth c s.heap [] 0 0 (MQ below (vp_Si (fun r => r = nI (az_pl T n mk fr))) ([.ref h0, .int (nI mk), .int (nI fr)] : List Value).toArray s 0 0 (fun _ => False)) (F0 m 2 ls []) := by
    intro N
    induction N with
    | zero => intro i hi hi2 hN; exact absurd hN (Nat.not_lt_zero _)
    | succ N ih =>
      intro i hi hi2 hN ls hl
      refine lv_iload_n hx hb dX1_placeOf_2 rfl (lv_at hl 3 rfl) ?_
      refine lv_aload_n hx hb dX1_placeOf_3 rfl (lv_at hl 0 rfl) ?_
      refine va_get (D := (dC, dI)) (ci := 1) (v := .int (nI n)) (C := RX1) (T := TX1) (N := 7) hx hb hts hiX1 hown hK hP 0 rfl rfl 1 (by decide) hf13 (fun _ h9 => h9) rfl dX1_placeOf_4 ?_
      refine bn_ge (tgt := 27) hx hb dX1_placeOf_7 (by decide) (by omega) (by omega) (fun c7 => ?_) (fun c7 => ?_)
      · refine lv_aload_n hx hb dX1_placeOf_27 rfl (lv_at hl 0 rfl) ?_
        refine va_get (D := (dC, dI)) (ci := 1) (v := .int (nI n)) (C := RX1) (T := TX1) (N := 7) hx hb hts hiX1 hown hK hP 0 rfl rfl 1 (by decide) hf13 (fun _ h9 => h9) rfl dX1_placeOf_28 ?_
        exact rt_i hx hb hr (by rw [← hi, az_pl_end c7]) dX1_placeOf_31 hlocks
      · have hTi := (hT i c7).2
        refine lv_aload_n hx hb dX1_placeOf_10 rfl (lv_at hl 0 rfl) ?_
        refine lv_iload_n hx hb dX1_placeOf_11 rfl (lv_at hl 3 rfl) ?_
        refine rc_Vi (As := [.int (nI i)]) (rest := []) ⟨hx, hb, hml, hown, hts⟩ (ct_tapeAt_in l dC dI h0 ht hw a1 a2 a3 n w cT f T hT hn i c7) (cwV 1 hts gX1_placeOf_X1_tapeAt rfl rfl rfl (by decide +kernel) ⟨Nat.le_of_ble_eq_true rfl, Nat.le_of_ble_eq_true rfl⟩) (hP.sub [0, 1] rfl) (hK.sub [0] rfl) 0 rfl rfl rfl hl.1 rfl (Nat.le_of_ble_eq_true rfl) dX1_placeOf_12 ⟨(Nat.zero_le _), (Nat.zero_le _)⟩ ?_
        refine lv_iload_n hx hb dX1_placeOf_15 rfl (lv_at hl 1 rfl) ?_
        refine bn_ne (tgt := 21) hx hb dX1_placeOf_16 (by decide) (by omega) (by omega) (fun c16 => ?_) (fun c16 => ?_)
        · refine lv_iinc (v := nI (i + 1)) (lv' := [(3, .int (nI (i + 1))), (0, .ref h0), (1, .int (nI mk)), (2, .int (nI fr))]) hx hb dX1_placeOf_21 hl (k := 3) rfl (nI_add _ 1) (by decide) rfl (fun ls hl => ?_)
          refine lv_goto (tgt := 2) hx hb dX1_placeOf_24 (by decide) ?_
          exact ih (i + 1) ((az_pl_miss c7 c16).symm.trans hi) (by omega) (by omega) ls (lv_sub hl [1, 2, 3, 0] rfl)
        · refine lv_iload_n hx hb dX1_placeOf_19 rfl (lv_at hl 3 rfl) ?_
          exact rt_i hx hb hr (by rw [← hi, az_pl_hit c7 c16]) dX1_placeOf_20 hlocks
  exact lp2 _ fr (rfl) (hfr) (Nat.lt_succ_self _) ls (lv_sub hl [1, 2, 3, 0] rfl)
set_option maxRecDepth 100000 in
set_option maxHeartbeats 4000000 in
/-- placeOfGap() -/
theorem ct_placeOfGap (l : Launch) (dC : Nat → ClassId) (dI : Nat → Nat → Nat) (h0 ht hw a1 a2 a3 n w : Nat) (cT : ClassId) (f : Nat → Int32) (T : Nat → Nat) (hT : az_tp f T n) (hn : n ≤ 60) : Met l yX1_placeOfGap wsX1_placeOfGap ({ frames := 1, cells := 0, slots := 0, locals := 21 }) (rd_P (dC, dI) azCl [(h0, .inr (1, [.ref ht, .int (nI n), .ref hw, .int (nI w), .ref a1, .ref a2, .ref a3])), (ht, .inl (cT, 60, .inl f))] [(cT, .byte)] [.ref h0]) (vp_Si (fun r => r = nI (az_gp T n 0))) 0 0 (fun _ => False) := by
  refine Met.ofW (cc := cX1_placeOfGap) (maxL := 2) (ret := (some .int)) (by decide) rfl ?_
  intro p e s m args below meth c s₁ Bd hml hv
  obtain ⟨rfl, hP, hK⟩ := hv
  have hx := Bd.exec
  have hb := Bd.bytes
  have hr := Bd.returns
  have hts := atoms_spec (ws := wsX1_placeOfGap) Bd.pre
  have hown : s.vm.findClass RX1 = some m.cls := findClass_of_methodNamed Bd.named
  have hlocks := Bd.notSynchronized
  have hiX1 : ∀ w ∈ wsX10, w ∈ wsX1_placeOfGap := by decide +kernel
  have hf13 := hts (.fieldLink RX1 13 "AddressTexts" "tapeCount" "I") (by decide +kernel)
  have hl := lv_entry ([.ref h0]) (n := 2) (Nat.le_of_ble_eq_true rfl)
  rw [lg_entry_eq]
  generalize (lg_sl ([.ref h0]) ++ List.replicate (2 - (lg_sl ([.ref h0])).length) Slot.unset).toArray = ls at hl ⊢
  have hl : lv_has ls 2 [(0, .ref h0)] := hl
  refine lv_iconst (v := nI 0) hx hb dX1_placeOfGap_0 (by decide) ?_
  refine lv_istore_n (lv' := [(1, .int (nI 0)), (0, .ref h0)]) hx hb dX1_placeOfGap_1 rfl hl (by decide) rfl (fun ls hl => ?_)
  have lp2 : ∀ (N : Nat) (i : Nat), (az_gp T n i = az_gp T n 0) → (i ≤ n) → (n - i) < N → ∀ (ls : Array Slot), lv_has ls 2 [(0, .ref h0), (1, .int (nI i))] → W p l e (headSpec wsX1_placeOfGap ({ frames := 1, cells := 0, slots := 0, locals := 21 })).room s m ([.ref h0] : List Value).toArray below meth c s.heap [] 0 0 (MQ below (vp_Si (fun r => r = nI (az_gp T n 0))) ([.ref h0] : List Value).toArray s 0 0 (fun _ => False)) (F0 m 2 ls []) := by
    intro N
    induction N with
    | zero => intro i hi hi2 hN; exact absurd hN (Nat.not_lt_zero _)
    | succ N ih =>
      intro i hi hi2 hN ls hl
      refine lv_iload_n hx hb dX1_placeOfGap_2 rfl (lv_at hl 1 rfl) ?_
      refine lv_aload_n hx hb dX1_placeOfGap_3 rfl (lv_at hl 0 rfl) ?_
      refine va_get (D := (dC, dI)) (ci := 1) (v := .int (nI n)) (C := RX1) (T := TX1) (N := 7) hx hb hts hiX1 hown hK hP 0 rfl rfl 1 (by decide) hf13 (fun _ h9 => h9) rfl dX1_placeOfGap_4 ?_
      refine bn_ge (tgt := 40) hx hb dX1_placeOfGap_7 (by decide) (by omega) (by omega) (fun c7 => ?_) (fun c7 => ?_)
      · refine lv_aload_n hx hb dX1_placeOfGap_40 rfl (lv_at hl 0 rfl) ?_
        refine va_get (D := (dC, dI)) (ci := 1) (v := .int (nI n)) (C := RX1) (T := TX1) (N := 7) hx hb hts hiX1 hown hK hP 0 rfl rfl 1 (by decide) hf13 (fun _ h9 => h9) rfl dX1_placeOfGap_41 ?_
        exact rt_i hx hb hr (by rw [← hi, az_gp_end c7]) dX1_placeOfGap_44 hlocks
      · have hTi := (hT i c7).2
        refine lv_aload_n hx hb dX1_placeOfGap_10 rfl (lv_at hl 0 rfl) ?_
        refine lv_iload_n hx hb dX1_placeOfGap_11 rfl (lv_at hl 1 rfl) ?_
        refine rc_Vi (As := [.int (nI i)]) (rest := []) ⟨hx, hb, hml, hown, hts⟩ (ct_tapeAt_in l dC dI h0 ht hw a1 a2 a3 n w cT f T hT hn i c7) (cwV 1 hts gX1_placeOfGap_X1_tapeAt rfl rfl rfl (by decide +kernel) ⟨Nat.le_of_ble_eq_true rfl, Nat.le_of_ble_eq_true rfl⟩) (hP.sub [0, 1] rfl) (hK.sub [0] rfl) 0 rfl rfl rfl hl.1 rfl (Nat.le_of_ble_eq_true rfl) dX1_placeOfGap_12 ⟨(Nat.zero_le _), (Nat.zero_le _)⟩ ?_
        refine lv_bipush (v := nI 58) hx hb dX1_placeOfGap_15 (by decide) ?_
        refine bn_ne (tgt := 34) hx hb dX1_placeOfGap_17 (by decide) (by omega) (by omega) (fun c17 => ?_) (fun c17 => ?_)
        · refine lv_iinc (v := nI (i + 1)) (lv' := [(1, .int (nI (i + 1))), (0, .ref h0)]) hx hb dX1_placeOfGap_34 hl (k := 1) rfl (nI_add _ 1) (by decide) rfl (fun ls hl => ?_)
          refine lv_goto (tgt := 2) hx hb dX1_placeOfGap_37 (by decide) ?_
          exact ih (i + 1) ((az_gp_miss c7 (by omega)).symm.trans hi) (by omega) (by omega) ls (lv_sub hl [1, 0] rfl)
        · refine lv_aload_n hx hb dX1_placeOfGap_20 rfl (lv_at hl 0 rfl) ?_
          refine lv_iload_n hx hb dX1_placeOfGap_21 rfl (lv_at hl 1 rfl) ?_
          refine lv_iconst (v := nI 1) hx hb dX1_placeOfGap_22 (by decide) ?_
          refine lv_iadd hx hb dX1_placeOfGap_23 ?_
          refine tp_i (nI (i + 1)) (nI_add _ _) ?_
          by_cases h24 : i + 1 < n
          · have hTj := (hT (i + 1) h24).2
            refine rc_Vi (As := [.int (nI (i + 1))]) (rest := []) ⟨hx, hb, hml, hown, hts⟩ (ct_tapeAt_in l dC dI h0 ht hw a1 a2 a3 n w cT f T hT hn (i + 1) h24) (cwV 1 hts gX1_placeOfGap_X1_tapeAt rfl rfl rfl (by decide +kernel) ⟨Nat.le_of_ble_eq_true rfl, Nat.le_of_ble_eq_true rfl⟩) (hP.sub [0, 1] rfl) (hK.sub [0] rfl) 0 rfl rfl rfl hl.1 rfl (Nat.le_of_ble_eq_true rfl) dX1_placeOfGap_24 ⟨(Nat.zero_le _), (Nat.zero_le _)⟩ ?_
            refine lv_bipush (v := nI 58) hx hb dX1_placeOfGap_27 (by decide) ?_
            refine bn_ne (tgt := 34) hx hb dX1_placeOfGap_29 (by decide) (by omega) (by omega) (fun c29 => ?_) (fun c29 => ?_)
            · refine lv_iinc (v := nI (i + 1)) (lv' := [(1, .int (nI (i + 1))), (0, .ref h0)]) hx hb dX1_placeOfGap_34 hl (k := 1) rfl (nI_add _ 1) (by decide) rfl (fun ls hl => ?_)
              refine lv_goto (tgt := 2) hx hb dX1_placeOfGap_37 (by decide) ?_
              exact ih (i + 1) ((az_gp_miss c7 (by omega)).symm.trans hi) (by omega) (by omega) ls (lv_sub hl [1, 0] rfl)
            · refine lv_iload_n hx hb dX1_placeOfGap_32 rfl (lv_at hl 1 rfl) ?_
              exact rt_i hx hb hr (by rw [← hi, az_gp_hit c7 c17 h24 c29]) dX1_placeOfGap_33 hlocks
          · refine rc_Vi (As := [.int (nI (i + 1))]) (rest := []) ⟨hx, hb, hml, hown, hts⟩ (ct_tapeAt_out l dC dI h0 ht hw a1 a2 a3 n w cT f T hT hn (i + 1) (Nat.not_lt.mp h24) (by omega)) (cwV 1 hts gX1_placeOfGap_X1_tapeAt rfl rfl rfl (by decide +kernel) ⟨Nat.le_of_ble_eq_true rfl, Nat.le_of_ble_eq_true rfl⟩) (hP.sub [0, 1] rfl) (hK.sub [0] rfl) 0 rfl rfl rfl hl.1 rfl (Nat.le_of_ble_eq_true rfl) dX1_placeOfGap_24 ⟨(Nat.zero_le _), (Nat.zero_le _)⟩ ?_
            refine lv_bipush (v := nI 58) hx hb dX1_placeOfGap_27 (by decide) ?_
            refine lv_icmp_ne (tgt := 34) hx hb dX1_placeOfGap_29 (by decide) (fun _ => ?_) (fun c => absurd c (by decide))
            refine lv_iinc (v := nI (i + 1)) (lv' := [(1, .int (nI (i + 1))), (0, .ref h0)]) hx hb dX1_placeOfGap_34 hl (k := 1) rfl (nI_add _ 1) (by decide) rfl (fun ls hl => ?_)
            refine lv_goto (tgt := 2) hx hb dX1_placeOfGap_37 (by decide) ?_
            exact ih (i + 1) ((az_gp_miss c7 (by omega)).symm.trans hi) (by omega) (by omega) ls (lv_sub hl [1, 0] rfl)
  exact lp2 _ 0 (rfl) (Nat.zero_le _) (Nat.lt_succ_self _) ls (lv_sub hl [1, 0] rfl)
set_option maxRecDepth 100000 in
set_option maxHeartbeats 4000000 in
/-- partsIn(from, to) -/
theorem ct_partsIn (l : Launch) (dC : Nat → ClassId) (dI : Nat → Nat → Nat) (h0 ht hw a1 a2 a3 n w : Nat) (cT : ClassId) (f : Nat → Int32) (T : Nat → Nat) (hT : az_tp f T n) (hn : n ≤ 60) (fr to : Nat) (hfr : fr < 2147483648) (hto : to ≤ n) : Met l yX1_partsIn wsX1_partsIn ({ frames := 1, cells := 0, slots := 0, locals := 21 }) (rd_P (dC, dI) azCl [(h0, .inr (1, [.ref ht, .int (nI n), .ref hw, .int (nI w), .ref a1, .ref a2, .ref a3])), (ht, .inl (cT, 60, .inl f))] [(cT, .byte)] [.ref h0, .int (nI fr), .int (nI to)]) (vp_Si (fun r => r = nI (az_cn T fr to))) 0 0 (fun _ => False) := by
  refine Met.ofW (cc := cX1_partsIn) (maxL := 5) (ret := (some .int)) (by decide) rfl ?_
  intro p e s m args below meth c s₁ Bd hml hv
  obtain ⟨rfl, hP, hK⟩ := hv
  have hx := Bd.exec
  have hb := Bd.bytes
  have hr := Bd.returns
  have hts := atoms_spec (ws := wsX1_partsIn) Bd.pre
  have hown : s.vm.findClass RX1 = some m.cls := findClass_of_methodNamed Bd.named
  have hlocks := Bd.notSynchronized
  have hl := lv_entry ([.ref h0, .int (nI fr), .int (nI to)]) (n := 5) (Nat.le_of_ble_eq_true rfl)
  rw [lg_entry_eq]
  generalize (lg_sl ([.ref h0, .int (nI fr), .int (nI to)]) ++ List.replicate (5 - (lg_sl ([.ref h0, .int (nI fr), .int (nI to)])).length) Slot.unset).toArray = ls at hl ⊢
  have hl : lv_has ls 5 [(0, .ref h0), (1, .int (nI fr)), (2, .int (nI to))] := hl
  refine lv_iload_n hx hb dX1_partsIn_0 rfl (lv_at hl 1 rfl) ?_
  refine lv_iload_n hx hb dX1_partsIn_1 rfl (lv_at hl 2 rfl) ?_
  refine bn_lt (tgt := 7) hx hb dX1_partsIn_2 (by decide) (by omega) (by omega) (fun c2 => ?_) (fun c2 => ?_)
  · refine lv_iconst (v := nI 1) hx hb dX1_partsIn_7 (by decide) ?_
    refine lv_istore_n (lv' := [(3, .int (nI 1)), (0, .ref h0), (1, .int (nI fr)), (2, .int (nI to))]) hx hb dX1_partsIn_8 rfl hl (by decide) rfl (fun ls hl => ?_)
    refine lv_iload_n hx hb dX1_partsIn_9 rfl (lv_at hl 2 rfl) ?_
    refine lv_istore (lv' := [(4, .int (nI fr)), (3, .int (nI 1)), (0, .ref h0), (1, .int (nI fr)), (2, .int (nI to))]) hx hb dX1_partsIn_10 hl (by decide) rfl (fun ls hl => ?_)
    have lp12 : ∀ (N : Nat) (i : Nat) (k : Nat), (i ≤ to) → (k + az_clF T (to - i) i = az_cn T fr to) → (k ≤ i + 1) → (to - i) < N → ∀ (ls : Array Slot), lv_has ls 5 [(0, .ref h0), (1, .int (nI fr)), (2, .int (nI to)), (3, .int (nI k)), (4, .int (nI i))] → W p l e (headSpec wsX1_partsIn ({ frames := 1, cells := 0, slots := 0, locals := 21 })).room s m ([.ref h0, .int (nI fr), .int (nI to)] : List Value).toArray below meth c s.heap [] 0 0 (MQ below (vp_Si (fun r => r = nI (az_cn T fr to))) ([.ref h0, .int (nI fr), .int (nI to)] : List Value).toArray s 0 0 (fun _ => False)) (F0 m 12 ls []) := by
      intro N
      induction N with
      | zero => intro i k hi hk hk2 hN; exact absurd hN (Nat.not_lt_zero _)
      | succ N ih =>
        intro i k hi hk hk2 hN ls hl
        refine lv_iload hx hb dX1_partsIn_12 (lv_at hl 4 rfl) ?_
        refine lv_iload_n hx hb dX1_partsIn_14 rfl (lv_at hl 2 rfl) ?_
        refine bn_ge (tgt := 38) hx hb dX1_partsIn_15 (by decide) (by omega) (by omega) (fun c15 => ?_) (fun c15 => ?_)
        · refine lv_iload_n hx hb dX1_partsIn_38 rfl (lv_at hl 3 rfl) ?_
          exact rt_i hx hb hr (by have h := hk; rw [show to - i = 0 by omega] at h; exact congrArg nI h) dX1_partsIn_39 hlocks
        · have hTi := (hT i (Nat.lt_of_lt_of_le c15 hto)).2
          refine lv_aload_n hx hb dX1_partsIn_18 rfl (lv_at hl 0 rfl) ?_
          refine lv_iload hx hb dX1_partsIn_19 (lv_at hl 4 rfl) ?_
          refine rc_Vi (As := [.int (nI i)]) (rest := []) ⟨hx, hb, hml, hown, hts⟩ (ct_tapeAt_in l dC dI h0 ht hw a1 a2 a3 n w cT f T hT hn i (Nat.lt_of_lt_of_le c15 hto)) (cwV 1 hts gX1_partsIn_X1_tapeAt rfl rfl rfl (by decide +kernel) ⟨Nat.le_of_ble_eq_true rfl, Nat.le_of_ble_eq_true rfl⟩) (hP.sub [0, 1] rfl) (hK.sub [0] rfl) 0 rfl rfl rfl hl.1 rfl (Nat.le_of_ble_eq_true rfl) dX1_partsIn_21 ⟨(Nat.zero_le _), (Nat.zero_le _)⟩ ?_
          refine lv_bipush (v := nI 58) hx hb dX1_partsIn_24 (by decide) ?_
          refine bn_ne (tgt := 32) hx hb dX1_partsIn_26 (by decide) (by omega) (by omega) (fun c26 => ?_) (fun c26 => ?_)
          · refine lv_iinc (v := nI (i + 1)) (lv' := [(4, .int (nI (i + 1))), (0, .ref h0), (1, .int (nI fr)), (2, .int (nI to)), (3, .int (nI k))]) hx hb dX1_partsIn_32 hl (k := 4) rfl (nI_add _ 1) (by decide) rfl (fun ls hl => ?_)
            refine lv_goto (tgt := 12) hx hb dX1_partsIn_35 (by decide) ?_
            exact ih (i + 1) k (by omega) (by first | (rw [← hk, az_cl_hit c15 c26]; omega) | (rw [← hk, az_cl_miss c15 c26])) (by omega) (by omega) ls (lv_sub hl [1, 2, 3, 4, 0] rfl)
          · refine lv_iinc (v := nI (k + 1)) (lv' := [(3, .int (nI (k + 1))), (0, .ref h0), (1, .int (nI fr)), (2, .int (nI to)), (4, .int (nI i))]) hx hb dX1_partsIn_29 hl (k := 3) rfl (nI_add _ 1) (by decide) rfl (fun ls hl => ?_)
            refine lv_iinc (v := nI (i + 1)) (lv' := [(4, .int (nI (i + 1))), (3, .int (nI (k + 1))), (0, .ref h0), (1, .int (nI fr)), (2, .int (nI to))]) hx hb dX1_partsIn_32 hl (k := 4) rfl (nI_add _ 1) (by decide) rfl (fun ls hl => ?_)
            refine lv_goto (tgt := 12) hx hb dX1_partsIn_35 (by decide) ?_
            exact ih (i + 1) (k + 1) (by omega) (by first | (rw [← hk, az_cl_hit c15 c26]; omega) | (rw [← hk, az_cl_miss c15 c26])) (by omega) (by omega) ls (lv_sub hl [2, 3, 4, 1, 0] rfl)
    exact lp12 _ fr 1 (Nat.le_of_lt c2) ((az_cn_1 c2).symm) (by omega) (Nat.lt_succ_self _) ls (lv_sub hl [2, 3, 4, 1, 0] rfl)
  · refine lv_iconst (v := nI 0) hx hb dX1_partsIn_5 (by decide) ?_
    exact rt_i hx hb hr (by rw [az_cn_0 c2]) dX1_partsIn_6 hlocks
set_option maxRecDepth 100000 in
set_option maxHeartbeats 4000000 in
/-- digitAt(i) -/
theorem ct_digitAt (l : Launch) (dC : Nat → ClassId) (dI : Nat → Nat → Nat) (h0 ht hw a1 a2 a3 n w : Nat) (cT : ClassId) (f : Nat → Int32) (T : Nat → Nat) (hT : az_tp f T n) (hn : n ≤ 60) (i : Nat) (hi : i < n) : Met l yX1_digitAt wsX1_digitAt ({ frames := 1, cells := 0, slots := 0, locals := 21 }) (rd_P (dC, dI) azCl [(h0, .inr (1, [.ref ht, .int (nI n), .ref hw, .int (nI w), .ref a1, .ref a2, .ref a3])), (ht, .inl (cT, 60, .inl f))] [(cT, .byte)] [.ref h0, .int (nI i)]) (vp_Si (fun r => r = az_o (az_hd (T i)))) 0 0 (fun _ => False) := by
  refine Met.ofW (cc := cX1_digitAt) (maxL := 3) (ret := (some .int)) (by decide) rfl ?_
  intro p e s m args below meth c s₁ Bd hml hv
  obtain ⟨rfl, hP, hK⟩ := hv
  have hx := Bd.exec
  have hb := Bd.bytes
  have hr := Bd.returns
  have hts := atoms_spec (ws := wsX1_digitAt) Bd.pre
  have hown : s.vm.findClass RX1 = some m.cls := findClass_of_methodNamed Bd.named
  have hlocks := Bd.notSynchronized
  have hl := lv_entry ([.ref h0, .int (nI i)]) (n := 3) (Nat.le_of_ble_eq_true rfl)
  rw [lg_entry_eq]
  generalize (lg_sl ([.ref h0, .int (nI i)]) ++ List.replicate (3 - (lg_sl ([.ref h0, .int (nI i)])).length) Slot.unset).toArray = ls at hl ⊢
  have hl : lv_has ls 3 [(0, .ref h0), (1, .int (nI i))] := hl
  have hTi := (hT i hi).2
  refine lv_aload_n hx hb dX1_digitAt_0 rfl (lv_at hl 0 rfl) ?_
  refine lv_iload_n hx hb dX1_digitAt_1 rfl (lv_at hl 1 rfl) ?_
  refine rc_Vi (As := [.int (nI i)]) (rest := []) ⟨hx, hb, hml, hown, hts⟩ (ct_tapeAt_in l dC dI h0 ht hw a1 a2 a3 n w cT f T hT hn i hi) (cwV 1 hts gX1_digitAt_X1_tapeAt rfl rfl rfl (by decide +kernel) ⟨Nat.le_of_ble_eq_true rfl, Nat.le_of_ble_eq_true rfl⟩) (hP.sub [0, 1] rfl) (hK.sub [0] rfl) 0 rfl rfl rfl hl.1 rfl (Nat.le_of_ble_eq_true rfl) dX1_digitAt_2 ⟨(Nat.zero_le _), (Nat.zero_le _)⟩ ?_
  refine lv_istore_n (lv' := [(2, .int (nI (T i))), (0, .ref h0), (1, .int (nI i))]) hx hb dX1_digitAt_5 rfl hl (by decide) rfl (fun ls hl => ?_)
  refine lv_iload_n hx hb dX1_digitAt_6 rfl (lv_at hl 0 rfl) ?_
  refine lv_bipush (v := nI 48) hx hb dX1_digitAt_7 (by decide) ?_
  refine bn_lt (tgt := 23) hx hb dX1_digitAt_9 (by decide) (by omega) (by omega) (fun c9 => ?_) (fun c9 => ?_)
  · refine lv_iload_n hx hb dX1_digitAt_23 rfl (lv_at hl 0 rfl) ?_
    refine lv_bipush (v := nI 97) hx hb dX1_digitAt_24 (by decide) ?_
    refine bn_lt (tgt := 43) hx hb dX1_digitAt_26 (by decide) (by omega) (by omega) (fun c26 => ?_) (fun c26 => ?_)
    · refine lv_iload_n hx hb dX1_digitAt_43 rfl (lv_at hl 0 rfl) ?_
      refine lv_bipush (v := nI 65) hx hb dX1_digitAt_44 (by decide) ?_
      refine bn_lt (tgt := 63) hx hb dX1_digitAt_46 (by decide) (by omega) (by omega) (fun c46 => ?_) (fun c46 => ?_)
      · refine lv_iconst (v := -1) hx hb dX1_digitAt_63 (by decide) ?_
        exact rt_i hx hb hr (by rw [az_hd_n (c := T i) (by omega) (by omega) (by omega)]; rfl) dX1_digitAt_64 hlocks
      · refine lv_iload_n hx hb dX1_digitAt_49 rfl (lv_at hl 0 rfl) ?_
        refine lv_bipush (v := nI 70) hx hb dX1_digitAt_50 (by decide) ?_
        refine bn_gt (tgt := 63) hx hb dX1_digitAt_52 (by decide) (by omega) (by omega) (fun c52 => ?_) (fun c52 => ?_)
        · refine lv_iconst (v := -1) hx hb dX1_digitAt_63 (by decide) ?_
          exact rt_i hx hb hr (by rw [az_hd_n (c := T i) (by omega) (by omega) (by omega)]; rfl) dX1_digitAt_64 hlocks
        · refine lv_iload_n hx hb dX1_digitAt_55 rfl (lv_at hl 0 rfl) ?_
          refine lv_bipush (v := nI 65) hx hb dX1_digitAt_56 (by decide) ?_
          refine lv_isub hx hb dX1_digitAt_58 ?_
          refine tp_i (nI ((T i) - 65)) (pk_sub (by omega)) ?_
          refine lv_bipush (v := nI 10) hx hb dX1_digitAt_59 (by decide) ?_
          refine lv_iadd hx hb dX1_digitAt_61 ?_
          refine tp_i (nI (((T i) - 65) + 10)) (nI_add _ _) ?_
          exact rt_i hx hb hr (by rw [az_hd_c (c := T i) (by omega) (by omega)]; rfl) dX1_digitAt_62 hlocks
    · refine lv_iload_n hx hb dX1_digitAt_29 rfl (lv_at hl 0 rfl) ?_
      refine lv_bipush (v := nI 102) hx hb dX1_digitAt_30 (by decide) ?_
      refine bn_gt (tgt := 43) hx hb dX1_digitAt_32 (by decide) (by omega) (by omega) (fun c32 => ?_) (fun c32 => ?_)
      · refine lv_iload_n hx hb dX1_digitAt_43 rfl (lv_at hl 0 rfl) ?_
        refine lv_bipush (v := nI 65) hx hb dX1_digitAt_44 (by decide) ?_
        refine bn_lt (tgt := 63) hx hb dX1_digitAt_46 (by decide) (by omega) (by omega) (fun c46 => ?_) (fun c46 => ?_)
        · refine lv_iconst (v := -1) hx hb dX1_digitAt_63 (by decide) ?_
          exact rt_i hx hb hr (by rw [az_hd_n (c := T i) (by omega) (by omega) (by omega)]; rfl) dX1_digitAt_64 hlocks
        · refine lv_iload_n hx hb dX1_digitAt_49 rfl (lv_at hl 0 rfl) ?_
          refine lv_bipush (v := nI 70) hx hb dX1_digitAt_50 (by decide) ?_
          refine bn_gt (tgt := 63) hx hb dX1_digitAt_52 (by decide) (by omega) (by omega) (fun c52 => ?_) (fun c52 => ?_)
          · refine lv_iconst (v := -1) hx hb dX1_digitAt_63 (by decide) ?_
            exact rt_i hx hb hr (by rw [az_hd_n (c := T i) (by omega) (by omega) (by omega)]; rfl) dX1_digitAt_64 hlocks
          · refine lv_iload_n hx hb dX1_digitAt_55 rfl (lv_at hl 0 rfl) ?_
            refine lv_bipush (v := nI 65) hx hb dX1_digitAt_56 (by decide) ?_
            refine lv_isub hx hb dX1_digitAt_58 ?_
            refine tp_i (nI ((T i) - 65)) (pk_sub (by omega)) ?_
            refine lv_bipush (v := nI 10) hx hb dX1_digitAt_59 (by decide) ?_
            refine lv_iadd hx hb dX1_digitAt_61 ?_
            refine tp_i (nI (((T i) - 65) + 10)) (nI_add _ _) ?_
            exact rt_i hx hb hr (by rw [az_hd_c (c := T i) (by omega) (by omega)]; rfl) dX1_digitAt_62 hlocks
      · refine lv_iload_n hx hb dX1_digitAt_35 rfl (lv_at hl 0 rfl) ?_
        refine lv_bipush (v := nI 97) hx hb dX1_digitAt_36 (by decide) ?_
        refine lv_isub hx hb dX1_digitAt_38 ?_
        refine tp_i (nI ((T i) - 97)) (pk_sub (by omega)) ?_
        refine lv_bipush (v := nI 10) hx hb dX1_digitAt_39 (by decide) ?_
        refine lv_iadd hx hb dX1_digitAt_41 ?_
        refine tp_i (nI (((T i) - 97) + 10)) (nI_add _ _) ?_
        exact rt_i hx hb hr (by rw [az_hd_b (c := T i) (by omega) (by omega)]; rfl) dX1_digitAt_42 hlocks
  · refine lv_iload_n hx hb dX1_digitAt_12 rfl (lv_at hl 0 rfl) ?_
    refine lv_bipush (v := nI 57) hx hb dX1_digitAt_13 (by decide) ?_
    refine bn_gt (tgt := 23) hx hb dX1_digitAt_15 (by decide) (by omega) (by omega) (fun c15 => ?_) (fun c15 => ?_)
    · refine lv_iload_n hx hb dX1_digitAt_23 rfl (lv_at hl 0 rfl) ?_
      refine lv_bipush (v := nI 97) hx hb dX1_digitAt_24 (by decide) ?_
      refine bn_lt (tgt := 43) hx hb dX1_digitAt_26 (by decide) (by omega) (by omega) (fun c26 => ?_) (fun c26 => ?_)
      · refine lv_iload_n hx hb dX1_digitAt_43 rfl (lv_at hl 0 rfl) ?_
        refine lv_bipush (v := nI 65) hx hb dX1_digitAt_44 (by decide) ?_
        refine bn_lt (tgt := 63) hx hb dX1_digitAt_46 (by decide) (by omega) (by omega) (fun c46 => ?_) (fun c46 => ?_)
        · refine lv_iconst (v := -1) hx hb dX1_digitAt_63 (by decide) ?_
          exact rt_i hx hb hr (by rw [az_hd_n (c := T i) (by omega) (by omega) (by omega)]; rfl) dX1_digitAt_64 hlocks
        · refine lv_iload_n hx hb dX1_digitAt_49 rfl (lv_at hl 0 rfl) ?_
          refine lv_bipush (v := nI 70) hx hb dX1_digitAt_50 (by decide) ?_
          refine bn_gt (tgt := 63) hx hb dX1_digitAt_52 (by decide) (by omega) (by omega) (fun c52 => ?_) (fun c52 => ?_)
          · refine lv_iconst (v := -1) hx hb dX1_digitAt_63 (by decide) ?_
            exact rt_i hx hb hr (by rw [az_hd_n (c := T i) (by omega) (by omega) (by omega)]; rfl) dX1_digitAt_64 hlocks
          · refine lv_iload_n hx hb dX1_digitAt_55 rfl (lv_at hl 0 rfl) ?_
            refine lv_bipush (v := nI 65) hx hb dX1_digitAt_56 (by decide) ?_
            refine lv_isub hx hb dX1_digitAt_58 ?_
            refine tp_i (nI ((T i) - 65)) (pk_sub (by omega)) ?_
            refine lv_bipush (v := nI 10) hx hb dX1_digitAt_59 (by decide) ?_
            refine lv_iadd hx hb dX1_digitAt_61 ?_
            refine tp_i (nI (((T i) - 65) + 10)) (nI_add _ _) ?_
            exact rt_i hx hb hr (by rw [az_hd_c (c := T i) (by omega) (by omega)]; rfl) dX1_digitAt_62 hlocks
      · refine lv_iload_n hx hb dX1_digitAt_29 rfl (lv_at hl 0 rfl) ?_
        refine lv_bipush (v := nI 102) hx hb dX1_digitAt_30 (by decide) ?_
        refine bn_gt (tgt := 43) hx hb dX1_digitAt_32 (by decide) (by omega) (by omega) (fun c32 => ?_) (fun c32 => ?_)
        · refine lv_iload_n hx hb dX1_digitAt_43 rfl (lv_at hl 0 rfl) ?_
          refine lv_bipush (v := nI 65) hx hb dX1_digitAt_44 (by decide) ?_
          refine bn_lt (tgt := 63) hx hb dX1_digitAt_46 (by decide) (by omega) (by omega) (fun c46 => ?_) (fun c46 => ?_)
          · refine lv_iconst (v := -1) hx hb dX1_digitAt_63 (by decide) ?_
            exact rt_i hx hb hr (by rw [az_hd_n (c := T i) (by omega) (by omega) (by omega)]; rfl) dX1_digitAt_64 hlocks
          · refine lv_iload_n hx hb dX1_digitAt_49 rfl (lv_at hl 0 rfl) ?_
            refine lv_bipush (v := nI 70) hx hb dX1_digitAt_50 (by decide) ?_
            refine bn_gt (tgt := 63) hx hb dX1_digitAt_52 (by decide) (by omega) (by omega) (fun c52 => ?_) (fun c52 => ?_)
            · refine lv_iconst (v := -1) hx hb dX1_digitAt_63 (by decide) ?_
              exact rt_i hx hb hr (by rw [az_hd_n (c := T i) (by omega) (by omega) (by omega)]; rfl) dX1_digitAt_64 hlocks
            · refine lv_iload_n hx hb dX1_digitAt_55 rfl (lv_at hl 0 rfl) ?_
              refine lv_bipush (v := nI 65) hx hb dX1_digitAt_56 (by decide) ?_
              refine lv_isub hx hb dX1_digitAt_58 ?_
              refine tp_i (nI ((T i) - 65)) (pk_sub (by omega)) ?_
              refine lv_bipush (v := nI 10) hx hb dX1_digitAt_59 (by decide) ?_
              refine lv_iadd hx hb dX1_digitAt_61 ?_
              refine tp_i (nI (((T i) - 65) + 10)) (nI_add _ _) ?_
              exact rt_i hx hb hr (by rw [az_hd_c (c := T i) (by omega) (by omega)]; rfl) dX1_digitAt_62 hlocks
        · refine lv_iload_n hx hb dX1_digitAt_35 rfl (lv_at hl 0 rfl) ?_
          refine lv_bipush (v := nI 97) hx hb dX1_digitAt_36 (by decide) ?_
          refine lv_isub hx hb dX1_digitAt_38 ?_
          refine tp_i (nI ((T i) - 97)) (pk_sub (by omega)) ?_
          refine lv_bipush (v := nI 10) hx hb dX1_digitAt_39 (by decide) ?_
          refine lv_iadd hx hb dX1_digitAt_41 ?_
          refine tp_i (nI (((T i) - 97) + 10)) (nI_add _ _) ?_
          exact rt_i hx hb hr (by rw [az_hd_b (c := T i) (by omega) (by omega)]; rfl) dX1_digitAt_42 hlocks
    · refine lv_iload_n hx hb dX1_digitAt_18 rfl (lv_at hl 0 rfl) ?_
      refine lv_bipush (v := nI 48) hx hb dX1_digitAt_19 (by decide) ?_
      refine lv_isub hx hb dX1_digitAt_21 ?_
      refine tp_i (nI ((T i) - 48)) (pk_sub (by omega)) ?_
      exact rt_i hx hb hr (by rw [az_hd_a (c := T i) (by omega) (by omega)]; rfl) dX1_digitAt_22 hlocks
set_option maxRecDepth 100000 in
set_option maxHeartbeats 4000000 in
/-- decimalIn(from, to, most) -/
theorem ct_decimalIn (l : Launch) (dC : Nat → ClassId) (dI : Nat → Nat → Nat) (h0 ht hw a1 a2 a3 n w : Nat) (cT : ClassId) (f : Nat → Int32) (T : Nat → Nat) (hT : az_tp f T n) (hn : n ≤ 60) (fr to most : Nat) (hfr : fr < 2147483648) (hto : to ≤ n) (hft : fr ≤ n → fr ≤ to) (hmo : most ≤ 255) : Met l yX1_decimalIn wsX1_decimalIn ({ frames := 2, cells := 0, slots := 0, locals := 43 }) (rd_P (dC, dI) azCl [(h0, .inr (1, [.ref ht, .int (nI n), .ref hw, .int (nI w), .ref a1, .ref a2, .ref a3])), (ht, .inl (cT, 60, .inl f))] [(cT, .byte)] [.ref h0, .int (nI fr), .int (nI to), .int (nI most)]) (vp_Si (fun r => r = az_o (az_dc T fr to most))) 0 0 (fun _ => False) := by
  refine Met.ofW (cc := cX1_decimalIn) (maxL := 8) (ret := (some .int)) (by decide) rfl ?_
  intro p e s m args below meth c s₁ Bd hml hv
  obtain ⟨rfl, hP, hK⟩ := hv
  have hx := Bd.exec
  have hb := Bd.bytes
  have hr := Bd.returns
  have hts := atoms_spec (ws := wsX1_decimalIn) Bd.pre
  have hown : s.vm.findClass RX1 = some m.cls := findClass_of_methodNamed Bd.named
  have hlocks := Bd.notSynchronized
  have hl := lv_entry ([.ref h0, .int (nI fr), .int (nI to), .int (nI most)]) (n := 8) (Nat.le_of_ble_eq_true rfl)
  rw [lg_entry_eq]
  generalize (lg_sl ([.ref h0, .int (nI fr), .int (nI to), .int (nI most)]) ++ List.replicate (8 - (lg_sl ([.ref h0, .int (nI fr), .int (nI to), .int (nI most)])).length) Slot.unset).toArray = ls at hl ⊢
  have hl : lv_has ls 8 [(0, .ref h0), (1, .int (nI fr)), (2, .int (nI to)), (3, .int (nI most))] := hl
  refine lv_aload_n hx hb dX1_decimalIn_0 rfl (lv_at hl 0 rfl) ?_
  refine lv_iload_n hx hb dX1_decimalIn_1 rfl (lv_at hl 1 rfl) ?_
  by_cases h2 : fr < n
  · have hTf := (hT fr h2).2
    have hle := hft (Nat.le_of_lt h2)
    refine rc_Vi (As := [.int (nI fr)]) (rest := []) ⟨hx, hb, hml, hown, hts⟩ (ct_tapeAt_in l dC dI h0 ht hw a1 a2 a3 n w cT f T hT hn fr h2) (cwV 1 hts gX1_decimalIn_X1_tapeAt rfl rfl rfl (by decide +kernel) ⟨Nat.le_of_ble_eq_true rfl, Nat.le_of_ble_eq_true rfl⟩) (hP.sub [0, 1] rfl) (hK.sub [0] rfl) 0 rfl rfl rfl hl.1 rfl (Nat.le_of_ble_eq_true rfl) dX1_decimalIn_2 ⟨(Nat.zero_le _), (Nat.zero_le _)⟩ ?_
    refine lv_bipush (v := nI 48) hx hb dX1_decimalIn_5 (by decide) ?_
    refine bn_ne (tgt := 21) hx hb dX1_decimalIn_7 (by decide) (by omega) (by omega) (fun c7 => ?_) (fun c7 => ?_)
    · refine lv_iconst (v := nI 0) hx hb dX1_decimalIn_21 (by decide) ?_
      refine lv_istore (lv' := [(4, .int (nI 0)), (0, .ref h0), (1, .int (nI fr)), (2, .int (nI to)), (3, .int (nI most))]) hx hb dX1_decimalIn_22 hl (by decide) rfl (fun ls hl => ?_)
      refine lv_iload_n hx hb dX1_decimalIn_24 rfl (lv_at hl 2 rfl) ?_
      refine lv_iload_n hx hb dX1_decimalIn_25 rfl (lv_at hl 3 rfl) ?_
      refine bn_ge (tgt := 34) hx hb dX1_decimalIn_26 (by decide) (by omega) (by omega) (fun c26 => ?_) (fun c26 => ?_)
      · refine lv_iconst (v := -1) hx hb dX1_decimalIn_34 (by decide) ?_
        exact rt_i hx hb hr (by rw [az_dc_n (T := T) (fr := fr) (to := to) (by omega)]; rfl) dX1_decimalIn_35 hlocks
      · refine lv_iload hx hb dX1_decimalIn_29 (lv_at hl 0 rfl) ?_
        refine lv_if_eq (tgt := 36) hx hb dX1_decimalIn_31 (by decide) (fun _ => ?_) (fun c => absurd c (by decide))
        refine lv_iconst (v := nI 0) hx hb dX1_decimalIn_36 (by decide) ?_
        refine lv_istore (lv' := [(5, .int (nI 0)), (4, .int (nI 0)), (0, .ref h0), (1, .int (nI fr)), (2, .int (nI to)), (3, .int (nI most))]) hx hb dX1_decimalIn_37 hl (by decide) rfl (fun ls hl => ?_)
        refine lv_iload_n hx hb dX1_decimalIn_39 rfl (lv_at hl 3 rfl) ?_
        refine lv_istore (lv' := [(6, .int (nI fr)), (5, .int (nI 0)), (4, .int (nI 0)), (0, .ref h0), (1, .int (nI fr)), (2, .int (nI to)), (3, .int (nI most))]) hx hb dX1_decimalIn_40 hl (by decide) rfl (fun ls hl => ?_)
        have lp42 : ∀ (N : Nat) (i : Nat) (v : Nat), (fr ≤ i) → (i ≤ to) → (v ≤ most) → (az_dcF T most (to - i) i v = az_dc T fr to most) → (to - i) < N → ∀ (ls : Array Slot), lv_has ls 8 [(0, .ref h0), (1, .int (nI fr)), (2, .int (nI to)), (3, .int (nI most)), (5, .int (nI v)), (6, .int (nI i))] → W p l e (headSpec wsX1_decimalIn ({ frames := 2, cells := 0, slots := 0, locals := 43 })).room s m ([.ref h0, .int (nI fr), .int (nI to), .int (nI most)] : List Value).toArray below meth c s.heap [] 0 0 (MQ below (vp_Si (fun r => r = az_o (az_dc T fr to most))) ([.ref h0, .int (nI fr), .int (nI to), .int (nI most)] : List Value).toArray s 0 0 (fun _ => False)) (F0 m 42 ls []) := by
          intro N
          induction N with
          | zero => intro i v hi hi2 hv ha hN; exact absurd hN (Nat.not_lt_zero _)
          | succ N ih =>
            intro i v hi hi2 hv ha hN ls hl
            refine lv_iload hx hb dX1_decimalIn_42 (lv_at hl 5 rfl) ?_
            refine lv_iload_n hx hb dX1_decimalIn_44 rfl (lv_at hl 2 rfl) ?_
            refine bn_ge (tgt := 95) hx hb dX1_decimalIn_45 (by decide) (by omega) (by omega) (fun c45 => ?_) (fun c45 => ?_)
            · refine lv_iload hx hb dX1_decimalIn_95 (lv_at hl 4 rfl) ?_
              exact rt_i hx hb hr (by have h := ha; rw [show to - i = 0 by omega] at h; exact congrArg az_o h) dX1_decimalIn_97 hlocks
            · have hin : i < n := Nat.lt_of_lt_of_le c45 hto
              refine lv_aload_n hx hb dX1_decimalIn_48 rfl (lv_at hl 0 rfl) ?_
              refine lv_iload hx hb dX1_decimalIn_49 (lv_at hl 5 rfl) ?_
              refine rc_Vi (As := [.int (nI i)]) (rest := []) ⟨hx, hb, hml, hown, hts⟩ (ct_digitAt l dC dI h0 ht hw a1 a2 a3 n w cT f T hT hn i hin) (cwV 1 hts gX1_decimalIn_X1_digitAt rfl rfl rfl (by decide +kernel) ⟨Nat.le_of_ble_eq_true rfl, Nat.le_of_ble_eq_true rfl⟩) (hP.sub [0, 1] rfl) (hK.sub [0] rfl) 0 rfl rfl rfl hl.1 rfl (Nat.le_of_ble_eq_true rfl) dX1_decimalIn_51 ⟨(Nat.zero_le _), (Nat.zero_le _)⟩ ?_
              rcases hd : az_hd (T i) with _ | d
              · refine tp_i (-1) (rfl) ?_
                refine lv_istore (lv' := [(7, .int (-1)), (0, .ref h0), (1, .int (nI fr)), (2, .int (nI to)), (3, .int (nI most)), (5, .int (nI v)), (6, .int (nI i))]) hx hb dX1_decimalIn_54 hl (by decide) rfl (fun ls hl => ?_)
                refine lv_iload hx hb dX1_decimalIn_56 (lv_at hl 0 rfl) ?_
                refine lv_iconst (v := -1) hx hb dX1_decimalIn_58 (by decide) ?_
                refine lv_icmp_eq (tgt := 69) hx hb dX1_decimalIn_59 (by decide) (fun _ => ?_) (fun c => absurd c (by decide))
                refine lv_iconst (v := -1) hx hb dX1_decimalIn_69 (by decide) ?_
                exact rt_i hx hb hr (by rw [← ha, az_dc_bad (T := T) c45 (by first | exact az_hd_ne hd | omega)]; rfl) dX1_decimalIn_70 hlocks
              · have hq := az_hd_q hd
                refine tp_i (nI d) (rfl) ?_
                refine lv_istore (lv' := [(7, .int (nI d)), (0, .ref h0), (1, .int (nI fr)), (2, .int (nI to)), (3, .int (nI most)), (5, .int (nI v)), (6, .int (nI i))]) hx hb dX1_decimalIn_54 hl (by decide) rfl (fun ls hl => ?_)
                refine lv_iload hx hb dX1_decimalIn_56 (lv_at hl 0 rfl) ?_
                refine lv_iconst (v := -1) hx hb dX1_decimalIn_58 (by decide) ?_
                refine lv_icmp_eq (tgt := 69) hx hb dX1_decimalIn_59 (by decide) (fun c => absurd c (nI_m1 (by omega))) (fun _ => ?_)
                refine lv_iload hx hb dX1_decimalIn_62 (lv_at hl 0 rfl) ?_
                refine lv_bipush (v := nI 9) hx hb dX1_decimalIn_64 (by decide) ?_
                refine bn_le (tgt := 71) hx hb dX1_decimalIn_66 (by decide) (by omega) (by omega) (fun c66 => ?_) (fun c66 => ?_)
                · refine lv_iload hx hb dX1_decimalIn_71 (lv_at hl 5 rfl) ?_
                  refine lv_bipush (v := nI 10) hx hb dX1_decimalIn_73 (by decide) ?_
                  refine lv_imul hx hb dX1_decimalIn_75 ?_
                  refine tp_i (nI (v * 10)) (pk_mul _ _) ?_
                  refine lv_iload hx hb dX1_decimalIn_76 (lv_at hl 0 rfl) ?_
                  refine lv_iadd hx hb dX1_decimalIn_78 ?_
                  refine tp_i (nI ((v * 10) + d)) (nI_add _ _) ?_
                  refine lv_istore (lv' := [(5, .int (nI ((v * 10) + d))), (7, .int (nI d)), (0, .ref h0), (1, .int (nI fr)), (2, .int (nI to)), (3, .int (nI most)), (6, .int (nI i))]) hx hb dX1_decimalIn_79 hl (by decide) rfl (fun ls hl => ?_)
                  refine lv_iload hx hb dX1_decimalIn_81 (lv_at hl 0 rfl) ?_
                  refine lv_iload_n hx hb dX1_decimalIn_83 rfl (lv_at hl 5 rfl) ?_
                  refine bn_le (tgt := 89) hx hb dX1_decimalIn_84 (by decide) (by omega) (by omega) (fun c84 => ?_) (fun c84 => ?_)
                  · refine lv_iinc (v := nI (i + 1)) (lv' := [(6, .int (nI (i + 1))), (5, .int (nI ((v * 10) + d))), (7, .int (nI d)), (0, .ref h0), (1, .int (nI fr)), (2, .int (nI to)), (3, .int (nI most))]) hx hb dX1_decimalIn_89 hl (k := 6) rfl (nI_add _ 1) (by decide) rfl (fun ls hl => ?_)
                    refine lv_goto (tgt := 42) hx hb dX1_decimalIn_92 (by decide) ?_
                    exact ih (i + 1) (v * 10 + d) (by omega) (by omega) (by omega) (by rw [← ha, az_dc_step (T := T) (most := most) (v := v) c45 (by omega) (by omega), show d = T i - 48 by omega]) (by omega) ls (lv_sub hl [3, 4, 5, 6, 1, 0] rfl)
                  · refine lv_iconst (v := -1) hx hb dX1_decimalIn_87 (by decide) ?_
                    exact rt_i hx hb hr (by rw [← ha, az_dc_big (T := T) (most := most) (v := v) c45 (by omega) (by omega)]; rfl) dX1_decimalIn_88 hlocks
                · refine lv_iconst (v := -1) hx hb dX1_decimalIn_69 (by decide) ?_
                  exact rt_i hx hb hr (by rw [← ha, az_dc_bad (T := T) c45 (by first | exact az_hd_ne hd | omega)]; rfl) dX1_decimalIn_70 hlocks
        exact lp42 _ fr 0 (Nat.le_refl _) (by omega) (Nat.zero_le _) ((az_dc_s (by omega)).symm) (Nat.lt_succ_self _) ls (lv_sub hl [3, 4, 5, 6, 1, 0] rfl)
    · refine lv_iload_n hx hb dX1_decimalIn_10 rfl (lv_at hl 2 rfl) ?_
      refine lv_iload_n hx hb dX1_decimalIn_11 rfl (lv_at hl 1 rfl) ?_
      refine lv_isub hx hb dX1_decimalIn_12 ?_
      refine tp_i (nI (to - fr)) (pk_sub (by omega)) ?_
      refine lv_iconst (v := nI 1) hx hb dX1_decimalIn_13 (by decide) ?_
      refine bn_le (tgt := 21) hx hb dX1_decimalIn_14 (by decide) (by omega) (by omega) (fun c14 => ?_) (fun c14 => ?_)
      · refine lv_iconst (v := nI 0) hx hb dX1_decimalIn_21 (by decide) ?_
        refine lv_istore (lv' := [(4, .int (nI 0)), (0, .ref h0), (1, .int (nI fr)), (2, .int (nI to)), (3, .int (nI most))]) hx hb dX1_decimalIn_22 hl (by decide) rfl (fun ls hl => ?_)
        refine lv_iload_n hx hb dX1_decimalIn_24 rfl (lv_at hl 2 rfl) ?_
        refine lv_iload_n hx hb dX1_decimalIn_25 rfl (lv_at hl 3 rfl) ?_
        refine bn_ge (tgt := 34) hx hb dX1_decimalIn_26 (by decide) (by omega) (by omega) (fun c26 => ?_) (fun c26 => ?_)
        · refine lv_iconst (v := -1) hx hb dX1_decimalIn_34 (by decide) ?_
          exact rt_i hx hb hr (by rw [az_dc_n (T := T) (fr := fr) (to := to) (by omega)]; rfl) dX1_decimalIn_35 hlocks
        · refine lv_iload hx hb dX1_decimalIn_29 (lv_at hl 0 rfl) ?_
          refine lv_if_eq (tgt := 36) hx hb dX1_decimalIn_31 (by decide) (fun _ => ?_) (fun c => absurd c (by decide))
          refine lv_iconst (v := nI 0) hx hb dX1_decimalIn_36 (by decide) ?_
          refine lv_istore (lv' := [(5, .int (nI 0)), (4, .int (nI 0)), (0, .ref h0), (1, .int (nI fr)), (2, .int (nI to)), (3, .int (nI most))]) hx hb dX1_decimalIn_37 hl (by decide) rfl (fun ls hl => ?_)
          refine lv_iload_n hx hb dX1_decimalIn_39 rfl (lv_at hl 3 rfl) ?_
          refine lv_istore (lv' := [(6, .int (nI fr)), (5, .int (nI 0)), (4, .int (nI 0)), (0, .ref h0), (1, .int (nI fr)), (2, .int (nI to)), (3, .int (nI most))]) hx hb dX1_decimalIn_40 hl (by decide) rfl (fun ls hl => ?_)
          have lp42 : ∀ (N : Nat) (i : Nat) (v : Nat), (fr ≤ i) → (i ≤ to) → (v ≤ most) → (az_dcF T most (to - i) i v = az_dc T fr to most) → (to - i) < N → ∀ (ls : Array Slot), lv_has ls 8 [(0, .ref h0), (1, .int (nI fr)), (2, .int (nI to)), (3, .int (nI most)), (5, .int (nI v)), (6, .int (nI i))] → W p l e (headSpec wsX1_decimalIn ({ frames := 2, cells := 0, slots := 0, locals := 43 })).room s m ([.ref h0, .int (nI fr), .int (nI to), .int (nI most)] : List Value).toArray below meth c s.heap [] 0 0 (MQ below (vp_Si (fun r => r = az_o (az_dc T fr to most))) ([.ref h0, .int (nI fr), .int (nI to), .int (nI most)] : List Value).toArray s 0 0 (fun _ => False)) (F0 m 42 ls []) := by
            intro N
            induction N with
            | zero => intro i v hi hi2 hv ha hN; exact absurd hN (Nat.not_lt_zero _)
            | succ N ih =>
              intro i v hi hi2 hv ha hN ls hl
              refine lv_iload hx hb dX1_decimalIn_42 (lv_at hl 5 rfl) ?_
              refine lv_iload_n hx hb dX1_decimalIn_44 rfl (lv_at hl 2 rfl) ?_
              refine bn_ge (tgt := 95) hx hb dX1_decimalIn_45 (by decide) (by omega) (by omega) (fun c45 => ?_) (fun c45 => ?_)
              · refine lv_iload hx hb dX1_decimalIn_95 (lv_at hl 4 rfl) ?_
                exact rt_i hx hb hr (by have h := ha; rw [show to - i = 0 by omega] at h; exact congrArg az_o h) dX1_decimalIn_97 hlocks
              · have hin : i < n := Nat.lt_of_lt_of_le c45 hto
                refine lv_aload_n hx hb dX1_decimalIn_48 rfl (lv_at hl 0 rfl) ?_
                refine lv_iload hx hb dX1_decimalIn_49 (lv_at hl 5 rfl) ?_
                refine rc_Vi (As := [.int (nI i)]) (rest := []) ⟨hx, hb, hml, hown, hts⟩ (ct_digitAt l dC dI h0 ht hw a1 a2 a3 n w cT f T hT hn i hin) (cwV 1 hts gX1_decimalIn_X1_digitAt rfl rfl rfl (by decide +kernel) ⟨Nat.le_of_ble_eq_true rfl, Nat.le_of_ble_eq_true rfl⟩) (hP.sub [0, 1] rfl) (hK.sub [0] rfl) 0 rfl rfl rfl hl.1 rfl (Nat.le_of_ble_eq_true rfl) dX1_decimalIn_51 ⟨(Nat.zero_le _), (Nat.zero_le _)⟩ ?_
                rcases hd : az_hd (T i) with _ | d
                · refine tp_i (-1) (rfl) ?_
                  refine lv_istore (lv' := [(7, .int (-1)), (0, .ref h0), (1, .int (nI fr)), (2, .int (nI to)), (3, .int (nI most)), (5, .int (nI v)), (6, .int (nI i))]) hx hb dX1_decimalIn_54 hl (by decide) rfl (fun ls hl => ?_)
                  refine lv_iload hx hb dX1_decimalIn_56 (lv_at hl 0 rfl) ?_
                  refine lv_iconst (v := -1) hx hb dX1_decimalIn_58 (by decide) ?_
                  refine lv_icmp_eq (tgt := 69) hx hb dX1_decimalIn_59 (by decide) (fun _ => ?_) (fun c => absurd c (by decide))
                  refine lv_iconst (v := -1) hx hb dX1_decimalIn_69 (by decide) ?_
                  exact rt_i hx hb hr (by rw [← ha, az_dc_bad (T := T) c45 (by first | exact az_hd_ne hd | omega)]; rfl) dX1_decimalIn_70 hlocks
                · have hq := az_hd_q hd
                  refine tp_i (nI d) (rfl) ?_
                  refine lv_istore (lv' := [(7, .int (nI d)), (0, .ref h0), (1, .int (nI fr)), (2, .int (nI to)), (3, .int (nI most)), (5, .int (nI v)), (6, .int (nI i))]) hx hb dX1_decimalIn_54 hl (by decide) rfl (fun ls hl => ?_)
                  refine lv_iload hx hb dX1_decimalIn_56 (lv_at hl 0 rfl) ?_
                  refine lv_iconst (v := -1) hx hb dX1_decimalIn_58 (by decide) ?_
                  refine lv_icmp_eq (tgt := 69) hx hb dX1_decimalIn_59 (by decide) (fun c => absurd c (nI_m1 (by omega))) (fun _ => ?_)
                  refine lv_iload hx hb dX1_decimalIn_62 (lv_at hl 0 rfl) ?_
                  refine lv_bipush (v := nI 9) hx hb dX1_decimalIn_64 (by decide) ?_
                  refine bn_le (tgt := 71) hx hb dX1_decimalIn_66 (by decide) (by omega) (by omega) (fun c66 => ?_) (fun c66 => ?_)
                  · refine lv_iload hx hb dX1_decimalIn_71 (lv_at hl 5 rfl) ?_
                    refine lv_bipush (v := nI 10) hx hb dX1_decimalIn_73 (by decide) ?_
                    refine lv_imul hx hb dX1_decimalIn_75 ?_
                    refine tp_i (nI (v * 10)) (pk_mul _ _) ?_
                    refine lv_iload hx hb dX1_decimalIn_76 (lv_at hl 0 rfl) ?_
                    refine lv_iadd hx hb dX1_decimalIn_78 ?_
                    refine tp_i (nI ((v * 10) + d)) (nI_add _ _) ?_
                    refine lv_istore (lv' := [(5, .int (nI ((v * 10) + d))), (7, .int (nI d)), (0, .ref h0), (1, .int (nI fr)), (2, .int (nI to)), (3, .int (nI most)), (6, .int (nI i))]) hx hb dX1_decimalIn_79 hl (by decide) rfl (fun ls hl => ?_)
                    refine lv_iload hx hb dX1_decimalIn_81 (lv_at hl 0 rfl) ?_
                    refine lv_iload_n hx hb dX1_decimalIn_83 rfl (lv_at hl 5 rfl) ?_
                    refine bn_le (tgt := 89) hx hb dX1_decimalIn_84 (by decide) (by omega) (by omega) (fun c84 => ?_) (fun c84 => ?_)
                    · refine lv_iinc (v := nI (i + 1)) (lv' := [(6, .int (nI (i + 1))), (5, .int (nI ((v * 10) + d))), (7, .int (nI d)), (0, .ref h0), (1, .int (nI fr)), (2, .int (nI to)), (3, .int (nI most))]) hx hb dX1_decimalIn_89 hl (k := 6) rfl (nI_add _ 1) (by decide) rfl (fun ls hl => ?_)
                      refine lv_goto (tgt := 42) hx hb dX1_decimalIn_92 (by decide) ?_
                      exact ih (i + 1) (v * 10 + d) (by omega) (by omega) (by omega) (by rw [← ha, az_dc_step (T := T) (most := most) (v := v) c45 (by omega) (by omega), show d = T i - 48 by omega]) (by omega) ls (lv_sub hl [3, 4, 5, 6, 1, 0] rfl)
                    · refine lv_iconst (v := -1) hx hb dX1_decimalIn_87 (by decide) ?_
                      exact rt_i hx hb hr (by rw [← ha, az_dc_big (T := T) (most := most) (v := v) c45 (by omega) (by omega)]; rfl) dX1_decimalIn_88 hlocks
                  · refine lv_iconst (v := -1) hx hb dX1_decimalIn_69 (by decide) ?_
                    exact rt_i hx hb hr (by rw [← ha, az_dc_bad (T := T) c45 (by first | exact az_hd_ne hd | omega)]; rfl) dX1_decimalIn_70 hlocks
          exact lp42 _ fr 0 (Nat.le_refl _) (by omega) (Nat.zero_le _) ((az_dc_s (by omega)).symm) (Nat.lt_succ_self _) ls (lv_sub hl [3, 4, 5, 6, 1, 0] rfl)
      · refine lv_iconst (v := nI 1) hx hb dX1_decimalIn_17 (by decide) ?_
        refine lv_goto (tgt := 22) hx hb dX1_decimalIn_18 (by decide) ?_
        refine lv_istore (lv' := [(4, .int (nI 1)), (0, .ref h0), (1, .int (nI fr)), (2, .int (nI to)), (3, .int (nI most))]) hx hb dX1_decimalIn_22 hl (by decide) rfl (fun ls hl => ?_)
        refine lv_iload_n hx hb dX1_decimalIn_24 rfl (lv_at hl 2 rfl) ?_
        refine lv_iload_n hx hb dX1_decimalIn_25 rfl (lv_at hl 3 rfl) ?_
        refine bn_ge (tgt := 34) hx hb dX1_decimalIn_26 (by decide) (by omega) (by omega) (fun c26 => ?_) (fun c26 => ?_)
        · refine lv_iconst (v := -1) hx hb dX1_decimalIn_34 (by decide) ?_
          exact rt_i hx hb hr (by rw [az_dc_n (T := T) (fr := fr) (to := to) (by omega)]; rfl) dX1_decimalIn_35 hlocks
        · refine lv_iload hx hb dX1_decimalIn_29 (lv_at hl 0 rfl) ?_
          refine lv_if_eq (tgt := 36) hx hb dX1_decimalIn_31 (by decide) (fun c => absurd c (by decide)) (fun _ => ?_)
          refine lv_iconst (v := -1) hx hb dX1_decimalIn_34 (by decide) ?_
          exact rt_i hx hb hr (by rw [az_dc_n (T := T) (fr := fr) (to := to) (by omega)]; rfl) dX1_decimalIn_35 hlocks
  · refine rc_Vi (As := [.int (nI fr)]) (rest := []) ⟨hx, hb, hml, hown, hts⟩ (ct_tapeAt_out l dC dI h0 ht hw a1 a2 a3 n w cT f T hT hn fr (Nat.not_lt.mp h2) (by omega)) (cwV 1 hts gX1_decimalIn_X1_tapeAt rfl rfl rfl (by decide +kernel) ⟨Nat.le_of_ble_eq_true rfl, Nat.le_of_ble_eq_true rfl⟩) (hP.sub [0, 1] rfl) (hK.sub [0] rfl) 0 rfl rfl rfl hl.1 rfl (Nat.le_of_ble_eq_true rfl) dX1_decimalIn_2 ⟨(Nat.zero_le _), (Nat.zero_le _)⟩ ?_
    refine lv_bipush (v := nI 48) hx hb dX1_decimalIn_5 (by decide) ?_
    refine lv_icmp_ne (tgt := 21) hx hb dX1_decimalIn_7 (by decide) (fun _ => ?_) (fun c => absurd c (by decide))
    refine lv_iconst (v := nI 0) hx hb dX1_decimalIn_21 (by decide) ?_
    refine lv_istore (lv' := [(4, .int (nI 0)), (0, .ref h0), (1, .int (nI fr)), (2, .int (nI to)), (3, .int (nI most))]) hx hb dX1_decimalIn_22 hl (by decide) rfl (fun ls hl => ?_)
    refine lv_iload_n hx hb dX1_decimalIn_24 rfl (lv_at hl 2 rfl) ?_
    refine lv_iload_n hx hb dX1_decimalIn_25 rfl (lv_at hl 3 rfl) ?_
    refine bn_ge (tgt := 34) hx hb dX1_decimalIn_26 (by decide) (by omega) (by omega) (fun c26 => ?_) (fun c26 => ?_)
    · refine lv_iconst (v := -1) hx hb dX1_decimalIn_34 (by decide) ?_
      exact rt_i hx hb hr (by rw [az_dc_n (T := T) (fr := fr) (to := to) (by omega)]; rfl) dX1_decimalIn_35 hlocks
    · refine lv_iload hx hb dX1_decimalIn_29 (lv_at hl 0 rfl) ?_
      refine lv_if_eq (tgt := 36) hx hb dX1_decimalIn_31 (by decide) (fun _ => ?_) (fun c => absurd c (by decide))
      refine lv_iconst (v := nI 0) hx hb dX1_decimalIn_36 (by decide) ?_
      refine lv_istore (lv' := [(5, .int (nI 0)), (4, .int (nI 0)), (0, .ref h0), (1, .int (nI fr)), (2, .int (nI to)), (3, .int (nI most))]) hx hb dX1_decimalIn_37 hl (by decide) rfl (fun ls hl => ?_)
      refine lv_iload_n hx hb dX1_decimalIn_39 rfl (lv_at hl 3 rfl) ?_
      refine lv_istore (lv' := [(6, .int (nI fr)), (5, .int (nI 0)), (4, .int (nI 0)), (0, .ref h0), (1, .int (nI fr)), (2, .int (nI to)), (3, .int (nI most))]) hx hb dX1_decimalIn_40 hl (by decide) rfl (fun ls hl => ?_)
      have lp42 : ∀ (N : Nat) (i : Nat) (v : Nat), (fr ≤ i) → (i ≤ to) → (v ≤ most) → (az_dcF T most (to - i) i v = az_dc T fr to most) → (to - i) < N → ∀ (ls : Array Slot), lv_has ls 8 [(0, .ref h0), (1, .int (nI fr)), (2, .int (nI to)), (3, .int (nI most)), (5, .int (nI v)), (6, .int (nI i))] → W p l e (headSpec wsX1_decimalIn ({ frames := 2, cells := 0, slots := 0, locals := 43 })).room s m ([.ref h0, .int (nI fr), .int (nI to), .int (nI most)] : List Value).toArray below meth c s.heap [] 0 0 (MQ below (vp_Si (fun r => r = az_o (az_dc T fr to most))) ([.ref h0, .int (nI fr), .int (nI to), .int (nI most)] : List Value).toArray s 0 0 (fun _ => False)) (F0 m 42 ls []) := by
        intro N
        induction N with
        | zero => intro i v hi hi2 hv ha hN; exact absurd hN (Nat.not_lt_zero _)
        | succ N ih =>
          intro i v hi hi2 hv ha hN ls hl
          refine lv_iload hx hb dX1_decimalIn_42 (lv_at hl 5 rfl) ?_
          refine lv_iload_n hx hb dX1_decimalIn_44 rfl (lv_at hl 2 rfl) ?_
          refine bn_ge (tgt := 95) hx hb dX1_decimalIn_45 (by decide) (by omega) (by omega) (fun c45 => ?_) (fun c45 => ?_)
          · refine lv_iload hx hb dX1_decimalIn_95 (lv_at hl 4 rfl) ?_
            exact rt_i hx hb hr (by have h := ha; rw [show to - i = 0 by omega] at h; exact congrArg az_o h) dX1_decimalIn_97 hlocks
          · have hin : i < n := Nat.lt_of_lt_of_le c45 hto
            refine lv_aload_n hx hb dX1_decimalIn_48 rfl (lv_at hl 0 rfl) ?_
            refine lv_iload hx hb dX1_decimalIn_49 (lv_at hl 5 rfl) ?_
            refine rc_Vi (As := [.int (nI i)]) (rest := []) ⟨hx, hb, hml, hown, hts⟩ (ct_digitAt l dC dI h0 ht hw a1 a2 a3 n w cT f T hT hn i hin) (cwV 1 hts gX1_decimalIn_X1_digitAt rfl rfl rfl (by decide +kernel) ⟨Nat.le_of_ble_eq_true rfl, Nat.le_of_ble_eq_true rfl⟩) (hP.sub [0, 1] rfl) (hK.sub [0] rfl) 0 rfl rfl rfl hl.1 rfl (Nat.le_of_ble_eq_true rfl) dX1_decimalIn_51 ⟨(Nat.zero_le _), (Nat.zero_le _)⟩ ?_
            rcases hd : az_hd (T i) with _ | d
            · refine tp_i (-1) (rfl) ?_
              refine lv_istore (lv' := [(7, .int (-1)), (0, .ref h0), (1, .int (nI fr)), (2, .int (nI to)), (3, .int (nI most)), (5, .int (nI v)), (6, .int (nI i))]) hx hb dX1_decimalIn_54 hl (by decide) rfl (fun ls hl => ?_)
              refine lv_iload hx hb dX1_decimalIn_56 (lv_at hl 0 rfl) ?_
              refine lv_iconst (v := -1) hx hb dX1_decimalIn_58 (by decide) ?_
              refine lv_icmp_eq (tgt := 69) hx hb dX1_decimalIn_59 (by decide) (fun _ => ?_) (fun c => absurd c (by decide))
              refine lv_iconst (v := -1) hx hb dX1_decimalIn_69 (by decide) ?_
              exact rt_i hx hb hr (by rw [← ha, az_dc_bad (T := T) c45 (by first | exact az_hd_ne hd | omega)]; rfl) dX1_decimalIn_70 hlocks
            · have hq := az_hd_q hd
              refine tp_i (nI d) (rfl) ?_
              refine lv_istore (lv' := [(7, .int (nI d)), (0, .ref h0), (1, .int (nI fr)), (2, .int (nI to)), (3, .int (nI most)), (5, .int (nI v)), (6, .int (nI i))]) hx hb dX1_decimalIn_54 hl (by decide) rfl (fun ls hl => ?_)
              refine lv_iload hx hb dX1_decimalIn_56 (lv_at hl 0 rfl) ?_
              refine lv_iconst (v := -1) hx hb dX1_decimalIn_58 (by decide) ?_
              refine lv_icmp_eq (tgt := 69) hx hb dX1_decimalIn_59 (by decide) (fun c => absurd c (nI_m1 (by omega))) (fun _ => ?_)
              refine lv_iload hx hb dX1_decimalIn_62 (lv_at hl 0 rfl) ?_
              refine lv_bipush (v := nI 9) hx hb dX1_decimalIn_64 (by decide) ?_
              refine bn_le (tgt := 71) hx hb dX1_decimalIn_66 (by decide) (by omega) (by omega) (fun c66 => ?_) (fun c66 => ?_)
              · refine lv_iload hx hb dX1_decimalIn_71 (lv_at hl 5 rfl) ?_
                refine lv_bipush (v := nI 10) hx hb dX1_decimalIn_73 (by decide) ?_
                refine lv_imul hx hb dX1_decimalIn_75 ?_
                refine tp_i (nI (v * 10)) (pk_mul _ _) ?_
                refine lv_iload hx hb dX1_decimalIn_76 (lv_at hl 0 rfl) ?_
                refine lv_iadd hx hb dX1_decimalIn_78 ?_
                refine tp_i (nI ((v * 10) + d)) (nI_add _ _) ?_
                refine lv_istore (lv' := [(5, .int (nI ((v * 10) + d))), (7, .int (nI d)), (0, .ref h0), (1, .int (nI fr)), (2, .int (nI to)), (3, .int (nI most)), (6, .int (nI i))]) hx hb dX1_decimalIn_79 hl (by decide) rfl (fun ls hl => ?_)
                refine lv_iload hx hb dX1_decimalIn_81 (lv_at hl 0 rfl) ?_
                refine lv_iload_n hx hb dX1_decimalIn_83 rfl (lv_at hl 5 rfl) ?_
                refine bn_le (tgt := 89) hx hb dX1_decimalIn_84 (by decide) (by omega) (by omega) (fun c84 => ?_) (fun c84 => ?_)
                · refine lv_iinc (v := nI (i + 1)) (lv' := [(6, .int (nI (i + 1))), (5, .int (nI ((v * 10) + d))), (7, .int (nI d)), (0, .ref h0), (1, .int (nI fr)), (2, .int (nI to)), (3, .int (nI most))]) hx hb dX1_decimalIn_89 hl (k := 6) rfl (nI_add _ 1) (by decide) rfl (fun ls hl => ?_)
                  refine lv_goto (tgt := 42) hx hb dX1_decimalIn_92 (by decide) ?_
                  exact ih (i + 1) (v * 10 + d) (by omega) (by omega) (by omega) (by rw [← ha, az_dc_step (T := T) (most := most) (v := v) c45 (by omega) (by omega), show d = T i - 48 by omega]) (by omega) ls (lv_sub hl [3, 4, 5, 6, 1, 0] rfl)
                · refine lv_iconst (v := -1) hx hb dX1_decimalIn_87 (by decide) ?_
                  exact rt_i hx hb hr (by rw [← ha, az_dc_big (T := T) (most := most) (v := v) c45 (by omega) (by omega)]; rfl) dX1_decimalIn_88 hlocks
              · refine lv_iconst (v := -1) hx hb dX1_decimalIn_69 (by decide) ?_
                exact rt_i hx hb hr (by rw [← ha, az_dc_bad (T := T) c45 (by first | exact az_hd_ne hd | omega)]; rfl) dX1_decimalIn_70 hlocks
      exact lp42 _ fr 0 (Nat.le_refl _) (by omega) (Nat.zero_le _) ((az_dc_s (by omega)).symm) (Nat.lt_succ_self _) ls (lv_sub hl [3, 4, 5, 6, 1, 0] rfl)
set_option maxRecDepth 100000 in
set_option maxHeartbeats 4000000 in
/-- hexadecimalIn(from, to) -/
theorem ct_hexadecimalIn (l : Launch) (dC : Nat → ClassId) (dI : Nat → Nat → Nat) (h0 ht hw a1 a2 a3 n w : Nat) (cT : ClassId) (f : Nat → Int32) (T : Nat → Nat) (hT : az_tp f T n) (hn : n ≤ 60) (fr to : Nat) (hfr : fr < 2147483648) (hto : to ≤ n) : Met l yX1_hexadecimalIn wsX1_hexadecimalIn ({ frames := 2, cells := 0, slots := 0, locals := 43 }) (rd_P (dC, dI) azCl [(h0, .inr (1, [.ref ht, .int (nI n), .ref hw, .int (nI w), .ref a1, .ref a2, .ref a3])), (ht, .inl (cT, 60, .inl f))] [(cT, .byte)] [.ref h0, .int (nI fr), .int (nI to)]) (vp_Si (fun r => r = az_o (az_hx T fr to))) 0 0 (fun _ => False) := by
  refine Met.ofW (cc := cX1_hexadecimalIn) (maxL := 6) (ret := (some .int)) (by decide) rfl ?_
  intro p e s m args below meth c s₁ Bd hml hv
  obtain ⟨rfl, hP, hK⟩ := hv
  have hx := Bd.exec
  have hb := Bd.bytes
  have hr := Bd.returns
  have hts := atoms_spec (ws := wsX1_hexadecimalIn) Bd.pre
  have hown : s.vm.findClass RX1 = some m.cls := findClass_of_methodNamed Bd.named
  have hlocks := Bd.notSynchronized
  have hl := lv_entry ([.ref h0, .int (nI fr), .int (nI to)]) (n := 6) (Nat.le_of_ble_eq_true rfl)
  rw [lg_entry_eq]
  generalize (lg_sl ([.ref h0, .int (nI fr), .int (nI to)]) ++ List.replicate (6 - (lg_sl ([.ref h0, .int (nI fr), .int (nI to)])).length) Slot.unset).toArray = ls at hl ⊢
  have hl : lv_has ls 6 [(0, .ref h0), (1, .int (nI fr)), (2, .int (nI to))] := hl
  refine lv_iload_n hx hb dX1_hexadecimalIn_0 rfl (lv_at hl 1 rfl) ?_
  refine lv_iload_n hx hb dX1_hexadecimalIn_1 rfl (lv_at hl 2 rfl) ?_
  refine bn_ge (tgt := 12) hx hb dX1_hexadecimalIn_2 (by decide) (by omega) (by omega) (fun c2 => ?_) (fun c2 => ?_)
  · refine lv_iconst (v := -1) hx hb dX1_hexadecimalIn_12 (by decide) ?_
    exact rt_i hx hb hr (by rw [az_hx_n (T := T) (fr := fr) (to := to) (by omega)]; rfl) dX1_hexadecimalIn_13 hlocks
  · refine lv_iload_n hx hb dX1_hexadecimalIn_5 rfl (lv_at hl 2 rfl) ?_
    refine lv_iload_n hx hb dX1_hexadecimalIn_6 rfl (lv_at hl 1 rfl) ?_
    refine lv_isub hx hb dX1_hexadecimalIn_7 ?_
    refine tp_i (nI (to - fr)) (pk_sub (by omega)) ?_
    refine lv_iconst (v := nI 4) hx hb dX1_hexadecimalIn_8 (by decide) ?_
    refine bn_le (tgt := 14) hx hb dX1_hexadecimalIn_9 (by decide) (by omega) (by omega) (fun c9 => ?_) (fun c9 => ?_)
    · refine lv_iconst (v := nI 0) hx hb dX1_hexadecimalIn_14 (by decide) ?_
      refine lv_istore_n (lv' := [(3, .int (nI 0)), (0, .ref h0), (1, .int (nI fr)), (2, .int (nI to))]) hx hb dX1_hexadecimalIn_15 rfl hl (by decide) rfl (fun ls hl => ?_)
      refine lv_iload_n hx hb dX1_hexadecimalIn_16 rfl (lv_at hl 2 rfl) ?_
      refine lv_istore (lv' := [(4, .int (nI fr)), (3, .int (nI 0)), (0, .ref h0), (1, .int (nI fr)), (2, .int (nI to))]) hx hb dX1_hexadecimalIn_17 hl (by decide) rfl (fun ls hl => ?_)
      have lp19 : ∀ (N : Nat) (i : Nat) (v : Nat), (fr ≤ i) → (i ≤ to) → (v < 16 ^ (i - fr)) → (az_hxF T (to - i) i v = az_hx T fr to) → (to - i) < N → ∀ (ls : Array Slot), lv_has ls 6 [(0, .ref h0), (1, .int (nI fr)), (2, .int (nI to)), (3, .int (nI v)), (4, .int (nI i))] → W p l e (headSpec wsX1_hexadecimalIn ({ frames := 2, cells := 0, slots := 0, locals := 43 })).room s m ([.ref h0, .int (nI fr), .int (nI to)] : List Value).toArray below meth c s.heap [] 0 0 (MQ below (vp_Si (fun r => r = az_o (az_hx T fr to))) ([.ref h0, .int (nI fr), .int (nI to)] : List Value).toArray s 0 0 (fun _ => False)) (F0 m 19 ls []) := by
        intro N
        induction N with
        | zero => intro i v hi hi2 hv ha hN; exact absurd hN (Nat.not_lt_zero _)
        | succ N ih =>
          intro i v hi hi2 hv ha hN ls hl
          refine lv_iload hx hb dX1_hexadecimalIn_19 (lv_at hl 4 rfl) ?_
          refine lv_iload_n hx hb dX1_hexadecimalIn_21 rfl (lv_at hl 2 rfl) ?_
          refine bn_ge (tgt := 54) hx hb dX1_hexadecimalIn_22 (by decide) (by omega) (by omega) (fun c22 => ?_) (fun c22 => ?_)
          · refine lv_iload_n hx hb dX1_hexadecimalIn_54 rfl (lv_at hl 3 rfl) ?_
            exact rt_i hx hb hr (by have h := ha; rw [show to - i = 0 by omega] at h; exact congrArg az_o h) dX1_hexadecimalIn_55 hlocks
          · have hin : i < n := Nat.lt_of_lt_of_le c22 hto
            have hv4 : 16 ^ (i - fr) ≤ 4096 := az_p16 (by omega)
            refine lv_aload_n hx hb dX1_hexadecimalIn_25 rfl (lv_at hl 0 rfl) ?_
            refine lv_iload hx hb dX1_hexadecimalIn_26 (lv_at hl 4 rfl) ?_
            refine rc_Vi (As := [.int (nI i)]) (rest := []) ⟨hx, hb, hml, hown, hts⟩ (ct_digitAt l dC dI h0 ht hw a1 a2 a3 n w cT f T hT hn i hin) (cwV 1 hts gX1_hexadecimalIn_X1_digitAt rfl rfl rfl (by decide +kernel) ⟨Nat.le_of_ble_eq_true rfl, Nat.le_of_ble_eq_true rfl⟩) (hP.sub [0, 1] rfl) (hK.sub [0] rfl) 0 rfl rfl rfl hl.1 rfl (Nat.le_of_ble_eq_true rfl) dX1_hexadecimalIn_28 ⟨(Nat.zero_le _), (Nat.zero_le _)⟩ ?_
            rcases hd : az_hd (T i) with _ | d
            · refine tp_i (-1) (rfl) ?_
              refine lv_istore (lv' := [(5, .int (-1)), (0, .ref h0), (1, .int (nI fr)), (2, .int (nI to)), (3, .int (nI v)), (4, .int (nI i))]) hx hb dX1_hexadecimalIn_31 hl (by decide) rfl (fun ls hl => ?_)
              refine lv_iload hx hb dX1_hexadecimalIn_33 (lv_at hl 0 rfl) ?_
              refine lv_iconst (v := -1) hx hb dX1_hexadecimalIn_35 (by decide) ?_
              refine lv_icmp_ne (tgt := 41) hx hb dX1_hexadecimalIn_36 (by decide) (fun c => absurd c (by decide)) (fun _ => ?_)
              refine lv_iconst (v := -1) hx hb dX1_hexadecimalIn_39 (by decide) ?_
              exact rt_i hx hb hr (by rw [← ha, az_hx_bad c22 hd]; rfl) dX1_hexadecimalIn_40 hlocks
            · have hq := az_hd_q hd
              refine tp_i (nI d) (rfl) ?_
              refine lv_istore (lv' := [(5, .int (nI d)), (0, .ref h0), (1, .int (nI fr)), (2, .int (nI to)), (3, .int (nI v)), (4, .int (nI i))]) hx hb dX1_hexadecimalIn_31 hl (by decide) rfl (fun ls hl => ?_)
              refine lv_iload hx hb dX1_hexadecimalIn_33 (lv_at hl 0 rfl) ?_
              refine lv_iconst (v := -1) hx hb dX1_hexadecimalIn_35 (by decide) ?_
              refine lv_icmp_ne (tgt := 41) hx hb dX1_hexadecimalIn_36 (by decide) (fun _ => ?_) (fun c => absurd c (nI_m1 (by omega)))
              refine lv_iload_n hx hb dX1_hexadecimalIn_41 rfl (lv_at hl 4 rfl) ?_
              refine lv_iconst (v := nI 4) hx hb dX1_hexadecimalIn_42 (by decide) ?_
              refine lv_ishl hx hb dX1_hexadecimalIn_43 ?_
              refine tp_i (nI (v * 16)) (pk_shlN _ 4 (by decide) (by omega)) ?_
              refine lv_iload hx hb dX1_hexadecimalIn_44 (lv_at hl 0 rfl) ?_
              refine lv_ior hx hb dX1_hexadecimalIn_46 ?_
              refine tp_i (nI (v * 16 + d)) (az_or16 (by omega)) ?_
              refine lv_istore_n (lv' := [(3, .int (nI (v * 16 + d))), (5, .int (nI d)), (0, .ref h0), (1, .int (nI fr)), (2, .int (nI to)), (4, .int (nI i))]) hx hb dX1_hexadecimalIn_47 rfl hl (by decide) rfl (fun ls hl => ?_)
              refine lv_iinc (v := nI (i + 1)) (lv' := [(4, .int (nI (i + 1))), (3, .int (nI (v * 16 + d))), (5, .int (nI d)), (0, .ref h0), (1, .int (nI fr)), (2, .int (nI to))]) hx hb dX1_hexadecimalIn_48 hl (k := 5) rfl (nI_add _ 1) (by decide) rfl (fun ls hl => ?_)
              refine lv_goto (tgt := 19) hx hb dX1_hexadecimalIn_51 (by decide) ?_
              exact ih (i + 1) (v * 16 + d) (by omega) (by omega) (by rw [show i + 1 - fr = (i - fr) + 1 by omega]; exact az_p16s hv (by omega)) (by rw [← ha, az_hx_step c22 hd]) (by omega) ls (lv_sub hl [3, 4, 5, 1, 0] rfl)
      exact lp19 _ fr 0 (Nat.le_refl _) (by omega) (by rw [Nat.sub_self]; decide) ((az_hx_s (by omega) (by omega)).symm) (Nat.lt_succ_self _) ls (lv_sub hl [2, 3, 4, 1, 0] rfl)
    · refine lv_iconst (v := -1) hx hb dX1_hexadecimalIn_12 (by decide) ?_
      exact rt_i hx hb hr (by rw [az_hx_n (T := T) (fr := fr) (to := to) (by omega)]; rfl) dX1_hexadecimalIn_13 hlocks
end
section
/-! addresses: V < 2^128; m: how many bits lie behind the length -/
def az_wl (f : Nat) : Nat := if f = 4 then 32 else 128
theorem az_wl_le (f : Nat) : az_wl f ≤ 128 := by unfold az_wl; split <;> omega
theorem az_wl_4 : az_wl 4 = 32 := rfl
theorem az_wl_n {f : Nat} (h : f ≠ 4) : az_wl f = 128 := by unfold az_wl; rw [if_neg h]
/-- a boolean as an answer -/
def az_b (p : Prop) [Decidable p] : Int32 := if p then nI 1 else nI 0
theorem az_b_t {p : Prop} [Decidable p] (h : p) : az_b p = nI 1 := if_pos h
theorem az_b_f {p : Prop} [Decidable p] (h : ¬ p) : az_b p = nI 0 := if_neg h
theorem az_b_c {p q : Prop} [Decidable p] [Decidable q] (h : p ↔ q) : az_b p = az_b q := by
  by_cases hp : p
  · rw [az_b_t hp, az_b_t (h.mp hp)]
  · rw [az_b_f hp, az_b_f (fun z => hp (h.mpr z))]
def az_hb (x : Int32) : Int64 := if 0 < x then (if x < nI 64 then (-1 : Int64) <<< ((nI 64 - x).toInt64 &&& 63) else -1) else lN 0
theorem az_hb_u : ∀ j, j < 129 → az_hb (nI j) = lN (18446744073709551616 - 2 ^ (64 - j)) := by decide +kernel
theorem az_hb_l : ∀ j, j < 129 → az_hb (nI j - nI 64) = lN (18446744073709551616 - 2 ^ (64 - (j - 64))) := by decide +kernel
theorem az_nmask {a r : Nat} (ha : a < 18446744073709551616) (hr : r ≤ 64) : a &&& (18446744073709551616 - 2 ^ r) = a / 2 ^ r * 2 ^ r := by
  have e1 : (18446744073709551616 - 2 ^ r : Nat) = (2 ^ (64 - r) - 1) <<< r := by
    rw [Nat.shiftLeft_eq, Nat.sub_mul, ← Nat.pow_add, show 64 - r + r = 64 by omega, Nat.one_mul]
  have e2 : a / 2 ^ r * 2 ^ r = (a >>> r) <<< r := by rw [Nat.shiftLeft_eq, Nat.shiftRight_eq_div_pow]
  rw [e1, e2]
  apply Nat.eq_of_testBit_eq
  intro j
  rw [Nat.testBit_and, Nat.testBit_shiftLeft, Nat.testBit_shiftLeft, Nat.testBit_two_pow_sub_one, Nat.testBit_shiftRight]
  by_cases h : r ≤ j
  · rw [show r + (j - r) = j by omega]
    by_cases h2 : j < 64
    · simp [h, show j - r < 64 - r by omega]
    · rw [Nat.testBit_lt_two_pow (show a < 2 ^ j from Nat.lt_of_lt_of_le (m := 2 ^ 64) ha (Nat.pow_le_pow_right (n := 2) (by decide) (show 64 ≤ j by omega)))]
      simp
  · simp [h]
theorem az_lmask {a r : Nat} (ha : a < 18446744073709551616) (hr : r ≤ 64) : lN a &&& lN (18446744073709551616 - 2 ^ r) = lN (a / 2 ^ r * 2 ^ r) := by
  have hp : 0 < 2 ^ r := Nat.two_pow_pos r
  rw [wb_and ha (show 18446744073709551616 - 2 ^ r < 2 ^ 64 by omega), az_nmask ha hr]
/-- the bits behind cut off -/
def az_cut (V m : Nat) : Nat := V / 2 ^ m * 2 ^ m
theorem az_cut_le (V m : Nat) : az_cut V m ≤ V := Nat.div_mul_le_self V (2 ^ m)
theorem az_cut_hi (V : Nat) {m : Nat} (hm : m ≤ 128) : az_cut V m / 18446744073709551616 = V / 18446744073709551616 / 2 ^ (m - 64) * 2 ^ (m - 64) := by
  unfold az_cut
  by_cases h : m ≤ 64
  · rw [show m - 64 = 0 by omega, Nat.pow_zero, Nat.div_one, Nat.mul_one, show (18446744073709551616 : Nat) = 2 ^ m * 2 ^ (64 - m) by rw [← Nat.pow_add, show m + (64 - m) = 64 by omega], ← Nat.div_div_eq_div_mul, ← Nat.div_div_eq_div_mul, Nat.mul_div_cancel _ (Nat.two_pow_pos m)]
  · have e : 2 ^ m = 18446744073709551616 * 2 ^ (m - 64) := by rw [show (18446744073709551616 : Nat) = 2 ^ 64 from rfl, ← Nat.pow_add, show 64 + (m - 64) = m by omega]
    rw [e, ← Nat.div_div_eq_div_mul, Nat.mul_comm 18446744073709551616 (2 ^ (m - 64)), ← Nat.mul_assoc, Nat.mul_div_cancel _ (by decide)]
theorem az_cut_lo (V : Nat) {m : Nat} (hm : m ≤ 128) : az_cut V m % 18446744073709551616 = V % 18446744073709551616 / 2 ^ (64 - (128 - m - 64)) * 2 ^ (64 - (128 - m - 64)) := by
  unfold az_cut
  by_cases h : m ≤ 64
  · rw [show 64 - (128 - m - 64) = m by omega, show (18446744073709551616 : Nat) = 2 ^ (64 - m) * 2 ^ m by rw [← Nat.pow_add, show 64 - m + m = 64 by omega], Nat.mul_mod_mul_right, Nat.mul_comm (2 ^ (64 - m)) (2 ^ m), Nat.mod_mul_right_div_self]
  · rw [show 64 - (128 - m - 64) = 64 by omega]
    have e : 2 ^ m = 2 ^ (m - 64) * 18446744073709551616 := by rw [show (18446744073709551616 : Nat) = 2 ^ 64 from rfl, ← Nat.pow_add, show m - 64 + 64 = m by omega]
    rw [e, ← Nat.mul_assoc, Nat.mul_mod_left]
    have := Nat.mod_lt V (show 0 < 18446744073709551616 by decide)
    rw [show (2 ^ 64 : Nat) = 18446744073709551616 from rfl, Nat.div_eq_of_lt this, Nat.zero_mul]
/-- what the class's masks do -/
theorem az_cut_u {V k : Nat} (hV : V < 340282366920938463463374607431768211456) (hk : k ≤ 128) : lN (V / 18446744073709551616) &&& az_hb (nI k) = lN (az_cut V (128 - k) / 18446744073709551616) := by
  rw [az_hb_u k (by omega), az_lmask (by omega) (by omega), az_cut_hi V (by omega), show 128 - k - 64 = 64 - k by omega]
theorem az_cut_l {V k : Nat} (hk : k ≤ 128) : lN (V % 18446744073709551616) &&& az_hb (nI k - nI 64) = lN (az_cut V (128 - k) % 18446744073709551616) := by
  rw [az_hb_l k (by omega), az_lmask (Nat.mod_lt _ (by decide)) (by omega), az_cut_lo V (by omega), show 128 - (128 - k) = k by omega]
theorem az_lN_eq {a b : Nat} (ha : a < 18446744073709551616) (hb : b < 18446744073709551616) : lN a = lN b ↔ a = b := by
  constructor
  · intro h
    have h1 := wb_tn (n := a) ha
    rw [h, wb_tn hb] at h1
    exact h1.symm
  · intro h; rw [h]
theorem az_halves {V U : Nat} (h1 : V / 18446744073709551616 = U / 18446744073709551616) (h2 : V % 18446744073709551616 = U % 18446744073709551616) : V = U := by
  have a := Nat.div_add_mod V 18446744073709551616
  have b := Nat.div_add_mod U 18446744073709551616
  rw [h1, h2] at a
  omega
theorem az_xmask {a b r : Nat} (ha : a < 18446744073709551616) (hb : b < 18446744073709551616) (hr : r ≤ 64) : ((lN a ^^^ lN b) &&& lN (18446744073709551616 - 2 ^ r)) = lN 0 ↔ a / 2 ^ r * 2 ^ r = b / 2 ^ r * 2 ^ r := by
  have hx : a ^^^ b < 18446744073709551616 := Nat.xor_lt_two_pow (n := 64) ha hb
  have h2 : (a ^^^ b) / 2 ^ r * 2 ^ r < 18446744073709551616 := Nat.lt_of_le_of_lt (Nat.div_mul_le_self _ _) hx
  have hp : 0 < 2 ^ r := Nat.two_pow_pos r
  rw [lN_xor, az_lmask hx hr, az_lN_eq h2 (by decide)]
  have e : (a ^^^ b) / 2 ^ r = (a / 2 ^ r) ^^^ (b / 2 ^ r) := by
    rw [← Nat.shiftRight_eq_div_pow, ← Nat.shiftRight_eq_div_pow, ← Nat.shiftRight_eq_div_pow]
    exact Nat.shiftRight_xor_distrib
  constructor
  · intro h
    have h3 : (a ^^^ b) / 2 ^ r = 0 := by
      rcases Nat.mul_eq_zero.mp h with q | q
      · exact q
      · omega
    rw [e] at h3
    have h4 : a / 2 ^ r = b / 2 ^ r := by
      apply Nat.eq_of_testBit_eq
      intro i
      have h5 := congrArg (fun x => x.testBit i) h3
      simp only [Nat.testBit_xor, Nat.zero_testBit] at h5
      revert h5
      cases (a / 2 ^ r).testBit i <;> cases (b / 2 ^ r).testBit i <;> simp
    rw [h4]
  · intro h
    have h4 : a / 2 ^ r = b / 2 ^ r := Nat.eq_of_mul_eq_mul_right hp h
    rw [e, h4, Nat.xor_self, Nat.zero_mul]
theorem az_cov_u {V U k : Nat} (hV : V < 340282366920938463463374607431768211456) (hU : U < 340282366920938463463374607431768211456) (hk : k ≤ 128) : ((lN (V / 18446744073709551616) ^^^ lN (U / 18446744073709551616)) &&& az_hb (nI k)) = lN 0 ↔ az_cut V (128 - k) / 18446744073709551616 = az_cut U (128 - k) / 18446744073709551616 := by
  rw [az_hb_u k (by omega), az_xmask (by omega) (by omega) (by omega), az_cut_hi V (by omega), az_cut_hi U (by omega), show 128 - k - 64 = 64 - k by omega]
theorem az_cov_l {V U k : Nat} (hk : k ≤ 128) : ((lN (V % 18446744073709551616) ^^^ lN (U % 18446744073709551616)) &&& az_hb (nI k - nI 64)) = lN 0 ↔ az_cut V (128 - k) % 18446744073709551616 = az_cut U (128 - k) % 18446744073709551616 := by
  rw [az_hb_l k (by omega), az_xmask (Nat.mod_lt _ (by decide)) (Nat.mod_lt _ (by decide)) (by omega), az_cut_lo V (by omega), az_cut_lo U (by omega), show 128 - (128 - k) = k by omega]
/-! parts of an address -/
def az_pt (V k : Nat) : Nat := V / 2 ^ (16 * (7 - k)) % 65536
theorem az_pt_u {V k : Nat} (h : k < 4) : V / 18446744073709551616 / 2 ^ (48 - 16 * (k % 4)) % 65536 = az_pt V k := by
  unfold az_pt
  rcases (show k = 0 ∨ k = 1 ∨ k = 2 ∨ k = 3 by omega) with rfl | rfl | rfl | rfl <;> simp only [Nat.reduceMod, Nat.reduceMul, Nat.reduceSub, Nat.reducePow] <;> omega
theorem az_pt_l {V k : Nat} (h : 4 ≤ k) (h2 : k < 8) : V % 18446744073709551616 / 2 ^ (48 - 16 * (k % 4)) % 65536 = az_pt V k := by
  unfold az_pt
  rcases (show k = 4 ∨ k = 5 ∨ k = 6 ∨ k = 7 by omega) with rfl | rfl | rfl | rfl <;> simp only [Nat.reduceMod, Nat.reduceMul, Nat.reduceSub, Nat.reducePow] <;> omega
theorem az_pt_lt (V k : Nat) : az_pt V k < 65536 := Nat.mod_lt _ (by decide)
/-- a part set that was 0, with all behind it -/
def az_sp (V k v : Nat) : Nat := V + v * 2 ^ (16 * (7 - k))
theorem az_sp_u {V k v : Nat} (hV : V < 340282366920938463463374607431768211456) (h : k < 4) (hv : v < 65536) (hz : V % 2 ^ (16 * (8 - k)) = 0) : lN (V / 18446744073709551616) ||| lN (v * 2 ^ (48 - 16 * (k % 4))) = lN (az_sp V k v / 18446744073709551616) ∧ az_sp V k v % 18446744073709551616 = V % 18446744073709551616 ∧ az_sp V k v < 340282366920938463463374607431768211456 ∧ az_sp V k v % 2 ^ (16 * (8 - (k + 1))) = 0 := by
  unfold az_sp
  rcases (show k = 0 ∨ k = 1 ∨ k = 2 ∨ k = 3 by omega) with rfl | rfl | rfl | rfl <;> simp only [Nat.reduceMod, Nat.reduceMul, Nat.reduceSub, Nat.reducePow, Nat.reduceAdd] at hz ⊢
  · refine ⟨?_, by omega, by omega, by omega⟩
    have := g_or (k := 64) (p := 18446744073709551616) (a := v * 281474976710656) (b := 0) rfl (by omega) (by omega)
    rw [Nat.zero_mul, Nat.zero_add] at this
    rw [show V / 18446744073709551616 = 0 by omega, this]
    congr 1; omega
  · refine ⟨?_, by omega, by omega, by omega⟩
    have := g_or (k := 48) (p := 281474976710656) (a := v * 4294967296) (b := V / 5192296858534827628530496329220096) rfl (by omega) (by omega)
    rw [show V / 18446744073709551616 = V / 5192296858534827628530496329220096 * 281474976710656 by omega, this]
    congr 1; omega
  · refine ⟨?_, by omega, by omega, by omega⟩
    have := g_or (k := 32) (p := 4294967296) (a := v * 65536) (b := V / 79228162514264337593543950336) rfl (by omega) (by omega)
    rw [show V / 18446744073709551616 = V / 79228162514264337593543950336 * 4294967296 by omega, this]
    congr 1; omega
  · refine ⟨?_, by omega, by omega, by omega⟩
    have := g_or (k := 16) (p := 65536) (a := v * 1) (b := V / 1208925819614629174706176) rfl (by omega) (by omega)
    rw [show V / 18446744073709551616 = V / 1208925819614629174706176 * 65536 by omega, this]
    congr 1; omega
theorem az_sp_l {V k v : Nat} (hV : V < 340282366920938463463374607431768211456) (h : 4 ≤ k) (h2 : k < 8) (hv : v < 65536) (hz : V % 2 ^ (16 * (8 - k)) = 0) : lN (V % 18446744073709551616) ||| lN (v * 2 ^ (48 - 16 * (k % 4))) = lN (az_sp V k v % 18446744073709551616) ∧ az_sp V k v / 18446744073709551616 = V / 18446744073709551616 ∧ az_sp V k v < 340282366920938463463374607431768211456 ∧ az_sp V k v % 2 ^ (16 * (8 - (k + 1))) = 0 := by
  unfold az_sp
  rcases (show k = 4 ∨ k = 5 ∨ k = 6 ∨ k = 7 by omega) with rfl | rfl | rfl | rfl <;> simp only [Nat.reduceMod, Nat.reduceMul, Nat.reduceSub, Nat.reducePow, Nat.reduceAdd] at hz ⊢
  · refine ⟨?_, by omega, by omega, by omega⟩
    have := g_or (k := 64) (p := 18446744073709551616) (a := v * 281474976710656) (b := 0) rfl (by omega) (by omega)
    rw [Nat.zero_mul, Nat.zero_add] at this
    rw [show V % 18446744073709551616 = 0 by omega, this]
    congr 1; omega
  · refine ⟨?_, by omega, by omega, by omega⟩
    have := g_or (k := 48) (p := 281474976710656) (a := v * 4294967296) (b := V % 18446744073709551616 / 281474976710656) rfl (by omega) (by omega)
    rw [show V % 18446744073709551616 = V % 18446744073709551616 / 281474976710656 * 281474976710656 by omega, this]
    congr 1; omega
  · refine ⟨?_, by omega, by omega, by omega⟩
    have := g_or (k := 32) (p := 4294967296) (a := v * 65536) (b := V % 18446744073709551616 / 4294967296) rfl (by omega) (by omega)
    rw [show V % 18446744073709551616 = V % 18446744073709551616 / 4294967296 * 4294967296 by omega, this]
    congr 1; omega
  · refine ⟨?_, by omega, by omega, by omega⟩
    have := g_or (k := 16) (p := 65536) (a := v * 1) (b := V % 18446744073709551616 / 65536) rfl (by omega) (by omega)
    rw [show V % 18446744073709551616 = V % 18446744073709551616 / 65536 * 65536 by omega, this]
    congr 1; omega
/-! rows of parts 0 -/
def az_zrF (V : Nat) : Nat → Nat → Nat
  | 0, _ => 0
  | j + 1, k => if az_pt V k = 0 then 1 + az_zrF V j (k + 1) else 0
def az_zr (V k : Nat) : Nat := az_zrF V (8 - k) k
theorem az_zr_end {V k : Nat} (h : 8 ≤ k) : az_zr V k = 0 := by unfold az_zr; rw [show 8 - k = 0 by omega]; rfl
theorem az_zr_hit {V k : Nat} (h : k < 8) (e : az_pt V k = 0) : az_zr V k = 1 + az_zr V (k + 1) := by
  unfold az_zr
  rw [show 8 - k = (8 - (k + 1)) + 1 by omega]
  show (if az_pt V k = 0 then 1 + _ else 0) = _
  rw [if_pos e]
theorem az_zr_miss {V k : Nat} (h : k < 8) (e : az_pt V k ≠ 0) : az_zr V k = 0 := by
  unfold az_zr
  rw [show 8 - k = (8 - (k + 1)) + 1 by omega]
  show (if az_pt V k = 0 then 1 + _ else 0) = _
  rw [if_neg e]
theorem az_zrF_le (V : Nat) : ∀ j k, az_zrF V j k ≤ j
  | 0, _ => Nat.le_refl _
  | j + 1, k => by
    have := az_zrF_le V j (k + 1)
    show (if az_pt V k = 0 then 1 + az_zrF V j (k + 1) else 0) ≤ j + 1
    split <;> omega
theorem az_zr_le (V k : Nat) : az_zr V k ≤ 8 - k := az_zrF_le V _ _
def az_lr (V : Nat) : Nat → Nat × Nat
  | 0 => (8, 1)
  | k + 1 => if (az_lr V k).2 < az_zr V k then (k, az_zr V k) else az_lr V k
theorem az_lr_t {V k st lg : Nat} (h : az_lr V k = (st, lg)) (c : lg < az_zr V k) : az_lr V (k + 1) = (k, az_zr V k) := by
  show (if (az_lr V k).2 < az_zr V k then _ else _) = _
  rw [h, if_pos c]
theorem az_lr_f {V k st lg : Nat} (h : az_lr V k = (st, lg)) (c : az_zr V k ≤ lg) : az_lr V (k + 1) = (st, lg) := by
  show (if (az_lr V k).2 < az_zr V k then _ else _) = _
  rw [h, if_neg (Nat.not_lt.mpr c)]
end
section
set_option maxRecDepth 100000 in
set_option maxHeartbeats 4000000 in
/-- wholeLength() -/
theorem ct_wholeLength (l : Launch) (dC : Nat → ClassId) (dI : Nat → Nat → Nat) (a fm : Nat) (e2 : Int32) (e3 e4 : Int64) (hfm : fm ≤ 6) : Met l yX0_wholeLength wsX0_wholeLength ({ frames := 0, cells := 0, slots := 0, locals := 0 }) (rd_P (dC, dI) azCl [(a, .inr (0, [.int (nI fm), .int e2, .long e3, .long e4]))] [] [.ref a]) (vp_Si (fun r => r = nI (az_wl fm))) 0 0 (fun _ => False) := by
  refine Met.ofW (cc := cX0_wholeLength) (maxL := 1) (ret := (some .int)) (by decide) rfl ?_
  intro p e s m args below meth c s₁ Bd hml hv
  obtain ⟨rfl, hP, hK⟩ := hv
  have hx := Bd.exec
  have hb := Bd.bytes
  have hr := Bd.returns
  have hts := atoms_spec (ws := wsX0_wholeLength) Bd.pre
  have hown : s.vm.findClass RX0 = some m.cls := findClass_of_methodNamed Bd.named
  have hlocks := Bd.notSynchronized
  have hiX0 : ∀ w ∈ wsX00, w ∈ wsX0_wholeLength := by decide +kernel
  have hf9 := hts (.fieldLink RX0 9 "AddressTexts$Address" "family" "I") (by decide +kernel)
  have hl := lv_entry ([.ref a]) (n := 1) (Nat.le_of_ble_eq_true rfl)
  rw [lg_entry_eq]
  generalize (lg_sl ([.ref a]) ++ List.replicate (1 - (lg_sl ([.ref a])).length) Slot.unset).toArray = ls at hl ⊢
  have hl : lv_has ls 1 [(0, .ref a)] := hl
  refine lv_aload_n hx hb dX0_wholeLength_0 rfl (lv_at hl 0 rfl) ?_
  refine va_get (D := (dC, dI)) (ci := 0) (v := .int (nI fm)) (C := RX0) (T := TX0) (N := 4) hx hb hts hiX0 hown hK hP 0 rfl rfl 0 (by decide) hf9 (fun _ h9 => h9) rfl dX0_wholeLength_1 ?_
  refine lv_iconst (v := nI 4) hx hb dX0_wholeLength_4 (by decide) ?_
  refine bn_ne (tgt := 13) hx hb dX0_wholeLength_5 (by decide) (by omega) (by omega) (fun c5 => ?_) (fun c5 => ?_)
  · refine lv_sipush (v := nI 128) hx hb dX0_wholeLength_13 (by decide) ?_
    exact rt_i hx hb hr (by first | rw [az_wl_n c5] | (rw [c5]; rfl)) dX0_wholeLength_16 hlocks
  · refine lv_bipush (v := nI 32) hx hb dX0_wholeLength_8 (by decide) ?_
    refine lv_goto (tgt := 16) hx hb dX0_wholeLength_10 (by decide) ?_
    exact rt_i hx hb hr (by first | rw [az_wl_n c5] | (rw [c5]; rfl)) dX0_wholeLength_16 hlocks
set_option maxRecDepth 100000 in
set_option maxHeartbeats 4000000 in
/-- keptOfAll() -/
theorem ct_keptOfAll (l : Launch) (dC : Nat → ClassId) (dI : Nat → Nat → Nat) (a fm ln : Nat) (e3 e4 : Int64) (hfm : fm ≤ 6) : Met l yX0_keptOfAll wsX0_keptOfAll ({ frames := 1, cells := 0, slots := 0, locals := 20 }) (rd_P (dC, dI) azCl [(a, .inr (0, [.int (nI fm), .int (nI ln), .long e3, .long e4]))] [] [.ref a]) (vp_Si (fun r => r = nI (128 - az_wl fm + ln))) 0 0 (fun _ => False) := by
  refine Met.ofW (cc := cX0_keptOfAll) (maxL := 1) (ret := (some .int)) (by decide) rfl ?_
  intro p e s m args below meth c s₁ Bd hml hv
  obtain ⟨rfl, hP, hK⟩ := hv
  have hx := Bd.exec
  have hb := Bd.bytes
  have hr := Bd.returns
  have hts := atoms_spec (ws := wsX0_keptOfAll) Bd.pre
  have hown : s.vm.findClass RX0 = some m.cls := findClass_of_methodNamed Bd.named
  have hlocks := Bd.notSynchronized
  have hiX0 : ∀ w ∈ wsX00, w ∈ wsX0_keptOfAll := by decide +kernel
  have hf15 := hts (.fieldLink RX0 15 "AddressTexts$Address" "prefixLength" "I") (by decide +kernel)
  have hl := lv_entry ([.ref a]) (n := 1) (Nat.le_of_ble_eq_true rfl)
  rw [lg_entry_eq]
  generalize (lg_sl ([.ref a]) ++ List.replicate (1 - (lg_sl ([.ref a])).length) Slot.unset).toArray = ls at hl ⊢
  have hl : lv_has ls 1 [(0, .ref a)] := hl
  have hwl := az_wl_le fm
  refine lv_sipush (v := nI 128) hx hb dX0_keptOfAll_0 (by decide) ?_
  refine lv_aload_n hx hb dX0_keptOfAll_3 rfl (lv_at hl 0 rfl) ?_
  refine rc_Vi (As := []) (rest := [.int (nI 128)]) ⟨hx, hb, hml, hown, hts⟩ (ct_wholeLength l dC dI a fm (nI ln) e3 e4 hfm) (cwV 0 hts gX0_keptOfAll_X0_wholeLength rfl rfl rfl (by decide +kernel) ⟨Nat.le_of_ble_eq_true rfl, Nat.le_of_ble_eq_true rfl⟩) (hP.sub [0] rfl) (hK.sub [] rfl) 0 rfl rfl rfl hl.1 rfl (Nat.le_of_ble_eq_true rfl) dX0_keptOfAll_4 ⟨(Nat.zero_le _), (Nat.zero_le _)⟩ ?_
  refine lv_isub hx hb dX0_keptOfAll_7 ?_
  refine tp_i (nI (128 - (az_wl fm))) (pk_sub (by omega)) ?_
  refine lv_aload_n hx hb dX0_keptOfAll_8 rfl (lv_at hl 0 rfl) ?_
  refine va_get (D := (dC, dI)) (ci := 0) (v := .int (nI ln)) (C := RX0) (T := TX0) (N := 4) hx hb hts hiX0 hown hK hP 0 rfl rfl 1 (by decide) hf15 (fun _ h9 => h9) rfl dX0_keptOfAll_9 ?_
  refine lv_iadd hx hb dX0_keptOfAll_12 ?_
  refine tp_i (nI ((128 - (az_wl fm)) + ln)) (nI_add _ _) ?_
  exact rt_i hx hb hr (rfl) dX0_keptOfAll_13 hlocks
set_option maxRecDepth 100000 in
set_option maxHeartbeats 4000000 in
/-- highestBits(x) -/
theorem ct_highestBits (l : Launch) (x : Int32) : Met l yX0_highestBits wsX0_highestBits ({ frames := 0, cells := 0, slots := 0, locals := 0 }) (va_Pc [.int x] (fun _ => True)) (vp_Sl (fun r => r = az_hb x)) 0 0 (fun _ => False) := by
  refine Met.ofW (cc := cX0_highestBits) (maxL := 1) (ret := (some .long)) (by decide) rfl ?_
  intro p e s m args below meth c s₁ Bd hml hv
  obtain ⟨rfl, -⟩ := hv
  have hx := Bd.exec
  have hb := Bd.bytes
  have hr := Bd.returns
  have hts := atoms_spec (ws := wsX0_highestBits) Bd.pre
  have hown : s.vm.findClass RX0 = some m.cls := findClass_of_methodNamed Bd.named
  have hlocks := Bd.notSynchronized
  have hl := lv_entry ([.int x]) (n := 1) (Nat.le_of_ble_eq_true rfl)
  rw [lg_entry_eq]
  generalize (lg_sl ([.int x]) ++ List.replicate (1 - (lg_sl ([.int x])).length) Slot.unset).toArray = ls at hl ⊢
  have hl : lv_has ls 1 [(0, .int x)] := hl
  refine lv_iload_n hx hb dX0_highestBits_0 rfl (lv_at hl 0 rfl) ?_
  refine lv_if_gt (tgt := 6) hx hb dX0_highestBits_1 (by decide) (fun c1 => ?_) (fun c1 => ?_)
  · refine lv_iload_n hx hb dX0_highestBits_6 rfl (lv_at hl 0 rfl) ?_
    refine lv_bipush (v := nI 64) hx hb dX0_highestBits_7 (by decide) ?_
    refine lv_icmp_lt (tgt := 18) hx hb dX0_highestBits_9 (by decide) (fun c9 => ?_) (fun c9 => ?_)
    · refine lv_ldc2 (v := -1) hx hb hown (hts (.constantLong RX0 36 (-1)) (by decide +kernel)) dX0_highestBits_18 ?_
      refine lv_bipush (v := nI 64) hx hb dX0_highestBits_21 (by decide) ?_
      refine lv_iload_n hx hb dX0_highestBits_23 rfl (lv_at hl 0 rfl) ?_
      refine lv_isub hx hb dX0_highestBits_24 ?_
      refine lv_lshl (v := (-1) <<< ((nI 64 - x).toInt64 &&& 63)) hx hb dX0_highestBits_25 (rfl) ?_
      exact rt_l hx hb hr (by unfold az_hb; first | rw [if_pos c1, if_pos c9] | rw [if_pos c1, if_neg c9]) dX0_highestBits_26 hlocks
    · refine lv_ldc2 (v := -1) hx hb hown (hts (.constantLong RX0 36 (-1)) (by decide +kernel)) dX0_highestBits_12 ?_
      refine lv_goto (tgt := 26) hx hb dX0_highestBits_15 (by decide) ?_
      exact rt_l hx hb hr (by unfold az_hb; first | rw [if_pos c1, if_pos c9] | rw [if_pos c1, if_neg c9]) dX0_highestBits_26 hlocks
  · refine lv_lconst (v := lN 0) hx hb dX0_highestBits_4 (by decide) ?_
    exact rt_l hx hb hr (by unfold az_hb; rw [if_neg c1]) dX0_highestBits_5 hlocks
set_option maxRecDepth 100000 in
set_option maxHeartbeats 4000000 in
/-- upperMask() -/
theorem ct_upperMask (l : Launch) (dC : Nat → ClassId) (dI : Nat → Nat → Nat) (a fm ln : Nat) (e3 e4 : Int64) (hfm : fm ≤ 6) : Met l yX0_upperMask wsX0_upperMask ({ frames := 2, cells := 0, slots := 0, locals := 40 }) (rd_P (dC, dI) azCl [(a, .inr (0, [.int (nI fm), .int (nI ln), .long e3, .long e4]))] [] [.ref a]) (vp_Sl (fun r => r = az_hb (nI (128 - az_wl fm + ln)))) 0 0 (fun _ => False) := by
  refine Met.ofW (cc := cX0_upperMask) (maxL := 1) (ret := (some .long)) (by decide) rfl ?_
  intro p e s m args below meth c s₁ Bd hml hv
  obtain ⟨rfl, hP, hK⟩ := hv
  have hx := Bd.exec
  have hb := Bd.bytes
  have hr := Bd.returns
  have hts := atoms_spec (ws := wsX0_upperMask) Bd.pre
  have hown : s.vm.findClass RX0 = some m.cls := findClass_of_methodNamed Bd.named
  have hlocks := Bd.notSynchronized
  have hl := lv_entry ([.ref a]) (n := 1) (Nat.le_of_ble_eq_true rfl)
  rw [lg_entry_eq]
  generalize (lg_sl ([.ref a]) ++ List.replicate (1 - (lg_sl ([.ref a])).length) Slot.unset).toArray = ls at hl ⊢
  have hl : lv_has ls 1 [(0, .ref a)] := hl
  refine lv_aload_n hx hb dX0_upperMask_0 rfl (lv_at hl 0 rfl) ?_
  refine rc_Vi (As := []) (rest := []) ⟨hx, hb, hml, hown, hts⟩ (ct_keptOfAll l dC dI a fm ln e3 e4 hfm) (cwV 0 hts gX0_upperMask_X0_keptOfAll rfl rfl rfl (by decide +kernel) ⟨Nat.le_of_ble_eq_true rfl, Nat.le_of_ble_eq_true rfl⟩) (hP.sub [0] rfl) (hK.sub [] rfl) 0 rfl rfl rfl hl.1 rfl (Nat.le_of_ble_eq_true rfl) dX0_upperMask_1 ⟨(Nat.zero_le _), (Nat.zero_le _)⟩ ?_
  refine rc_Sl (As := [.int (nI (128 - az_wl fm + ln))]) (rest := []) ⟨hx, hb, hml, hown, hts⟩ (ct_highestBits l (nI (128 - az_wl fm + ln))) (cwS 1 hts gX0_upperMask_X0_highestBits rfl rfl rfl (by decide +kernel) ⟨Nat.le_of_ble_eq_true rfl, Nat.le_of_ble_eq_true rfl⟩) rfl hl.1 rfl (Nat.le_of_ble_eq_true rfl) dX0_upperMask_4 ⟨(Nat.zero_le _), (Nat.zero_le _)⟩ ?_
  exact rt_l hx hb hr (rfl) dX0_upperMask_7 hlocks
set_option maxRecDepth 100000 in
set_option maxHeartbeats 4000000 in
/-- lowerMask() -/
theorem ct_lowerMask (l : Launch) (dC : Nat → ClassId) (dI : Nat → Nat → Nat) (a fm ln : Nat) (e3 e4 : Int64) (hfm : fm ≤ 6) : Met l yX0_lowerMask wsX0_lowerMask ({ frames := 2, cells := 0, slots := 0, locals := 40 }) (rd_P (dC, dI) azCl [(a, .inr (0, [.int (nI fm), .int (nI ln), .long e3, .long e4]))] [] [.ref a]) (vp_Sl (fun r => r = az_hb (nI (128 - az_wl fm + ln) - nI 64))) 0 0 (fun _ => False) := by
  refine Met.ofW (cc := cX0_lowerMask) (maxL := 1) (ret := (some .long)) (by decide) rfl ?_
  intro p e s m args below meth c s₁ Bd hml hv
  obtain ⟨rfl, hP, hK⟩ := hv
  have hx := Bd.exec
  have hb := Bd.bytes
  have hr := Bd.returns
  have hts := atoms_spec (ws := wsX0_lowerMask) Bd.pre
  have hown : s.vm.findClass RX0 = some m.cls := findClass_of_methodNamed Bd.named
  have hlocks := Bd.notSynchronized
  have hl := lv_entry ([.ref a]) (n := 1) (Nat.le_of_ble_eq_true rfl)
  rw [lg_entry_eq]
  generalize (lg_sl ([.ref a]) ++ List.replicate (1 - (lg_sl ([.ref a])).length) Slot.unset).toArray = ls at hl ⊢
  have hl : lv_has ls 1 [(0, .ref a)] := hl
  refine lv_aload_n hx hb dX0_lowerMask_0 rfl (lv_at hl 0 rfl) ?_
  refine rc_Vi (As := []) (rest := []) ⟨hx, hb, hml, hown, hts⟩ (ct_keptOfAll l dC dI a fm ln e3 e4 hfm) (cwV 0 hts gX0_lowerMask_X0_keptOfAll rfl rfl rfl (by decide +kernel) ⟨Nat.le_of_ble_eq_true rfl, Nat.le_of_ble_eq_true rfl⟩) (hP.sub [0] rfl) (hK.sub [] rfl) 0 rfl rfl rfl hl.1 rfl (Nat.le_of_ble_eq_true rfl) dX0_lowerMask_1 ⟨(Nat.zero_le _), (Nat.zero_le _)⟩ ?_
  refine lv_bipush (v := nI 64) hx hb dX0_lowerMask_4 (by decide) ?_
  refine lv_isub hx hb dX0_lowerMask_6 ?_
  refine rc_Sl (As := [.int ((nI (128 - az_wl fm + ln)) - (nI 64))]) (rest := []) ⟨hx, hb, hml, hown, hts⟩ (ct_highestBits l (nI (128 - az_wl fm + ln) - nI 64)) (cwS 1 hts gX0_lowerMask_X0_highestBits rfl rfl rfl (by decide +kernel) ⟨Nat.le_of_ble_eq_true rfl, Nat.le_of_ble_eq_true rfl⟩) rfl hl.1 rfl (Nat.le_of_ble_eq_true rfl) dX0_lowerMask_7 ⟨(Nat.zero_le _), (Nat.zero_le _)⟩ ?_
  exact rt_l hx hb hr (rfl) dX0_lowerMask_10 hlocks
set_option maxRecDepth 100000 in
set_option maxHeartbeats 4000000 in
/-- shiftOf(k) -/
theorem ct_shiftOf (l : Launch) (k : Nat) (hk : k < 8) : Met l yX0_shiftOf wsX0_shiftOf ({ frames := 0, cells := 0, slots := 0, locals := 0 }) (va_Pc [.int (nI k)] (fun _ => True)) (vp_Si (fun r => r = nI (48 - 16 * (k % 4)))) 0 0 (fun _ => False) := by
  refine Met.ofW (cc := cX0_shiftOf) (maxL := 1) (ret := (some .int)) (by decide) rfl ?_
  intro p e s m args below meth c s₁ Bd hml hv
  obtain ⟨rfl, -⟩ := hv
  have hx := Bd.exec
  have hb := Bd.bytes
  have hr := Bd.returns
  have hts := atoms_spec (ws := wsX0_shiftOf) Bd.pre
  have hown : s.vm.findClass RX0 = some m.cls := findClass_of_methodNamed Bd.named
  have hlocks := Bd.notSynchronized
  have hl := lv_entry ([.int (nI k)]) (n := 1) (Nat.le_of_ble_eq_true rfl)
  rw [lg_entry_eq]
  generalize (lg_sl ([.int (nI k)]) ++ List.replicate (1 - (lg_sl ([.int (nI k)])).length) Slot.unset).toArray = ls at hl ⊢
  have hl : lv_has ls 1 [(0, .int (nI k))] := hl
  refine lv_bipush (v := nI 48) hx hb dX0_shiftOf_0 (by decide) ?_
  refine lv_bipush (v := nI 16) hx hb dX0_shiftOf_2 (by decide) ?_
  refine lv_iload_n hx hb dX0_shiftOf_4 rfl (lv_at hl 0 rfl) ?_
  refine lv_iconst (v := nI 3) hx hb dX0_shiftOf_5 (by decide) ?_
  refine lv_iand hx hb dX0_shiftOf_6 ?_
  refine tp_i (nI (k % 4)) (pk_andN (by omega) 2 (by decide)) ?_
  refine lv_imul hx hb dX0_shiftOf_7 ?_
  refine tp_i (nI (16 * (k % 4))) (pk_mul _ _) ?_
  refine lv_isub hx hb dX0_shiftOf_8 ?_
  refine tp_i (nI (48 - (16 * (k % 4)))) (pk_sub (by omega)) ?_
  exact rt_i hx hb hr (rfl) dX0_shiftOf_9 hlocks
set_option maxRecDepth 100000 in
set_option maxHeartbeats 4000000 in
/-- part(k) -/
theorem ct_part (l : Launch) (dC : Nat → ClassId) (dI : Nat → Nat → Nat) (a fm ln V k : Nat) (hV : V < 340282366920938463463374607431768211456) (hk : k < 8) : Met l yX0_part wsX0_part ({ frames := 1, cells := 0, slots := 0, locals := 20 }) (rd_P (dC, dI) azCl [(a, .inr (0, [.int (nI fm), .int (nI ln), .long (lN (V / 18446744073709551616)), .long (lN (V % 18446744073709551616))]))] [] [.ref a, .int (nI k)]) (vp_Si (fun r => r = nI (az_pt V k))) 0 0 (fun _ => False) := by
  refine Met.ofW (cc := cX0_part) (maxL := 4) (ret := (some .int)) (by decide) rfl ?_
  intro p e s m args below meth c s₁ Bd hml hv
  obtain ⟨rfl, hP, hK⟩ := hv
  have hx := Bd.exec
  have hb := Bd.bytes
  have hr := Bd.returns
  have hts := atoms_spec (ws := wsX0_part) Bd.pre
  have hown : s.vm.findClass RX0 = some m.cls := findClass_of_methodNamed Bd.named
  have hlocks := Bd.notSynchronized
  have hiX0 : ∀ w ∈ wsX00, w ∈ wsX0_part := by decide +kernel
  have hf22 := hts (.fieldLink RX0 22 "AddressTexts$Address" "lower" "J") (by decide +kernel)
  have hf18 := hts (.fieldLink RX0 18 "AddressTexts$Address" "upper" "J") (by decide +kernel)
  have hl := lv_entry ([.ref a, .int (nI k)]) (n := 4) (Nat.le_of_ble_eq_true rfl)
  rw [lg_entry_eq]
  generalize (lg_sl ([.ref a, .int (nI k)]) ++ List.replicate (4 - (lg_sl ([.ref a, .int (nI k)])).length) Slot.unset).toArray = ls at hl ⊢
  have hl : lv_has ls 4 [(0, .ref a), (1, .int (nI k))] := hl
  refine lv_iload_n hx hb dX0_part_0 rfl (lv_at hl 1 rfl) ?_
  refine lv_iconst (v := nI 4) hx hb dX0_part_1 (by decide) ?_
  refine bn_ge (tgt := 12) hx hb dX0_part_2 (by decide) (by omega) (by omega) (fun c2 => ?_) (fun c2 => ?_)
  · refine lv_aload_n hx hb dX0_part_12 rfl (lv_at hl 0 rfl) ?_
    refine va_get (D := (dC, dI)) (ci := 0) (v := .long (lN (V % 18446744073709551616))) (C := RX0) (T := TX0) (N := 4) hx hb hts hiX0 hown hK hP 0 rfl rfl 3 (by decide) hf22 (fun _ h9 => h9) rfl dX0_part_13 ?_
    refine lv_lstore_n (lv' := [(2, .long (lN (V % 18446744073709551616))), (0, .ref a), (1, .int (nI k))]) hx hb dX0_part_16 rfl hl (by decide) rfl (fun ls hl => ?_)
    refine lv_lload_n hx hb dX0_part_17 rfl (lv_at hl 0 rfl) ?_
    refine lv_iload_n hx hb dX0_part_18 rfl (lv_at hl 2 rfl) ?_
    refine rc_Si (As := [.int (nI k)]) (rest := [.long (lN (V % 18446744073709551616))]) ⟨hx, hb, hml, hown, hts⟩ (ct_shiftOf l k hk) (cwS 1 hts gX0_part_X0_shiftOf rfl rfl rfl (by decide +kernel) ⟨Nat.le_of_ble_eq_true rfl, Nat.le_of_ble_eq_true rfl⟩) rfl hl.1 rfl (Nat.le_of_ble_eq_true rfl) dX0_part_19 ⟨(Nat.zero_le _), (Nat.zero_le _)⟩ ?_
    refine lv_lushr (v := lN ((V % 18446744073709551616) / 2 ^ (48 - 16 * (k % 4)))) hx hb dX0_part_22 (wb_shr (by omega) (by omega)) ?_
    refine lv_l2i (v := nI ((V % 18446744073709551616) / 2 ^ (48 - 16 * (k % 4)))) hx hb dX0_part_23 (lN_i _) ?_
    refine lv_ldc (v := nI 65535) hx hb hown (hts (.constant RX0 42 (nI 65535)) (by decide +kernel)) dX0_part_24 ?_
    refine lv_iand hx hb dX0_part_26 ?_
    refine tp_i (nI (az_pt V k)) (by first | exact (nx_mod _).trans (congrArg nI (az_pt_u c2)) | exact (nx_mod _).trans (congrArg nI (az_pt_l c2 hk))) ?_
    exact rt_i hx hb hr (rfl) dX0_part_27 hlocks
  · refine lv_aload_n hx hb dX0_part_5 rfl (lv_at hl 0 rfl) ?_
    refine va_get (D := (dC, dI)) (ci := 0) (v := .long (lN (V / 18446744073709551616))) (C := RX0) (T := TX0) (N := 4) hx hb hts hiX0 hown hK hP 0 rfl rfl 2 (by decide) hf18 (fun _ h9 => h9) rfl dX0_part_6 ?_
    refine lv_goto (tgt := 16) hx hb dX0_part_9 (by decide) ?_
    refine lv_lstore_n (lv' := [(2, .long (lN (V / 18446744073709551616))), (0, .ref a), (1, .int (nI k))]) hx hb dX0_part_16 rfl hl (by decide) rfl (fun ls hl => ?_)
    refine lv_lload_n hx hb dX0_part_17 rfl (lv_at hl 0 rfl) ?_
    refine lv_iload_n hx hb dX0_part_18 rfl (lv_at hl 2 rfl) ?_
    refine rc_Si (As := [.int (nI k)]) (rest := [.long (lN (V / 18446744073709551616))]) ⟨hx, hb, hml, hown, hts⟩ (ct_shiftOf l k hk) (cwS 1 hts gX0_part_X0_shiftOf rfl rfl rfl (by decide +kernel) ⟨Nat.le_of_ble_eq_true rfl, Nat.le_of_ble_eq_true rfl⟩) rfl hl.1 rfl (Nat.le_of_ble_eq_true rfl) dX0_part_19 ⟨(Nat.zero_le _), (Nat.zero_le _)⟩ ?_
    refine lv_lushr (v := lN ((V / 18446744073709551616) / 2 ^ (48 - 16 * (k % 4)))) hx hb dX0_part_22 (wb_shr (by omega) (by omega)) ?_
    refine lv_l2i (v := nI ((V / 18446744073709551616) / 2 ^ (48 - 16 * (k % 4)))) hx hb dX0_part_23 (lN_i _) ?_
    refine lv_ldc (v := nI 65535) hx hb hown (hts (.constant RX0 42 (nI 65535)) (by decide +kernel)) dX0_part_24 ?_
    refine lv_iand hx hb dX0_part_26 ?_
    refine tp_i (nI (az_pt V k)) (by first | exact (nx_mod _).trans (congrArg nI (az_pt_u c2)) | exact (nx_mod _).trans (congrArg nI (az_pt_l c2 hk))) ?_
    exact rt_i hx hb hr (rfl) dX0_part_27 hlocks
set_option maxRecDepth 100000 in
set_option maxHeartbeats 4000000 in
/-- zerosFrom(first) -/
theorem ct_zerosFrom (l : Launch) (dC : Nat → ClassId) (dI : Nat → Nat → Nat) (a fm ln V st : Nat) (hV : V < 340282366920938463463374607431768211456) (hst : st ≤ 8) : Met l yX0_zerosFrom wsX0_zerosFrom ({ frames := 2, cells := 0, slots := 0, locals := 43 }) (rd_P (dC, dI) azCl [(a, .inr (0, [.int (nI fm), .int (nI ln), .long (lN (V / 18446744073709551616)), .long (lN (V % 18446744073709551616))]))] [] [.ref a, .int (nI st)]) (vp_Si (fun r => r = nI (az_zr V st))) 0 0 (fun _ => False) := by
  refine Met.ofW (cc := cX0_zerosFrom) (maxL := 3) (ret := (some .int)) (by decide) rfl ?_
  intro p e s m args below meth c s₁ Bd hml hv
  obtain ⟨rfl, hP, hK⟩ := hv
  have hx := Bd.exec
  have hb := Bd.bytes
  have hr := Bd.returns
  have hts := atoms_spec (ws := wsX0_zerosFrom) Bd.pre
  have hown : s.vm.findClass RX0 = some m.cls := findClass_of_methodNamed Bd.named
  have hlocks := Bd.notSynchronized
  have hl := lv_entry ([.ref a, .int (nI st)]) (n := 3) (Nat.le_of_ble_eq_true rfl)
  rw [lg_entry_eq]
  generalize (lg_sl ([.ref a, .int (nI st)]) ++ List.replicate (3 - (lg_sl ([.ref a, .int (nI st)])).length) Slot.unset).toArray = ls at hl ⊢
  have hl : lv_has ls 3 [(0, .ref a), (1, .int (nI st))] := hl
  refine lv_iload_n hx hb dX0_zerosFrom_0 rfl (lv_at hl 1 rfl) ?_
  refine lv_istore_n (lv' := [(2, .int (nI st)), (0, .ref a), (1, .int (nI st))]) hx hb dX0_zerosFrom_1 rfl hl (by decide) rfl (fun ls hl => ?_)
  have lp2 : ∀ (N : Nat) (k : Nat), (st ≤ k) → (k ≤ 8) → (k - st + az_zr V k = az_zr V st) → (8 - k) < N → ∀ (ls : Array Slot), lv_has ls 3 [(0, .ref a), (1, .int (nI st)), (2, .int (nI k))] → W p l e (headSpec wsX0_zerosFrom ({ frames := 2, cells := 0, slots := 0, locals := 43 })).room s m ([.ref a, .int (nI st)] : List Value).toArray below meth c s.heap [] 0 0 (MQ below (vp_Si (fun r => r = nI (az_zr V st))) ([.ref a, .int (nI st)] : List Value).toArray s 0 0 (fun _ => False)) (F0 m 2 ls []) := by
    intro N
    induction N with
    | zero => intro k hk hk2 hz hN; exact absurd hN (Nat.not_lt_zero _)
    | succ N ih =>
      intro k hk hk2 hz hN ls hl
      refine lv_iload_n hx hb dX0_zerosFrom_2 rfl (lv_at hl 2 rfl) ?_
      refine lv_bipush (v := nI 8) hx hb dX0_zerosFrom_3 (by decide) ?_
      refine bn_ge (tgt := 22) hx hb dX0_zerosFrom_5 (by decide) (by omega) (by omega) (fun c5 => ?_) (fun c5 => ?_)
      · refine lv_iload_n hx hb dX0_zerosFrom_22 rfl (lv_at hl 2 rfl) ?_
        refine lv_iload_n hx hb dX0_zerosFrom_23 rfl (lv_at hl 1 rfl) ?_
        refine lv_isub hx hb dX0_zerosFrom_24 ?_
        refine tp_i (nI (k - st)) (pk_sub (by omega)) ?_
        exact rt_i hx hb hr (congrArg nI (by have h0 : az_zr V k = 0 := (by first | exact az_zr_end c5 | exact az_zr_miss c5 c13); omega)) dX0_zerosFrom_25 hlocks
      · have hpt := az_pt_lt V k
        refine lv_aload_n hx hb dX0_zerosFrom_8 rfl (lv_at hl 0 rfl) ?_
        refine lv_iload_n hx hb dX0_zerosFrom_9 rfl (lv_at hl 2 rfl) ?_
        refine rc_Vi (As := [.int (nI k)]) (rest := []) ⟨hx, hb, hml, hown, hts⟩ (ct_part l dC dI a fm ln V k hV c5) (cwV 1 hts gX0_zerosFrom_X0_part rfl rfl rfl (by decide +kernel) ⟨Nat.le_of_ble_eq_true rfl, Nat.le_of_ble_eq_true rfl⟩) (hP.sub [0] rfl) (hK.sub [] rfl) 0 rfl rfl rfl hl.1 rfl (Nat.le_of_ble_eq_true rfl) dX0_zerosFrom_10 ⟨(Nat.zero_le _), (Nat.zero_le _)⟩ ?_
        refine bz_ne (tgt := 22) hx hb dX0_zerosFrom_13 (by decide) (by omega) (fun c13 => ?_) (fun c13 => ?_)
        · refine lv_iload_n hx hb dX0_zerosFrom_22 rfl (lv_at hl 2 rfl) ?_
          refine lv_iload_n hx hb dX0_zerosFrom_23 rfl (lv_at hl 1 rfl) ?_
          refine lv_isub hx hb dX0_zerosFrom_24 ?_
          refine tp_i (nI (k - st)) (pk_sub (by omega)) ?_
          exact rt_i hx hb hr (congrArg nI (by have h0 : az_zr V k = 0 := (by first | exact az_zr_end c5 | exact az_zr_miss c5 c13); omega)) dX0_zerosFrom_25 hlocks
        · refine lv_iinc (v := nI (k + 1)) (lv' := [(2, .int (nI (k + 1))), (0, .ref a), (1, .int (nI st))]) hx hb dX0_zerosFrom_16 hl (k := 2) rfl (nI_add _ 1) (by decide) rfl (fun ls hl => ?_)
          refine lv_goto (tgt := 2) hx hb dX0_zerosFrom_19 (by decide) ?_
          exact ih (k + 1) (by omega) (by omega) (by rw [← hz, az_zr_hit c5 c13]; omega) (by omega) ls (lv_sub hl [1, 2, 0] rfl)
  exact lp2 _ st (Nat.le_refl _) (hst) (by rw [Nat.sub_self, Nat.zero_add]) (Nat.lt_succ_self _) ls (lv_sub hl [1, 2, 0] rfl)
set_option maxRecDepth 100000 in
set_option maxHeartbeats 4000000 in
/-- longestRowOfZeros() -/
theorem ct_longestRow (l : Launch) (dC : Nat → ClassId) (dI : Nat → Nat → Nat) (a fm ln V : Nat) (hV : V < 340282366920938463463374607431768211456) : Met l yX0_longestRowOfZeros wsX0_longestRowOfZeros ({ frames := 3, cells := 0, slots := 0, locals := 65 }) (rd_P (dC, dI) azCl [(a, .inr (0, [.int (nI fm), .int (nI ln), .long (lN (V / 18446744073709551616)), .long (lN (V % 18446744073709551616))]))] [] [.ref a]) (vp_Si (fun r => r = nI (az_lr V 8).1)) 0 0 (fun _ => False) := by
  refine Met.ofW (cc := cX0_longestRowOfZeros) (maxL := 5) (ret := (some .int)) (by decide) rfl ?_
  intro p e s m args below meth c s₁ Bd hml hv
  obtain ⟨rfl, hP, hK⟩ := hv
  have hx := Bd.exec
  have hb := Bd.bytes
  have hr := Bd.returns
  have hts := atoms_spec (ws := wsX0_longestRowOfZeros) Bd.pre
  have hown : s.vm.findClass RX0 = some m.cls := findClass_of_methodNamed Bd.named
  have hlocks := Bd.notSynchronized
  have hl := lv_entry ([.ref a]) (n := 5) (Nat.le_of_ble_eq_true rfl)
  rw [lg_entry_eq]
  generalize (lg_sl ([.ref a]) ++ List.replicate (5 - (lg_sl ([.ref a])).length) Slot.unset).toArray = ls at hl ⊢
  have hl : lv_has ls 5 [(0, .ref a)] := hl
  refine lv_bipush (v := nI 8) hx hb dX0_longestRowOfZeros_0 (by decide) ?_
  refine lv_istore_n (lv' := [(1, .int (nI 8)), (0, .ref a)]) hx hb dX0_longestRowOfZeros_2 rfl hl (by decide) rfl (fun ls hl => ?_)
  refine lv_iconst (v := nI 1) hx hb dX0_longestRowOfZeros_3 (by decide) ?_
  refine lv_istore_n (lv' := [(2, .int (nI 1)), (1, .int (nI 8)), (0, .ref a)]) hx hb dX0_longestRowOfZeros_4 rfl hl (by decide) rfl (fun ls hl => ?_)
  refine lv_iconst (v := nI 0) hx hb dX0_longestRowOfZeros_5 (by decide) ?_
  refine lv_istore_n (lv' := [(3, .int (nI 0)), (2, .int (nI 1)), (1, .int (nI 8)), (0, .ref a)]) hx hb dX0_longestRowOfZeros_6 rfl hl (by decide) rfl (fun ls hl => ?_)
  have lp7 : ∀ (N : Nat) (k : Nat) (st : Nat) (lg : Nat), (k ≤ 8) → (az_lr V k = (st, lg)) → (st ≤ 8) → (lg ≤ 8) → (8 - k) < N → ∀ (ls : Array Slot), lv_has ls 5 [(0, .ref a), (1, .int (nI st)), (2, .int (nI lg)), (3, .int (nI k))] → W p l e (headSpec wsX0_longestRowOfZeros ({ frames := 3, cells := 0, slots := 0, locals := 65 })).room s m ([.ref a] : List Value).toArray below meth c s.heap [] 0 0 (MQ below (vp_Si (fun r => r = nI (az_lr V 8).1)) ([.ref a] : List Value).toArray s 0 0 (fun _ => False)) (F0 m 7 ls []) := by
    intro N
    induction N with
    | zero => intro k st lg hk hs hs2 hl2 hN; exact absurd hN (Nat.not_lt_zero _)
    | succ N ih =>
      intro k st lg hk hs hs2 hl2 hN ls hl
      refine lv_iload_n hx hb dX0_longestRowOfZeros_7 rfl (lv_at hl 3 rfl) ?_
      refine lv_bipush (v := nI 8) hx hb dX0_longestRowOfZeros_8 (by decide) ?_
      refine bn_ge (tgt := 37) hx hb dX0_longestRowOfZeros_10 (by decide) (by omega) (by omega) (fun c10 => ?_) (fun c10 => ?_)
      · refine lv_iload_n hx hb dX0_longestRowOfZeros_37 rfl (lv_at hl 1 rfl) ?_
        exact rt_i hx hb hr (by rw [show 8 = k by omega, hs]) dX0_longestRowOfZeros_38 hlocks
      · have hzl := az_zr_le V k
        refine lv_aload_n hx hb dX0_longestRowOfZeros_13 rfl (lv_at hl 0 rfl) ?_
        refine lv_iload_n hx hb dX0_longestRowOfZeros_14 rfl (lv_at hl 3 rfl) ?_
        refine rc_Vi (As := [.int (nI k)]) (rest := []) ⟨hx, hb, hml, hown, hts⟩ (ct_zerosFrom l dC dI a fm ln V k hV hk) (cwV 1 hts gX0_longestRowOfZeros_X0_zerosFrom rfl rfl rfl (by decide +kernel) ⟨Nat.le_of_ble_eq_true rfl, Nat.le_of_ble_eq_true rfl⟩) (hP.sub [0] rfl) (hK.sub [] rfl) 0 rfl rfl rfl hl.1 rfl (Nat.le_of_ble_eq_true rfl) dX0_longestRowOfZeros_15 ⟨(Nat.zero_le _), (Nat.zero_le _)⟩ ?_
        refine lv_istore (lv' := [(4, .int (nI (az_zr V k))), (0, .ref a), (1, .int (nI st)), (2, .int (nI lg)), (3, .int (nI k))]) hx hb dX0_longestRowOfZeros_18 hl (by decide) rfl (fun ls hl => ?_)
        refine lv_iload hx hb dX0_longestRowOfZeros_20 (lv_at hl 0 rfl) ?_
        refine lv_iload_n hx hb dX0_longestRowOfZeros_22 rfl (lv_at hl 3 rfl) ?_
        refine bn_le (tgt := 31) hx hb dX0_longestRowOfZeros_23 (by decide) (by omega) (by omega) (fun c23 => ?_) (fun c23 => ?_)
        · refine lv_iinc (v := nI (k + 1)) (lv' := [(3, .int (nI (k + 1))), (4, .int (nI (az_zr V k))), (0, .ref a), (1, .int (nI st)), (2, .int (nI lg))]) hx hb dX0_longestRowOfZeros_31 hl (k := 4) rfl (nI_add _ 1) (by decide) rfl (fun ls hl => ?_)
          refine lv_goto (tgt := 7) hx hb dX0_longestRowOfZeros_34 (by decide) ?_
          exact ih (k + 1) st lg (by omega) (by first | exact az_lr_t hs c23 | exact az_lr_f hs c23) (by omega) (by omega) (by omega) ls (lv_sub hl [2, 3, 4, 0] rfl)
        · refine lv_iload_n hx hb dX0_longestRowOfZeros_26 rfl (lv_at hl 4 rfl) ?_
          refine lv_istore_n (lv' := [(1, .int (nI k)), (4, .int (nI (az_zr V k))), (0, .ref a), (2, .int (nI lg)), (3, .int (nI k))]) hx hb dX0_longestRowOfZeros_27 rfl hl (by decide) rfl (fun ls hl => ?_)
          refine lv_iload hx hb dX0_longestRowOfZeros_28 (lv_at hl 1 rfl) ?_
          refine lv_istore_n (lv' := [(2, .int (nI (az_zr V k))), (1, .int (nI k)), (4, .int (nI (az_zr V k))), (0, .ref a), (3, .int (nI k))]) hx hb dX0_longestRowOfZeros_30 rfl hl (by decide) rfl (fun ls hl => ?_)
          refine lv_iinc (v := nI (k + 1)) (lv' := [(3, .int (nI (k + 1))), (2, .int (nI (az_zr V k))), (1, .int (nI k)), (4, .int (nI (az_zr V k))), (0, .ref a)]) hx hb dX0_longestRowOfZeros_31 hl (k := 4) rfl (nI_add _ 1) (by decide) rfl (fun ls hl => ?_)
          refine lv_goto (tgt := 7) hx hb dX0_longestRowOfZeros_34 (by decide) ?_
          exact ih (k + 1) k (az_zr V k) (by omega) (by first | exact az_lr_t hs c23 | exact az_lr_f hs c23) (by omega) (by omega) (by omega) ls (lv_sub hl [4, 2, 1, 0] rfl)
  exact lp7 _ 0 8 1 (Nat.zero_le _) (rfl) (by omega) (by omega) (Nat.lt_succ_self _) ls (lv_sub hl [3, 2, 1, 0] rfl)
set_option maxRecDepth 100000 in
set_option maxHeartbeats 4000000 in
/-- setPart(k, v) -/
theorem ct_setPart (l : Launch) (dC : Nat → ClassId) (dI : Nat → Nat → Nat) (sz : Nat) (a fm ln V k v : Nat) (hV : V < 340282366920938463463374607431768211456) (hk : k < 8) (hv : v < 65536) (hz : V % 2 ^ (16 * (8 - k)) = 0) : Met l yX0_setPart wsX0_setPart ({ frames := 1, cells := 0, slots := 0, locals := 20 }) (wr_P (dC, dI) azCl [(a, .inr (0, [.int (nI fm), .int (nI ln), .long (lN (V / 18446744073709551616)), .long (lN (V % 18446744073709551616))]))] [] sz [.ref a, .int (nI k), .int (nI v)]) (va_Qv (fun _ => True) (wr_B (dC, dI) azCl [] (va_A [(a, .inr (0, [.int (nI fm), .int (nI ln), .long (lN (V / 18446744073709551616)), .long (lN (V % 18446744073709551616))]))] sz) (fun _ : Unit => [(a, .inr (0, [.int (nI fm), .int (nI ln), .long (lN ((az_sp V k v) / 18446744073709551616)), .long (lN ((az_sp V k v) % 18446744073709551616))]))])) (va_A [(a, .inr (0, [.int (nI fm), .int (nI ln), .long (lN (V / 18446744073709551616)), .long (lN (V % 18446744073709551616))]))] sz)) 0 0 (va_A [(a, .inr (0, [.int (nI fm), .int (nI ln), .long (lN (V / 18446744073709551616)), .long (lN (V % 18446744073709551616))]))] sz) := by
  refine Met.ofW (cc := cX0_setPart) (maxL := 5) (ret := none) (by decide) rfl ?_
  intro p e s m args below meth c s₁ Bd hml hv
  obtain ⟨rfl, hsz, hP, hK, hD0⟩ := hv
  have hx := Bd.exec
  have hb := Bd.bytes
  have hr := Bd.returns
  have hts := atoms_spec (ws := wsX0_setPart) Bd.pre
  have hown : s.vm.findClass RX0 = some m.cls := findClass_of_methodNamed Bd.named
  have hlocks := Bd.notSynchronized
  subst hsz
  have hD := hD0.self (sz := s.heap.size)
  generalize hAe : va_A [(a, .inr (0, [.int (nI fm), .int (nI ln), .long (lN (V / 18446744073709551616)), .long (lN (V % 18446744073709551616))]))] s.heap.size = A at hD ⊢
  have hA : ∀ q : Nat, s.heap.size ≤ q → A q := fun q h => by rw [← hAe]; exact Or.inr h
  have hS : va_S A s.heap s.heap [] := va_S.rf
  have hP : va_P (dC, dI) azCl [(a, .inr (0, [.int (nI fm), .int (nI ln), .long (lN (V / 18446744073709551616)), .long (lN (V % 18446744073709551616))]))] s.heap := hP
  have hiX0 : ∀ w ∈ wsX00, w ∈ wsX0_setPart := by decide +kernel
  have hf22 := hts (.fieldLink RX0 22 "AddressTexts$Address" "lower" "J") (by decide +kernel)
  have hf18 := hts (.fieldLink RX0 18 "AddressTexts$Address" "upper" "J") (by decide +kernel)
  have hl := lv_entry ([.ref a, .int (nI k), .int (nI v)]) (n := 5) (Nat.le_of_ble_eq_true rfl)
  rw [lg_entry_eq]
  generalize (lg_sl ([.ref a, .int (nI k), .int (nI v)]) ++ List.replicate (5 - (lg_sl ([.ref a, .int (nI k), .int (nI v)])).length) Slot.unset).toArray = ls at hl ⊢
  have hl : lv_has ls 5 [(0, .ref a), (1, .int (nI k)), (2, .int (nI v))] := hl
  refine lv_iload_n hx hb dX0_setPart_0 rfl (lv_at hl 2 rfl) ?_
  refine lv_i2l (v := lN v) hx hb dX0_setPart_1 (nI_l (by omega)) ?_
  refine lv_iload_n hx hb dX0_setPart_2 rfl (lv_at hl 1 rfl) ?_
  refine rc_Si (As := [.int (nI k)]) (rest := [.long (lN v)]) ⟨hx, hb, hml, hown, hts⟩ (ct_shiftOf l k hk) (cwS 1 hts gX0_setPart_X0_shiftOf rfl rfl rfl (by decide +kernel) ⟨Nat.le_of_ble_eq_true rfl, Nat.le_of_ble_eq_true rfl⟩) rfl hl.1 rfl (Nat.le_of_ble_eq_true rfl) dX0_setPart_3 ⟨(Nat.zero_le _), (Nat.zero_le _)⟩ ?_
  refine lv_lshl (v := lN (v * 2 ^ (48 - 16 * (k % 4)))) hx hb dX0_setPart_6 (wb_shl _ (by omega)) ?_
  refine lv_lstore_n (lv' := [(3, .long (lN (v * 2 ^ (48 - 16 * (k % 4))))), (0, .ref a), (1, .int (nI k)), (2, .int (nI v))]) hx hb dX0_setPart_7 rfl hl (by decide) rfl (fun ls hl => ?_)
  refine lv_iload_n hx hb dX0_setPart_8 rfl (lv_at hl 2 rfl) ?_
  refine lv_iconst (v := nI 4) hx hb dX0_setPart_9 (by decide) ?_
  refine bn_ge (tgt := 26) hx hb dX0_setPart_10 (by decide) (by omega) (by omega) (fun c10 => ?_) (fun c10 => ?_)
  · obtain ⟨e1, e2, e3, e4⟩ := az_sp_l hV c10 hk hv hz
    refine lv_aload_n hx hb dX0_setPart_26 rfl (lv_at hl 1 rfl) ?_
    refine lv_dup hx hb dX0_setPart_27 rfl ?_
    refine va_get (D := (dC, dI)) (ci := 0) (v := .long (lN (V % 18446744073709551616))) (C := RX0) (T := TX0) (N := 4) hx hb hts hiX0 hown hK hP 0 rfl rfl 3 (by decide) hf22 (fun _ h9 => h9) rfl dX0_setPart_28 ?_
    refine lv_lload_n hx hb dX0_setPart_31 rfl (lv_at hl 0 rfl) ?_
    refine lv_lor hx hb dX0_setPart_32 ?_
    refine tp_l (lN (az_sp V k v % 18446744073709551616)) (e1) ?_
    refine va_put (D := (dC, dI)) (ci := 0) (v := .long (lN (az_sp V k v % 18446744073709551616))) (ty := .long) (C := RX0) (T := TX0) (N := 4) hx hb hts hiX0 tyX0 tyX0_ok nmX0 hown hK hP hD hS 0 rfl rfl 3 (by decide) hf22 (fun _ h9 => h9) rfl (by decide +kernel) rfl rfl (Nat.le_of_ble_eq_true rfl) dX0_setPart_33 (fun H locs hP hD hS => ?_)
    have hP : va_P (dC, dI) azCl [(a, .inr (0, [.int (nI fm), .int (nI ln), .long (lN (V / 18446744073709551616)), .long (lN (az_sp V k v % 18446744073709551616))]))] H := hP
    have hD : va_D A [(a, .inr (0, [.int (nI fm), .int (nI ln), .long (lN (V / 18446744073709551616)), .long (lN (az_sp V k v % 18446744073709551616))]))] := hD
    have hP : va_P (dC, dI) azCl [(a, .inr (0, [.int (nI fm), .int (nI ln), .long (lN (az_sp V k v / 18446744073709551616)), .long (lN (az_sp V k v % 18446744073709551616))]))] H := by first | (rw [e2]; exact hP)
    have hD : va_D A [(a, .inr (0, [.int (nI fm), .int (nI ln), .long (lN (az_sp V k v / 18446744073709551616)), .long (lN (az_sp V k v % 18446744073709551616))]))] := by first | (rw [e2]; exact hD)
    exact wt_v hx hb hr (()) (trivial) (hP.sub [0] rfl) hK (hD.sub [0] (by decide) rfl) hS dX0_setPart_36 hlocks
  · obtain ⟨e1, e2, e3, e4⟩ := az_sp_u hV c10 hv hz
    refine lv_aload_n hx hb dX0_setPart_13 rfl (lv_at hl 1 rfl) ?_
    refine lv_dup hx hb dX0_setPart_14 rfl ?_
    refine va_get (D := (dC, dI)) (ci := 0) (v := .long (lN (V / 18446744073709551616))) (C := RX0) (T := TX0) (N := 4) hx hb hts hiX0 hown hK hP 0 rfl rfl 2 (by decide) hf18 (fun _ h9 => h9) rfl dX0_setPart_15 ?_
    refine lv_lload_n hx hb dX0_setPart_18 rfl (lv_at hl 0 rfl) ?_
    refine lv_lor hx hb dX0_setPart_19 ?_
    refine tp_l (lN (az_sp V k v / 18446744073709551616)) (e1) ?_
    refine va_put (D := (dC, dI)) (ci := 0) (v := .long (lN (az_sp V k v / 18446744073709551616))) (ty := .long) (C := RX0) (T := TX0) (N := 4) hx hb hts hiX0 tyX0 tyX0_ok nmX0 hown hK hP hD hS 0 rfl rfl 2 (by decide) hf18 (fun _ h9 => h9) rfl (by decide +kernel) rfl rfl (Nat.le_of_ble_eq_true rfl) dX0_setPart_20 (fun H locs hP hD hS => ?_)
    have hP : va_P (dC, dI) azCl [(a, .inr (0, [.int (nI fm), .int (nI ln), .long (lN (az_sp V k v / 18446744073709551616)), .long (lN (V % 18446744073709551616))]))] H := hP
    have hD : va_D A [(a, .inr (0, [.int (nI fm), .int (nI ln), .long (lN (az_sp V k v / 18446744073709551616)), .long (lN (V % 18446744073709551616))]))] := hD
    refine lv_goto (tgt := 36) hx hb dX0_setPart_23 (by decide) ?_
    have hP : va_P (dC, dI) azCl [(a, .inr (0, [.int (nI fm), .int (nI ln), .long (lN (az_sp V k v / 18446744073709551616)), .long (lN (az_sp V k v % 18446744073709551616))]))] H := by first | (rw [e2]; exact hP)
    have hD : va_D A [(a, .inr (0, [.int (nI fm), .int (nI ln), .long (lN (az_sp V k v / 18446744073709551616)), .long (lN (az_sp V k v % 18446744073709551616))]))] := by first | (rw [e2]; exact hD)
    exact wt_v hx hb hr (()) (trivial) (hP.sub [0] rfl) hK (hD.sub [0] (by decide) rfl) hS dX0_setPart_36 hlocks
set_option maxRecDepth 100000 in
set_option maxHeartbeats 4000000 in
/-- clear(family) -/
theorem ct_clear (l : Launch) (dC : Nat → ClassId) (dI : Nat → Nat → Nat) (sz : Nat) (a fm : Nat) (e1 e2 : Int32) (e3 e4 : Int64) (hfm : fm ≤ 6) : Met l yX0_clear wsX0_clear ({ frames := 1, cells := 0, slots := 0, locals := 20 }) (wr_P (dC, dI) azCl [(a, .inr (0, [.int e1, .int e2, .long e3, .long e4]))] [] sz [.ref a, .int (nI fm)]) (va_Qv (fun _ => True) (wr_B (dC, dI) azCl [] (va_A [(a, .inr (0, [.int e1, .int e2, .long e3, .long e4]))] sz) (fun _ : Unit => [(a, .inr (0, [.int (nI fm), .int (nI (az_wl fm)), .long (lN 0), .long (lN 0)]))])) (va_A [(a, .inr (0, [.int e1, .int e2, .long e3, .long e4]))] sz)) 0 0 (va_A [(a, .inr (0, [.int e1, .int e2, .long e3, .long e4]))] sz) := by
  refine Met.ofW (cc := cX0_clear) (maxL := 2) (ret := none) (by decide) rfl ?_
  intro p e s m args below meth c s₁ Bd hml hv
  obtain ⟨rfl, hsz, hP, hK, hD0⟩ := hv
  have hx := Bd.exec
  have hb := Bd.bytes
  have hr := Bd.returns
  have hts := atoms_spec (ws := wsX0_clear) Bd.pre
  have hown : s.vm.findClass RX0 = some m.cls := findClass_of_methodNamed Bd.named
  have hlocks := Bd.notSynchronized
  subst hsz
  have hD := hD0.self (sz := s.heap.size)
  generalize hAe : va_A [(a, .inr (0, [.int e1, .int e2, .long e3, .long e4]))] s.heap.size = A at hD ⊢
  have hA : ∀ q : Nat, s.heap.size ≤ q → A q := fun q h => by rw [← hAe]; exact Or.inr h
  have hS : va_S A s.heap s.heap [] := va_S.rf
  have hP : va_P (dC, dI) azCl [(a, .inr (0, [.int e1, .int e2, .long e3, .long e4]))] s.heap := hP
  have hiX0 : ∀ w ∈ wsX00, w ∈ wsX0_clear := by decide +kernel
  have hf9 := hts (.fieldLink RX0 9 "AddressTexts$Address" "family" "I") (by decide +kernel)
  have hf15 := hts (.fieldLink RX0 15 "AddressTexts$Address" "prefixLength" "I") (by decide +kernel)
  have hf18 := hts (.fieldLink RX0 18 "AddressTexts$Address" "upper" "J") (by decide +kernel)
  have hf22 := hts (.fieldLink RX0 22 "AddressTexts$Address" "lower" "J") (by decide +kernel)
  have hl := lv_entry ([.ref a, .int (nI fm)]) (n := 2) (Nat.le_of_ble_eq_true rfl)
  rw [lg_entry_eq]
  generalize (lg_sl ([.ref a, .int (nI fm)]) ++ List.replicate (2 - (lg_sl ([.ref a, .int (nI fm)])).length) Slot.unset).toArray = ls at hl ⊢
  have hl : lv_has ls 2 [(0, .ref a), (1, .int (nI fm))] := hl
  refine lv_aload_n hx hb dX0_clear_0 rfl (lv_at hl 0 rfl) ?_
  refine lv_iload_n hx hb dX0_clear_1 rfl (lv_at hl 1 rfl) ?_
  refine va_put (D := (dC, dI)) (ci := 0) (v := .int (nI fm)) (ty := .int) (C := RX0) (T := TX0) (N := 4) hx hb hts hiX0 tyX0 tyX0_ok nmX0 hown hK hP hD hS 0 rfl rfl 0 (by decide) hf9 (fun _ h9 => h9) rfl (by decide +kernel) rfl rfl (Nat.le_of_ble_eq_true rfl) dX0_clear_2 (fun H locs hP hD hS => ?_)
  have hP : va_P (dC, dI) azCl [(a, .inr (0, [.int (nI fm), .int e2, .long e3, .long e4]))] H := hP
  have hD : va_D A [(a, .inr (0, [.int (nI fm), .int e2, .long e3, .long e4]))] := hD
  refine lv_aload_n hx hb dX0_clear_5 rfl (lv_at hl 0 rfl) ?_
  refine lv_aload_n hx hb dX0_clear_6 rfl (lv_at hl 0 rfl) ?_
  refine rc_Vi (As := []) (rest := [.ref a]) ⟨hx, hb, hml, hown, hts⟩ (ct_wholeLength l dC dI a fm e2 e3 e4 hfm) (cwV 0 hts gX0_clear_X0_wholeLength rfl rfl rfl (by decide +kernel) ⟨Nat.le_of_ble_eq_true rfl, Nat.le_of_ble_eq_true rfl⟩) (hP.sub [0] rfl) (hK.sub [] rfl) 0 rfl rfl rfl hl.1 rfl (Nat.le_of_ble_eq_true rfl) dX0_clear_7 ⟨(Nat.zero_le _), (Nat.zero_le _)⟩ ?_
  refine va_put (D := (dC, dI)) (ci := 0) (v := .int (nI (az_wl fm))) (ty := .int) (C := RX0) (T := TX0) (N := 4) hx hb hts hiX0 tyX0 tyX0_ok nmX0 hown hK hP hD hS 0 rfl rfl 1 (by decide) hf15 (fun _ h9 => h9) rfl (by decide +kernel) rfl rfl (Nat.le_of_ble_eq_true rfl) dX0_clear_10 (fun H locs hP hD hS => ?_)
  have hP : va_P (dC, dI) azCl [(a, .inr (0, [.int (nI fm), .int (nI (az_wl fm)), .long e3, .long e4]))] H := hP
  have hD : va_D A [(a, .inr (0, [.int (nI fm), .int (nI (az_wl fm)), .long e3, .long e4]))] := hD
  refine lv_aload_n hx hb dX0_clear_13 rfl (lv_at hl 0 rfl) ?_
  refine lv_lconst (v := lN 0) hx hb dX0_clear_14 (by decide) ?_
  refine va_put (D := (dC, dI)) (ci := 0) (v := .long (lN 0)) (ty := .long) (C := RX0) (T := TX0) (N := 4) hx hb hts hiX0 tyX0 tyX0_ok nmX0 hown hK hP hD hS 0 rfl rfl 2 (by decide) hf18 (fun _ h9 => h9) rfl (by decide +kernel) rfl rfl (Nat.le_of_ble_eq_true rfl) dX0_clear_15 (fun H locs hP hD hS => ?_)
  have hP : va_P (dC, dI) azCl [(a, .inr (0, [.int (nI fm), .int (nI (az_wl fm)), .long (lN 0), .long e4]))] H := hP
  have hD : va_D A [(a, .inr (0, [.int (nI fm), .int (nI (az_wl fm)), .long (lN 0), .long e4]))] := hD
  refine lv_aload_n hx hb dX0_clear_18 rfl (lv_at hl 0 rfl) ?_
  refine lv_lconst (v := lN 0) hx hb dX0_clear_19 (by decide) ?_
  refine va_put (D := (dC, dI)) (ci := 0) (v := .long (lN 0)) (ty := .long) (C := RX0) (T := TX0) (N := 4) hx hb hts hiX0 tyX0 tyX0_ok nmX0 hown hK hP hD hS 0 rfl rfl 3 (by decide) hf22 (fun _ h9 => h9) rfl (by decide +kernel) rfl rfl (Nat.le_of_ble_eq_true rfl) dX0_clear_20 (fun H locs hP hD hS => ?_)
  have hP : va_P (dC, dI) azCl [(a, .inr (0, [.int (nI fm), .int (nI (az_wl fm)), .long (lN 0), .long (lN 0)]))] H := hP
  have hD : va_D A [(a, .inr (0, [.int (nI fm), .int (nI (az_wl fm)), .long (lN 0), .long (lN 0)]))] := hD
  exact wt_v hx hb hr (()) (trivial) (hP.sub [0] rfl) hK (hD.sub [0] (by decide) rfl) hS dX0_clear_23 hlocks
end
section
/-! what is written: O its bytes, w their number; and the tape, as it grows -/
def az_ou (g : Nat → Int32) (O : List Nat) (w : Nat) : Prop := O.length = w ∧ ∀ j, j < w → g j = nI (O.getD j 0) ∧ O.getD j 0 < 128
theorem az_ou_0 (g : Nat → Int32) : az_ou g [] 0 := ⟨rfl, fun j h => absurd h (Nat.not_lt_zero j)⟩
theorem az_nb : ∀ c, c < 128 → vp_nar .byte (nI c) = nI c := by decide +kernel
theorem az_i2b : ∀ c, c < 128 → (nI c).toInt8.toInt32 = nI c := by decide +kernel
theorem az_gd_l {O L : List Nat} {j : Nat} (h : j < O.length) : (O ++ L).getD j 0 = O.getD j 0 := by
  show (O ++ L)[j]?.getD 0 = O[j]?.getD 0
  rw [List.getElem?_append_left h]
theorem az_gd_r {O : List Nat} {c : Nat} : (O ++ [c]).getD O.length 0 = c := by
  show (O ++ [c])[O.length]?.getD 0 = c
  rw [List.getElem?_append_right (Nat.le_refl _), Nat.sub_self]
  rfl
theorem az_ou_push {g : Nat → Int32} {O : List Nat} {w c : Nat} (h : az_ou g O w) (hc : c < 128) : az_ou (upd g w (vp_nar .byte (nI c))) (O ++ [c]) (w + 1) := by
  obtain ⟨h1, h2⟩ := h
  refine ⟨by rw [List.length_append, h1]; rfl, fun j hj => ?_⟩
  by_cases q : j = w
  · subst q
    rw [pk_us, az_nb c hc, ← h1, az_gd_r]
    exact ⟨rfl, hc⟩
  · rw [pk_un q, az_gd_l (by omega)]
    exact h2 j (by omega)
def az_ch (d : Nat) : Nat := if d < 10 then 48 + d else 97 + d - 10
theorem az_ch_a {d : Nat} (h : d < 10) : az_ch d = 48 + d := if_pos h
theorem az_ch_b {d : Nat} (h : 10 ≤ d) : az_ch d = 97 + d - 10 := if_neg (Nat.not_lt.mpr h)
def az_dec (v : Nat) : List Nat := (if 100 ≤ v then [az_ch (v / 100)] else []) ++ ((if 10 ≤ v then [az_ch (v / 10 % 10)] else []) ++ [az_ch (v % 10)])
def az_hex (v : Nat) : List Nat := (if v / 4096 ≠ 0 then [az_ch (v / 4096 % 16)] else []) ++ ((if v / 256 ≠ 0 then [az_ch (v / 256 % 16)] else []) ++ ((if v / 16 ≠ 0 then [az_ch (v / 16 % 16)] else []) ++ [az_ch (v % 16)]))
theorem az_dec_le (v : Nat) : (az_dec v).length ≤ 3 := by unfold az_dec; split <;> split <;> simp
theorem az_hex_le (v : Nat) : (az_hex v).length ≤ 4 := by unfold az_hex; split <;> split <;> split <;> simp
/-- family 4 -/
def az_w4 (V : Nat) : List Nat := az_dec (V / 16777216 % 256) ++ ([46] ++ (az_dec (V / 65536 % 256) ++ ([46] ++ (az_dec (V / 256 % 256) ++ ([46] ++ az_dec (V % 256))))))
/-- family 6: the row that is left out, and what part k writes -/
def az_ws (V rs re k : Nat) : List Nat := (if k = rs then [58, 58] else []) ++ (if k < rs ∨ re ≤ k then ((if 0 < k ∧ k ≠ re then [58] else []) ++ az_hex (az_pt V k)) else [])
def az_wp (V rs re : Nat) : Nat → List Nat
  | 0 => []
  | k + 1 => az_wp V rs re k ++ az_ws V rs re k
theorem az_lr_ok (V : Nat) : ∀ k, k ≤ 8 → (az_lr V k = (8, 1)) ∨ ((az_lr V k).1 < k ∧ az_zr V (az_lr V k).1 = (az_lr V k).2 ∧ 2 ≤ (az_lr V k).2)
  | 0, _ => Or.inl rfl
  | k + 1, h => by
    have ih := az_lr_ok V k (by omega)
    by_cases c : (az_lr V k).2 < az_zr V k
    · right
      rw [az_lr_t (st := (az_lr V k).1) (lg := (az_lr V k).2) rfl c]
      refine ⟨Nat.lt_succ_self k, rfl, ?_⟩
      show 2 ≤ az_zr V k
      rcases ih with q | q
      · rw [q] at c
        have c' : 1 < az_zr V k := c
        omega
      · omega
    · rw [az_lr_f (st := (az_lr V k).1) (lg := (az_lr V k).2) rfl (Nat.not_lt.mp c)]
      rcases ih with q | ⟨q1, q2, q3⟩
      · exact Or.inl q
      · exact Or.inr ⟨Nat.lt_succ_of_lt q1, q2, q3⟩
/-- the row: none (8, 8), or two and more parts -/
theorem az_row (V : Nat) : ((az_lr V 8).1 = 8 ∧ az_zr V (az_lr V 8).1 = 0) ∨ ((az_lr V 8).1 < 8 ∧ 2 ≤ az_zr V (az_lr V 8).1 ∧ (az_lr V 8).1 + az_zr V (az_lr V 8).1 ≤ 8) := by
  rcases az_lr_ok V 8 (by omega) with q | ⟨q1, q2, q3⟩
  · left
    rw [q]
    exact ⟨rfl, az_zr_end (by omega)⟩
  · right
    have := az_zr_le V (az_lr V 8).1
    exact ⟨q1, by omega, by omega⟩
/-! the tape as it grows -/
def az_u (T : Nat → Nat) (n b : Nat) : Nat → Nat := fun j => if j = n then b else T j
theorem az_sb (x : Int32) : vp_nar .byte x.toInt8.toInt32 = sb_b (x.toBitVec.toNat % 256) := by
  rw [pk_vb]
  refine (sc_eq (b := x.toInt8.toInt32) (by rw [Int8.toInt8_toInt32]) (Nat.mod_lt _ (by decide))).mpr ?_
  rw [bp_b]
  exact pk_and x 8 (by decide)
theorem az_tp_push {f : Nat → Int32} {T : Nat → Nat} {n : Nat} (h : az_tp f T n) (x : Int32) : az_tp (upd f n (vp_nar .byte x.toInt8.toInt32)) (az_u T n (x.toBitVec.toNat % 256)) (n + 1) := by
  intro j hj
  by_cases q : j = n
  · subst q
    rw [pk_us, az_sb]
    simp [az_u]
    omega
  · rw [pk_un q]
    simp [az_u, q]
    exact h j (by omega)
/-- the four bytes of a number -/
def az_a4 (T : Nat → Nat) (n : Nat) (a : Int32) : Nat → Nat := az_u (az_u (az_u (az_u T n (a.toBitVec.toNat / 16777216 % 256)) (n + 1) (a.toBitVec.toNat / 65536 % 256)) (n + 2) (a.toBitVec.toNat / 256 % 256)) (n + 3) (a.toBitVec.toNat % 256)
end
section
set_option maxRecDepth 100000 in
set_option maxHeartbeats 4000000 in
/-- writeByte(c) -/
theorem ct_writeByte (l : Launch) (dC : Nat → ClassId) (dI : Nat → Nat → Nat) (sz : Nat) (h0 ht hw a1 a2 a3 n w : Nat) (cW : ClassId) (g : Nat → Int32) (O : List Nat) (hg : az_ou g O w) (ch : Nat) (hc : ch < 128) (hw2 : w < 39) : Met l yX1_writeByte wsX1_writeByte ({ frames := 0, cells := 0, slots := 0, locals := 0 }) (wr_P (dC, dI) azCl [(h0, .inr (1, [.ref ht, .int (nI n), .ref hw, .int (nI w), .ref a1, .ref a2, .ref a3])), (hw, .inl (cW, 39, .inl g))] [(cW, .byte)] sz [.ref h0, .int (nI ch)]) (va_Qv (fun u => az_ou u.1 (O ++ [ch]) u.2) (wr_B (dC, dI) azCl [(cW, .byte)] (va_A [(h0, .inr (1, [.ref ht, .int (nI n), .ref hw, .int (nI w), .ref a1, .ref a2, .ref a3])), (hw, .inl (cW, 39, .inl g))] sz) (fun u : (Nat → Int32) × Nat => [(h0, .inr (1, [.ref ht, .int (nI n), .ref hw, .int (nI u.2), .ref a1, .ref a2, .ref a3])), (hw, .inl (cW, 39, .inl u.1))])) (va_A [(h0, .inr (1, [.ref ht, .int (nI n), .ref hw, .int (nI w), .ref a1, .ref a2, .ref a3])), (hw, .inl (cW, 39, .inl g))] sz)) 0 0 (va_A [(h0, .inr (1, [.ref ht, .int (nI n), .ref hw, .int (nI w), .ref a1, .ref a2, .ref a3])), (hw, .inl (cW, 39, .inl g))] sz) := by
  refine Met.ofW (cc := cX1_writeByte) (maxL := 2) (ret := none) (by decide) rfl ?_
  intro p e s m args below meth c s₁ Bd hml hv
  obtain ⟨rfl, hsz, hP, hK, hD0⟩ := hv
  have hx := Bd.exec
  have hb := Bd.bytes
  have hr := Bd.returns
  have hts := atoms_spec (ws := wsX1_writeByte) Bd.pre
  have hown : s.vm.findClass RX1 = some m.cls := findClass_of_methodNamed Bd.named
  have hlocks := Bd.notSynchronized
  subst hsz
  have hD := hD0.self (sz := s.heap.size)
  generalize hAe : va_A [(h0, .inr (1, [.ref ht, .int (nI n), .ref hw, .int (nI w), .ref a1, .ref a2, .ref a3])), (hw, .inl (cW, 39, .inl g))] s.heap.size = A at hD ⊢
  have hA : ∀ q : Nat, s.heap.size ≤ q → A q := fun q h => by rw [← hAe]; exact Or.inr h
  have hS : va_S A s.heap s.heap [] := va_S.rf
  have hP : va_P (dC, dI) azCl [(h0, .inr (1, [.ref ht, .int (nI n), .ref hw, .int (nI w), .ref a1, .ref a2, .ref a3])), (hw, .inl (cW, 39, .inl g))] s.heap := hP
  have hiX1 : ∀ w ∈ wsX10, w ∈ wsX1_writeByte := by decide +kernel
  have hf20 := hts (.fieldLink RX1 20 "AddressTexts" "writtenCount" "I") (by decide +kernel)
  have hf17 := hts (.fieldLink RX1 17 "AddressTexts" "written" "[B") (by decide +kernel)
  have hl := lv_entry ([.ref h0, .int (nI ch)]) (n := 2) (Nat.le_of_ble_eq_true rfl)
  rw [lg_entry_eq]
  generalize (lg_sl ([.ref h0, .int (nI ch)]) ++ List.replicate (2 - (lg_sl ([.ref h0, .int (nI ch)])).length) Slot.unset).toArray = ls at hl ⊢
  have hl : lv_has ls 2 [(0, .ref h0), (1, .int (nI ch))] := hl
  refine lv_aload_n hx hb dX1_writeByte_0 rfl (lv_at hl 0 rfl) ?_
  refine va_get (D := (dC, dI)) (ci := 1) (v := .int (nI w)) (C := RX1) (T := TX1) (N := 7) hx hb hts hiX1 hown hK hP 0 rfl rfl 3 (by decide) hf20 (fun _ h9 => h9) rfl dX1_writeByte_1 ?_
  refine lv_aload_n hx hb dX1_writeByte_4 rfl (lv_at hl 0 rfl) ?_
  refine va_get (D := (dC, dI)) (ci := 1) (v := .ref hw) (C := RX1) (T := TX1) (N := 7) hx hb hts hiX1 hown hK hP 0 rfl rfl 2 (by decide) hf17 (fun _ h9 => h9) rfl dX1_writeByte_5 ?_
  refine va_alen (v := nI 39) hx hb hK hP 1 0 rfl rfl rfl dX1_writeByte_8 ?_
  refine bn_ge (tgt := 33) hx hb dX1_writeByte_9 (by decide) (by omega) (by omega) (fun c9 => absurd c9 (by omega)) (fun c9 => ?_)
  refine lv_aload_n hx hb dX1_writeByte_12 rfl (lv_at hl 0 rfl) ?_
  refine va_get (D := (dC, dI)) (ci := 1) (v := .ref hw) (C := RX1) (T := TX1) (N := 7) hx hb hts hiX1 hown hK hP 0 rfl rfl 2 (by decide) hf17 (fun _ h9 => h9) rfl dX1_writeByte_13 ?_
  refine lv_aload_n hx hb dX1_writeByte_16 rfl (lv_at hl 0 rfl) ?_
  refine va_get (D := (dC, dI)) (ci := 1) (v := .int (nI w)) (C := RX1) (T := TX1) (N := 7) hx hb hts hiX1 hown hK hP 0 rfl rfl 3 (by decide) hf20 (fun _ h9 => h9) rfl dX1_writeByte_17 ?_
  refine lv_iload_n hx hb dX1_writeByte_20 rfl (lv_at hl 1 rfl) ?_
  refine lv_i2b (v := nI ch) hx hb dX1_writeByte_21 (az_i2b ch hc) ?_
  refine st_b hx hb hK hP hD hS 1 0 rfl rfl (by omega) (by omega) dX1_writeByte_22 (fun H locs hP hD hS => ?_)
  have hP : va_P (dC, dI) azCl [(h0, .inr (1, [.ref ht, .int (nI n), .ref hw, .int (nI w), .ref a1, .ref a2, .ref a3])), (hw, .inl (cW, 39, .inl (upd g w (vp_nar .byte (nI ch)))))] H := hP
  have hD : va_D A [(h0, .inr (1, [.ref ht, .int (nI n), .ref hw, .int (nI w), .ref a1, .ref a2, .ref a3])), (hw, .inl (cW, 39, .inl (upd g w (vp_nar .byte (nI ch)))))] := hD
  refine lv_aload_n hx hb dX1_writeByte_23 rfl (lv_at hl 0 rfl) ?_
  refine lv_dup hx hb dX1_writeByte_24 rfl ?_
  refine va_get (D := (dC, dI)) (ci := 1) (v := .int (nI w)) (C := RX1) (T := TX1) (N := 7) hx hb hts hiX1 hown hK hP 0 rfl rfl 3 (by decide) hf20 (fun _ h9 => h9) rfl dX1_writeByte_25 ?_
  refine lv_iconst (v := nI 1) hx hb dX1_writeByte_28 (by decide) ?_
  refine lv_iadd hx hb dX1_writeByte_29 ?_
  refine tp_i (nI (w + 1)) (nI_add _ _) ?_
  refine va_put (D := (dC, dI)) (ci := 1) (v := .int (nI (w + 1))) (ty := .int) (C := RX1) (T := TX1) (N := 7) hx hb hts hiX1 tyX1 tyX1_ok nmX1 hown hK hP hD hS 0 rfl rfl 3 (by decide) hf20 (fun _ h9 => h9) rfl (by decide +kernel) rfl rfl (Nat.le_of_ble_eq_true rfl) dX1_writeByte_30 (fun H locs hP hD hS => ?_)
  have hP : va_P (dC, dI) azCl [(h0, .inr (1, [.ref ht, .int (nI n), .ref hw, .int (nI (w + 1)), .ref a1, .ref a2, .ref a3])), (hw, .inl (cW, 39, .inl (upd g w (vp_nar .byte (nI ch)))))] H := hP
  have hD : va_D A [(h0, .inr (1, [.ref ht, .int (nI n), .ref hw, .int (nI (w + 1)), .ref a1, .ref a2, .ref a3])), (hw, .inl (cW, 39, .inl (upd g w (vp_nar .byte (nI ch)))))] := hD
  exact wt_v hx hb hr ((upd g w (vp_nar .byte (nI ch)), w + 1)) (az_ou_push hg hc) (hP.sub [0, 1] rfl) hK (hD.sub [0, 1] (by decide) rfl) hS dX1_writeByte_33 hlocks
set_option maxRecDepth 100000 in
set_option maxHeartbeats 4000000 in
/-- writeDigit(d) -/
theorem ct_writeDigit (l : Launch) (dC : Nat → ClassId) (dI : Nat → Nat → Nat) (sz : Nat) (h0 ht hw a1 a2 a3 n w : Nat) (cW : ClassId) (g : Nat → Int32) (O : List Nat) (hg : az_ou g O w) (d : Nat) (hd : d < 16) (hw2 : w < 39) : Met l yX1_writeDigit wsX1_writeDigit ({ frames := 1, cells := 0, slots := 0, locals := 21 }) (wr_P (dC, dI) azCl [(h0, .inr (1, [.ref ht, .int (nI n), .ref hw, .int (nI w), .ref a1, .ref a2, .ref a3])), (hw, .inl (cW, 39, .inl g))] [(cW, .byte)] sz [.ref h0, .int (nI d)]) (va_Qv (fun u => az_ou u.1 (O ++ [az_ch d]) u.2) (wr_B (dC, dI) azCl [(cW, .byte)] (va_A [(h0, .inr (1, [.ref ht, .int (nI n), .ref hw, .int (nI w), .ref a1, .ref a2, .ref a3])), (hw, .inl (cW, 39, .inl g))] sz) (fun u : (Nat → Int32) × Nat => [(h0, .inr (1, [.ref ht, .int (nI n), .ref hw, .int (nI u.2), .ref a1, .ref a2, .ref a3])), (hw, .inl (cW, 39, .inl u.1))])) (va_A [(h0, .inr (1, [.ref ht, .int (nI n), .ref hw, .int (nI w), .ref a1, .ref a2, .ref a3])), (hw, .inl (cW, 39, .inl g))] sz)) 0 0 (va_A [(h0, .inr (1, [.ref ht, .int (nI n), .ref hw, .int (nI w), .ref a1, .ref a2, .ref a3])), (hw, .inl (cW, 39, .inl g))] sz) := by
  refine Met.ofW (cc := cX1_writeDigit) (maxL := 2) (ret := none) (by decide) rfl ?_
  intro p e s m args below meth c s₁ Bd hml hv
  obtain ⟨rfl, hsz, hP, hK, hD0⟩ := hv
  have hx := Bd.exec
  have hb := Bd.bytes
  have hr := Bd.returns
  have hts := atoms_spec (ws := wsX1_writeDigit) Bd.pre
  have hown : s.vm.findClass RX1 = some m.cls := findClass_of_methodNamed Bd.named
  have hlocks := Bd.notSynchronized
  subst hsz
  have hD := hD0.self (sz := s.heap.size)
  generalize hAe : va_A [(h0, .inr (1, [.ref ht, .int (nI n), .ref hw, .int (nI w), .ref a1, .ref a2, .ref a3])), (hw, .inl (cW, 39, .inl g))] s.heap.size = A at hD ⊢
  have hA : ∀ q : Nat, s.heap.size ≤ q → A q := fun q h => by rw [← hAe]; exact Or.inr h
  have hS : va_S A s.heap s.heap [] := va_S.rf
  have hP : va_P (dC, dI) azCl [(h0, .inr (1, [.ref ht, .int (nI n), .ref hw, .int (nI w), .ref a1, .ref a2, .ref a3])), (hw, .inl (cW, 39, .inl g))] s.heap := hP
  have hl := lv_entry ([.ref h0, .int (nI d)]) (n := 2) (Nat.le_of_ble_eq_true rfl)
  rw [lg_entry_eq]
  generalize (lg_sl ([.ref h0, .int (nI d)]) ++ List.replicate (2 - (lg_sl ([.ref h0, .int (nI d)])).length) Slot.unset).toArray = ls at hl ⊢
  have hl : lv_has ls 2 [(0, .ref h0), (1, .int (nI d))] := hl
  refine lv_aload_n hx hb dX1_writeDigit_0 rfl (lv_at hl 0 rfl) ?_
  refine lv_iload_n hx hb dX1_writeDigit_1 rfl (lv_at hl 1 rfl) ?_
  refine lv_bipush (v := nI 10) hx hb dX1_writeDigit_2 (by decide) ?_
  refine bn_ge (tgt := 14) hx hb dX1_writeDigit_4 (by decide) (by omega) (by omega) (fun c4 => ?_) (fun c4 => ?_)
  · refine lv_bipush (v := nI 97) hx hb dX1_writeDigit_14 (by decide) ?_
    refine lv_iload_n hx hb dX1_writeDigit_16 rfl (lv_at hl 1 rfl) ?_
    refine lv_iadd hx hb dX1_writeDigit_17 ?_
    refine tp_i (nI (97 + d)) (nI_add _ _) ?_
    refine lv_bipush (v := nI 10) hx hb dX1_writeDigit_18 (by decide) ?_
    refine lv_isub hx hb dX1_writeDigit_20 ?_
    refine tp_i (nI ((97 + d) - 10)) (pk_sub (by omega)) ?_
    refine wc_Vv (As := [.int (nI ((97 + d) - 10))]) (rest := []) (wr := []) ⟨hx, hb, hml, hown, hts⟩ (ct_writeByte l dC dI s.heap.size h0 ht hw a1 a2 a3 n w cW g O hg ((97 + d) - 10) (by omega) hw2) (cwV 1 hts gX1_writeDigit_X1_writeByte rfl rfl rfl (by decide +kernel) ⟨Nat.le_of_ble_eq_true rfl, Nat.le_of_ble_eq_true rfl⟩) hP hD hK hS hA [0, 1] [] [0] rfl rfl (by decide) (by decide) (by decide) rfl 0 rfl rfl rfl hl.1 rfl (Nat.le_of_ble_eq_true rfl) dX1_writeDigit_21 ⟨(Nat.zero_le _), (Nat.zero_le _)⟩ (fun u H locs hg1 hP hD hS => ?_)
    obtain ⟨u1, w1⟩ := u
    try dsimp only at hg1
    have hP : va_P (dC, dI) azCl [(h0, .inr (1, [.ref ht, .int (nI n), .ref hw, .int (nI w1), .ref a1, .ref a2, .ref a3])), (hw, .inl (cW, 39, .inl u1))] H := hP
    have hD : va_D A [(h0, .inr (1, [.ref ht, .int (nI n), .ref hw, .int (nI w1), .ref a1, .ref a2, .ref a3])), (hw, .inl (cW, 39, .inl u1))] := hD
    have hq1 := hg1.1
    try simp only [List.length_append, List.length_cons, List.length_nil] at hq1
    exact wt_v hx hb hr ((u1, w1)) (by first | (rw [az_ch_a c4]; exact hg1) | (rw [az_ch_b c4]; exact hg1)) (hP.sub [0, 1] rfl) hK (hD.sub [0, 1] (by decide) rfl) hS dX1_writeDigit_24 hlocks
  · refine lv_bipush (v := nI 48) hx hb dX1_writeDigit_7 (by decide) ?_
    refine lv_iload_n hx hb dX1_writeDigit_9 rfl (lv_at hl 1 rfl) ?_
    refine lv_iadd hx hb dX1_writeDigit_10 ?_
    refine tp_i (nI (48 + d)) (nI_add _ _) ?_
    refine lv_goto (tgt := 21) hx hb dX1_writeDigit_11 (by decide) ?_
    refine wc_Vv (As := [.int (nI (48 + d))]) (rest := []) (wr := []) ⟨hx, hb, hml, hown, hts⟩ (ct_writeByte l dC dI s.heap.size h0 ht hw a1 a2 a3 n w cW g O hg (48 + d) (by omega) hw2) (cwV 1 hts gX1_writeDigit_X1_writeByte rfl rfl rfl (by decide +kernel) ⟨Nat.le_of_ble_eq_true rfl, Nat.le_of_ble_eq_true rfl⟩) hP hD hK hS hA [0, 1] [] [0] rfl rfl (by decide) (by decide) (by decide) rfl 0 rfl rfl rfl hl.1 rfl (Nat.le_of_ble_eq_true rfl) dX1_writeDigit_21 ⟨(Nat.zero_le _), (Nat.zero_le _)⟩ (fun u H locs hg1 hP hD hS => ?_)
    obtain ⟨u1, w1⟩ := u
    try dsimp only at hg1
    have hP : va_P (dC, dI) azCl [(h0, .inr (1, [.ref ht, .int (nI n), .ref hw, .int (nI w1), .ref a1, .ref a2, .ref a3])), (hw, .inl (cW, 39, .inl u1))] H := hP
    have hD : va_D A [(h0, .inr (1, [.ref ht, .int (nI n), .ref hw, .int (nI w1), .ref a1, .ref a2, .ref a3])), (hw, .inl (cW, 39, .inl u1))] := hD
    have hq1 := hg1.1
    try simp only [List.length_append, List.length_cons, List.length_nil] at hq1
    exact wt_v hx hb hr ((u1, w1)) (by first | (rw [az_ch_a c4]; exact hg1) | (rw [az_ch_b c4]; exact hg1)) (hP.sub [0, 1] rfl) hK (hD.sub [0, 1] (by decide) rfl) hS dX1_writeDigit_24 hlocks
set_option maxRecDepth 100000 in
set_option maxHeartbeats 4000000 in
/-- writeDecimal(v) -/
theorem ct_writeDecimal (l : Launch) (dC : Nat → ClassId) (dI : Nat → Nat → Nat) (sz : Nat) (h0 ht hw a1 a2 a3 n w : Nat) (cW : ClassId) (g : Nat → Int32) (O : List Nat) (hg : az_ou g O w) (v : Nat) (hv : v < 256) (hw2 : w + 3 ≤ 39) : Met l yX1_writeDecimal wsX1_writeDecimal ({ frames := 2, cells := 0, slots := 0, locals := 42 }) (wr_P (dC, dI) azCl [(h0, .inr (1, [.ref ht, .int (nI n), .ref hw, .int (nI w), .ref a1, .ref a2, .ref a3])), (hw, .inl (cW, 39, .inl g))] [(cW, .byte)] sz [.ref h0, .int (nI v)]) (va_Qv (fun u => az_ou u.1 (O ++ az_dec v) u.2) (wr_B (dC, dI) azCl [(cW, .byte)] (va_A [(h0, .inr (1, [.ref ht, .int (nI n), .ref hw, .int (nI w), .ref a1, .ref a2, .ref a3])), (hw, .inl (cW, 39, .inl g))] sz) (fun u : (Nat → Int32) × Nat => [(h0, .inr (1, [.ref ht, .int (nI n), .ref hw, .int (nI u.2), .ref a1, .ref a2, .ref a3])), (hw, .inl (cW, 39, .inl u.1))])) (va_A [(h0, .inr (1, [.ref ht, .int (nI n), .ref hw, .int (nI w), .ref a1, .ref a2, .ref a3])), (hw, .inl (cW, 39, .inl g))] sz)) 0 0 (va_A [(h0, .inr (1, [.ref ht, .int (nI n), .ref hw, .int (nI w), .ref a1, .ref a2, .ref a3])), (hw, .inl (cW, 39, .inl g))] sz) := by
  refine Met.ofW (cc := cX1_writeDecimal) (maxL := 2) (ret := none) (by decide) rfl ?_
  intro p e s m args below meth c s₁ Bd hml hv
  obtain ⟨rfl, hsz, hP, hK, hD0⟩ := hv
  have hx := Bd.exec
  have hb := Bd.bytes
  have hr := Bd.returns
  have hts := atoms_spec (ws := wsX1_writeDecimal) Bd.pre
  have hown : s.vm.findClass RX1 = some m.cls := findClass_of_methodNamed Bd.named
  have hlocks := Bd.notSynchronized
  subst hsz
  have hD := hD0.self (sz := s.heap.size)
  generalize hAe : va_A [(h0, .inr (1, [.ref ht, .int (nI n), .ref hw, .int (nI w), .ref a1, .ref a2, .ref a3])), (hw, .inl (cW, 39, .inl g))] s.heap.size = A at hD ⊢
  have hA : ∀ q : Nat, s.heap.size ≤ q → A q := fun q h => by rw [← hAe]; exact Or.inr h
  have hS : va_S A s.heap s.heap [] := va_S.rf
  have hP : va_P (dC, dI) azCl [(h0, .inr (1, [.ref ht, .int (nI n), .ref hw, .int (nI w), .ref a1, .ref a2, .ref a3])), (hw, .inl (cW, 39, .inl g))] s.heap := hP
  have hl := lv_entry ([.ref h0, .int (nI v)]) (n := 2) (Nat.le_of_ble_eq_true rfl)
  rw [lg_entry_eq]
  generalize (lg_sl ([.ref h0, .int (nI v)]) ++ List.replicate (2 - (lg_sl ([.ref h0, .int (nI v)])).length) Slot.unset).toArray = ls at hl ⊢
  have hl : lv_has ls 2 [(0, .ref h0), (1, .int (nI v))] := hl
  have hq0 := hg.1
  refine lv_iload_n hx hb dX1_writeDecimal_0 rfl (lv_at hl 1 rfl) ?_
  refine lv_bipush (v := nI 100) hx hb dX1_writeDecimal_1 (by decide) ?_
  refine bn_lt (tgt := 14) hx hb dX1_writeDecimal_3 (by decide) (by omega) (by omega) (fun c3 => ?_) (fun c3 => ?_)
  · refine lv_iload_n hx hb dX1_writeDecimal_14 rfl (lv_at hl 1 rfl) ?_
    refine lv_bipush (v := nI 10) hx hb dX1_writeDecimal_15 (by decide) ?_
    refine bn_lt (tgt := 31) hx hb dX1_writeDecimal_17 (by decide) (by omega) (by omega) (fun c17 => ?_) (fun c17 => ?_)
    · refine lv_aload_n hx hb dX1_writeDecimal_31 rfl (lv_at hl 0 rfl) ?_
      refine lv_iload_n hx hb dX1_writeDecimal_32 rfl (lv_at hl 1 rfl) ?_
      refine lv_bipush (v := nI 10) hx hb dX1_writeDecimal_33 (by decide) ?_
      refine lv_irem hx hb dX1_writeDecimal_35 (by decide) ?_
      refine tp_i (nI (v % 10)) (pk_rem (by omega) (by omega) (by omega)) ?_
      refine wc_Vv (As := [.int (nI (v % 10))]) (rest := []) (wr := []) ⟨hx, hb, hml, hown, hts⟩ (ct_writeDigit l dC dI s.heap.size h0 ht hw a1 a2 a3 n w cW g O hg (v % 10) (by omega) (by omega)) (cwV 1 hts gX1_writeDecimal_X1_writeDigit rfl rfl rfl (by decide +kernel) ⟨Nat.le_of_ble_eq_true rfl, Nat.le_of_ble_eq_true rfl⟩) hP hD hK hS hA [0, 1] [] [0] rfl rfl (by decide) (by decide) (by decide) rfl 0 rfl rfl rfl hl.1 rfl (Nat.le_of_ble_eq_true rfl) dX1_writeDecimal_36 ⟨(Nat.zero_le _), (Nat.zero_le _)⟩ (fun u H locs hg1 hP hD hS => ?_)
      obtain ⟨u1, w1⟩ := u
      try dsimp only at hg1
      have hP : va_P (dC, dI) azCl [(h0, .inr (1, [.ref ht, .int (nI n), .ref hw, .int (nI w1), .ref a1, .ref a2, .ref a3])), (hw, .inl (cW, 39, .inl u1))] H := hP
      have hD : va_D A [(h0, .inr (1, [.ref ht, .int (nI n), .ref hw, .int (nI w1), .ref a1, .ref a2, .ref a3])), (hw, .inl (cW, 39, .inl u1))] := hD
      have hq1 := hg1.1
      try simp only [List.length_append, List.length_cons, List.length_nil] at hq1
      exact wt_v hx hb hr ((u1, w1)) (by have h := hg1; unfold az_dec; (first | rw [if_pos c3, if_pos c17] | rw [if_pos c3, if_neg (Nat.not_le.mpr c17)] | rw [if_neg (Nat.not_le.mpr c3), if_pos c17] | rw [if_neg (Nat.not_le.mpr c3), if_neg (Nat.not_le.mpr c17)]); all_goals simpa only [List.append_assoc, List.nil_append] using h) (hP.sub [0, 1] rfl) hK (hD.sub [0, 1] (by decide) rfl) hS dX1_writeDecimal_39 hlocks
    · refine lv_aload_n hx hb dX1_writeDecimal_20 rfl (lv_at hl 0 rfl) ?_
      refine lv_iload_n hx hb dX1_writeDecimal_21 rfl (lv_at hl 1 rfl) ?_
      refine lv_bipush (v := nI 10) hx hb dX1_writeDecimal_22 (by decide) ?_
      refine lv_idiv hx hb dX1_writeDecimal_24 (by decide) ?_
      refine tp_i (nI (v / 10)) (pk_div (by omega) (by omega) (by omega)) ?_
      refine lv_bipush (v := nI 10) hx hb dX1_writeDecimal_25 (by decide) ?_
      refine lv_irem hx hb dX1_writeDecimal_27 (by decide) ?_
      refine tp_i (nI ((v / 10) % 10)) (pk_rem (by omega) (by omega) (by omega)) ?_
      refine wc_Vv (As := [.int (nI ((v / 10) % 10))]) (rest := []) (wr := []) ⟨hx, hb, hml, hown, hts⟩ (ct_writeDigit l dC dI s.heap.size h0 ht hw a1 a2 a3 n w cW g O hg ((v / 10) % 10) (by omega) (by omega)) (cwV 1 hts gX1_writeDecimal_X1_writeDigit rfl rfl rfl (by decide +kernel) ⟨Nat.le_of_ble_eq_true rfl, Nat.le_of_ble_eq_true rfl⟩) hP hD hK hS hA [0, 1] [] [0] rfl rfl (by decide) (by decide) (by decide) rfl 0 rfl rfl rfl hl.1 rfl (Nat.le_of_ble_eq_true rfl) dX1_writeDecimal_28 ⟨(Nat.zero_le _), (Nat.zero_le _)⟩ (fun u H locs hg1 hP hD hS => ?_)
      obtain ⟨u1, w1⟩ := u
      try dsimp only at hg1
      have hP : va_P (dC, dI) azCl [(h0, .inr (1, [.ref ht, .int (nI n), .ref hw, .int (nI w1), .ref a1, .ref a2, .ref a3])), (hw, .inl (cW, 39, .inl u1))] H := hP
      have hD : va_D A [(h0, .inr (1, [.ref ht, .int (nI n), .ref hw, .int (nI w1), .ref a1, .ref a2, .ref a3])), (hw, .inl (cW, 39, .inl u1))] := hD
      have hq1 := hg1.1
      try simp only [List.length_append, List.length_cons, List.length_nil] at hq1
      refine lv_aload_n hx hb dX1_writeDecimal_31 rfl (lv_at hl 0 rfl) ?_
      refine lv_iload_n hx hb dX1_writeDecimal_32 rfl (lv_at hl 1 rfl) ?_
      refine lv_bipush (v := nI 10) hx hb dX1_writeDecimal_33 (by decide) ?_
      refine lv_irem hx hb dX1_writeDecimal_35 (by decide) ?_
      refine tp_i (nI (v % 10)) (pk_rem (by omega) (by omega) (by omega)) ?_
      refine wc_Vv (As := [.int (nI (v % 10))]) (rest := []) (wr := []) ⟨hx, hb, hml, hown, hts⟩ (ct_writeDigit l dC dI H.size h0 ht hw a1 a2 a3 n w1 cW u1 (O ++ [az_ch ((v / 10) % 10)]) hg1 (v % 10) (by omega) (by omega)) (cwV 1 hts gX1_writeDecimal_X1_writeDigit rfl rfl rfl (by decide +kernel) ⟨Nat.le_of_ble_eq_true rfl, Nat.le_of_ble_eq_true rfl⟩) hP hD hK hS hA [0, 1] [] [0] rfl rfl (by decide) (by decide) (by decide) rfl 0 rfl rfl rfl hl.1 rfl (Nat.le_of_ble_eq_true rfl) dX1_writeDecimal_36 ⟨(Nat.zero_le _), (Nat.zero_le _)⟩ (fun u H locs hg2 hP hD hS => ?_)
      obtain ⟨u2, w2⟩ := u
      try dsimp only at hg2
      have hP : va_P (dC, dI) azCl [(h0, .inr (1, [.ref ht, .int (nI n), .ref hw, .int (nI w2), .ref a1, .ref a2, .ref a3])), (hw, .inl (cW, 39, .inl u2))] H := hP
      have hD : va_D A [(h0, .inr (1, [.ref ht, .int (nI n), .ref hw, .int (nI w2), .ref a1, .ref a2, .ref a3])), (hw, .inl (cW, 39, .inl u2))] := hD
      have hq2 := hg2.1
      try simp only [List.length_append, List.length_cons, List.length_nil] at hq2
      exact wt_v hx hb hr ((u2, w2)) (by have h := hg2; unfold az_dec; (first | rw [if_pos c3, if_pos c17] | rw [if_pos c3, if_neg (Nat.not_le.mpr c17)] | rw [if_neg (Nat.not_le.mpr c3), if_pos c17] | rw [if_neg (Nat.not_le.mpr c3), if_neg (Nat.not_le.mpr c17)]); all_goals simpa only [List.append_assoc, List.nil_append] using h) (hP.sub [0, 1] rfl) hK (hD.sub [0, 1] (by decide) rfl) hS dX1_writeDecimal_39 hlocks
  · refine lv_aload_n hx hb dX1_writeDecimal_6 rfl (lv_at hl 0 rfl) ?_
    refine lv_iload_n hx hb dX1_writeDecimal_7 rfl (lv_at hl 1 rfl) ?_
    refine lv_bipush (v := nI 100) hx hb dX1_writeDecimal_8 (by decide) ?_
    refine lv_idiv hx hb dX1_writeDecimal_10 (by decide) ?_
    refine tp_i (nI (v / 100)) (pk_div (by omega) (by omega) (by omega)) ?_
    refine wc_Vv (As := [.int (nI (v / 100))]) (rest := []) (wr := []) ⟨hx, hb, hml, hown, hts⟩ (ct_writeDigit l dC dI s.heap.size h0 ht hw a1 a2 a3 n w cW g O hg (v / 100) (by omega) (by omega)) (cwV 1 hts gX1_writeDecimal_X1_writeDigit rfl rfl rfl (by decide +kernel) ⟨Nat.le_of_ble_eq_true rfl, Nat.le_of_ble_eq_true rfl⟩) hP hD hK hS hA [0, 1] [] [0] rfl rfl (by decide) (by decide) (by decide) rfl 0 rfl rfl rfl hl.1 rfl (Nat.le_of_ble_eq_true rfl) dX1_writeDecimal_11 ⟨(Nat.zero_le _), (Nat.zero_le _)⟩ (fun u H locs hg1 hP hD hS => ?_)
    obtain ⟨u1, w1⟩ := u
    try dsimp only at hg1
    have hP : va_P (dC, dI) azCl [(h0, .inr (1, [.ref ht, .int (nI n), .ref hw, .int (nI w1), .ref a1, .ref a2, .ref a3])), (hw, .inl (cW, 39, .inl u1))] H := hP
    have hD : va_D A [(h0, .inr (1, [.ref ht, .int (nI n), .ref hw, .int (nI w1), .ref a1, .ref a2, .ref a3])), (hw, .inl (cW, 39, .inl u1))] := hD
    have hq1 := hg1.1
    try simp only [List.length_append, List.length_cons, List.length_nil] at hq1
    refine lv_iload_n hx hb dX1_writeDecimal_14 rfl (lv_at hl 1 rfl) ?_
    refine lv_bipush (v := nI 10) hx hb dX1_writeDecimal_15 (by decide) ?_
    refine bn_lt (tgt := 31) hx hb dX1_writeDecimal_17 (by decide) (by omega) (by omega) (fun c17 => ?_) (fun c17 => ?_)
    · refine lv_aload_n hx hb dX1_writeDecimal_31 rfl (lv_at hl 0 rfl) ?_
      refine lv_iload_n hx hb dX1_writeDecimal_32 rfl (lv_at hl 1 rfl) ?_
      refine lv_bipush (v := nI 10) hx hb dX1_writeDecimal_33 (by decide) ?_
      refine lv_irem hx hb dX1_writeDecimal_35 (by decide) ?_
      refine tp_i (nI (v % 10)) (pk_rem (by omega) (by omega) (by omega)) ?_
      refine wc_Vv (As := [.int (nI (v % 10))]) (rest := []) (wr := []) ⟨hx, hb, hml, hown, hts⟩ (ct_writeDigit l dC dI H.size h0 ht hw a1 a2 a3 n w1 cW u1 (O ++ [az_ch (v / 100)]) hg1 (v % 10) (by omega) (by omega)) (cwV 1 hts gX1_writeDecimal_X1_writeDigit rfl rfl rfl (by decide +kernel) ⟨Nat.le_of_ble_eq_true rfl, Nat.le_of_ble_eq_true rfl⟩) hP hD hK hS hA [0, 1] [] [0] rfl rfl (by decide) (by decide) (by decide) rfl 0 rfl rfl rfl hl.1 rfl (Nat.le_of_ble_eq_true rfl) dX1_writeDecimal_36 ⟨(Nat.zero_le _), (Nat.zero_le _)⟩ (fun u H locs hg2 hP hD hS => ?_)
      obtain ⟨u2, w2⟩ := u
      try dsimp only at hg2
      have hP : va_P (dC, dI) azCl [(h0, .inr (1, [.ref ht, .int (nI n), .ref hw, .int (nI w2), .ref a1, .ref a2, .ref a3])), (hw, .inl (cW, 39, .inl u2))] H := hP
      have hD : va_D A [(h0, .inr (1, [.ref ht, .int (nI n), .ref hw, .int (nI w2), .ref a1, .ref a2, .ref a3])), (hw, .inl (cW, 39, .inl u2))] := hD
      have hq2 := hg2.1
      try simp only [List.length_append, List.length_cons, List.length_nil] at hq2
      exact wt_v hx hb hr ((u2, w2)) (by have h := hg2; unfold az_dec; (first | rw [if_pos c3, if_pos c17] | rw [if_pos c3, if_neg (Nat.not_le.mpr c17)] | rw [if_neg (Nat.not_le.mpr c3), if_pos c17] | rw [if_neg (Nat.not_le.mpr c3), if_neg (Nat.not_le.mpr c17)]); all_goals simpa only [List.append_assoc, List.nil_append] using h) (hP.sub [0, 1] rfl) hK (hD.sub [0, 1] (by decide) rfl) hS dX1_writeDecimal_39 hlocks
    · refine lv_aload_n hx hb dX1_writeDecimal_20 rfl (lv_at hl 0 rfl) ?_
      refine lv_iload_n hx hb dX1_writeDecimal_21 rfl (lv_at hl 1 rfl) ?_
      refine lv_bipush (v := nI 10) hx hb dX1_writeDecimal_22 (by decide) ?_
      refine lv_idiv hx hb dX1_writeDecimal_24 (by decide) ?_
      refine tp_i (nI (v / 10)) (pk_div (by omega) (by omega) (by omega)) ?_
      refine lv_bipush (v := nI 10) hx hb dX1_writeDecimal_25 (by decide) ?_
      refine lv_irem hx hb dX1_writeDecimal_27 (by decide) ?_
      refine tp_i (nI ((v / 10) % 10)) (pk_rem (by omega) (by omega) (by omega)) ?_
      refine wc_Vv (As := [.int (nI ((v / 10) % 10))]) (rest := []) (wr := []) ⟨hx, hb, hml, hown, hts⟩ (ct_writeDigit l dC dI H.size h0 ht hw a1 a2 a3 n w1 cW u1 (O ++ [az_ch (v / 100)]) hg1 ((v / 10) % 10) (by omega) (by omega)) (cwV 1 hts gX1_writeDecimal_X1_writeDigit rfl rfl rfl (by decide +kernel) ⟨Nat.le_of_ble_eq_true rfl, Nat.le_of_ble_eq_true rfl⟩) hP hD hK hS hA [0, 1] [] [0] rfl rfl (by decide) (by decide) (by decide) rfl 0 rfl rfl rfl hl.1 rfl (Nat.le_of_ble_eq_true rfl) dX1_writeDecimal_28 ⟨(Nat.zero_le _), (Nat.zero_le _)⟩ (fun u H locs hg2 hP hD hS => ?_)
      obtain ⟨u2, w2⟩ := u
      try dsimp only at hg2
      have hP : va_P (dC, dI) azCl [(h0, .inr (1, [.ref ht, .int (nI n), .ref hw, .int (nI w2), .ref a1, .ref a2, .ref a3])), (hw, .inl (cW, 39, .inl u2))] H := hP
      have hD : va_D A [(h0, .inr (1, [.ref ht, .int (nI n), .ref hw, .int (nI w2), .ref a1, .ref a2, .ref a3])), (hw, .inl (cW, 39, .inl u2))] := hD
      have hq2 := hg2.1
      try simp only [List.length_append, List.length_cons, List.length_nil] at hq2
      refine lv_aload_n hx hb dX1_writeDecimal_31 rfl (lv_at hl 0 rfl) ?_
      refine lv_iload_n hx hb dX1_writeDecimal_32 rfl (lv_at hl 1 rfl) ?_
      refine lv_bipush (v := nI 10) hx hb dX1_writeDecimal_33 (by decide) ?_
      refine lv_irem hx hb dX1_writeDecimal_35 (by decide) ?_
      refine tp_i (nI (v % 10)) (pk_rem (by omega) (by omega) (by omega)) ?_
      refine wc_Vv (As := [.int (nI (v % 10))]) (rest := []) (wr := []) ⟨hx, hb, hml, hown, hts⟩ (ct_writeDigit l dC dI H.size h0 ht hw a1 a2 a3 n w2 cW u2 ((O ++ [az_ch (v / 100)]) ++ [az_ch ((v / 10) % 10)]) hg2 (v % 10) (by omega) (by omega)) (cwV 1 hts gX1_writeDecimal_X1_writeDigit rfl rfl rfl (by decide +kernel) ⟨Nat.le_of_ble_eq_true rfl, Nat.le_of_ble_eq_true rfl⟩) hP hD hK hS hA [0, 1] [] [0] rfl rfl (by decide) (by decide) (by decide) rfl 0 rfl rfl rfl hl.1 rfl (Nat.le_of_ble_eq_true rfl) dX1_writeDecimal_36 ⟨(Nat.zero_le _), (Nat.zero_le _)⟩ (fun u H locs hg3 hP hD hS => ?_)
      obtain ⟨u3, w3⟩ := u
      try dsimp only at hg3
      have hP : va_P (dC, dI) azCl [(h0, .inr (1, [.ref ht, .int (nI n), .ref hw, .int (nI w3), .ref a1, .ref a2, .ref a3])), (hw, .inl (cW, 39, .inl u3))] H := hP
      have hD : va_D A [(h0, .inr (1, [.ref ht, .int (nI n), .ref hw, .int (nI w3), .ref a1, .ref a2, .ref a3])), (hw, .inl (cW, 39, .inl u3))] := hD
      have hq3 := hg3.1
      try simp only [List.length_append, List.length_cons, List.length_nil] at hq3
      exact wt_v hx hb hr ((u3, w3)) (by have h := hg3; unfold az_dec; (first | rw [if_pos c3, if_pos c17] | rw [if_pos c3, if_neg (Nat.not_le.mpr c17)] | rw [if_neg (Nat.not_le.mpr c3), if_pos c17] | rw [if_neg (Nat.not_le.mpr c3), if_neg (Nat.not_le.mpr c17)]); all_goals simpa only [List.append_assoc, List.nil_append] using h) (hP.sub [0, 1] rfl) hK (hD.sub [0, 1] (by decide) rfl) hS dX1_writeDecimal_39 hlocks
set_option maxRecDepth 100000 in
set_option maxHeartbeats 4000000 in
/-- writeHexadecimal(v) -/
theorem ct_writeHexadecimal (l : Launch) (dC : Nat → ClassId) (dI : Nat → Nat → Nat) (sz : Nat) (h0 ht hw a1 a2 a3 n w : Nat) (cW : ClassId) (g : Nat → Int32) (O : List Nat) (hg : az_ou g O w) (v : Nat) (hv : v < 65536) (hw2 : w + 4 ≤ 39) : Met l yX1_writeHexadecimal wsX1_writeHexadecimal ({ frames := 2, cells := 0, slots := 0, locals := 42 }) (wr_P (dC, dI) azCl [(h0, .inr (1, [.ref ht, .int (nI n), .ref hw, .int (nI w), .ref a1, .ref a2, .ref a3])), (hw, .inl (cW, 39, .inl g))] [(cW, .byte)] sz [.ref h0, .int (nI v)]) (va_Qv (fun u => az_ou u.1 (O ++ az_hex v) u.2) (wr_B (dC, dI) azCl [(cW, .byte)] (va_A [(h0, .inr (1, [.ref ht, .int (nI n), .ref hw, .int (nI w), .ref a1, .ref a2, .ref a3])), (hw, .inl (cW, 39, .inl g))] sz) (fun u : (Nat → Int32) × Nat => [(h0, .inr (1, [.ref ht, .int (nI n), .ref hw, .int (nI u.2), .ref a1, .ref a2, .ref a3])), (hw, .inl (cW, 39, .inl u.1))])) (va_A [(h0, .inr (1, [.ref ht, .int (nI n), .ref hw, .int (nI w), .ref a1, .ref a2, .ref a3])), (hw, .inl (cW, 39, .inl g))] sz)) 0 0 (va_A [(h0, .inr (1, [.ref ht, .int (nI n), .ref hw, .int (nI w), .ref a1, .ref a2, .ref a3])), (hw, .inl (cW, 39, .inl g))] sz) := by
  refine Met.ofW (cc := cX1_writeHexadecimal) (maxL := 3) (ret := none) (by decide) rfl ?_
  intro p e s m args below meth c s₁ Bd hml hv
  obtain ⟨rfl, hsz, hP, hK, hD0⟩ := hv
  have hx := Bd.exec
  have hb := Bd.bytes
  have hr := Bd.returns
  have hts := atoms_spec (ws := wsX1_writeHexadecimal) Bd.pre
  have hown : s.vm.findClass RX1 = some m.cls := findClass_of_methodNamed Bd.named
  have hlocks := Bd.notSynchronized
  subst hsz
  have hD := hD0.self (sz := s.heap.size)
  generalize hAe : va_A [(h0, .inr (1, [.ref ht, .int (nI n), .ref hw, .int (nI w), .ref a1, .ref a2, .ref a3])), (hw, .inl (cW, 39, .inl g))] s.heap.size = A at hD ⊢
  have hA : ∀ q : Nat, s.heap.size ≤ q → A q := fun q h => by rw [← hAe]; exact Or.inr h
  have hS : va_S A s.heap s.heap [] := va_S.rf
  have hP : va_P (dC, dI) azCl [(h0, .inr (1, [.ref ht, .int (nI n), .ref hw, .int (nI w), .ref a1, .ref a2, .ref a3])), (hw, .inl (cW, 39, .inl g))] s.heap := hP
  have hl := lv_entry ([.ref h0, .int (nI v)]) (n := 3) (Nat.le_of_ble_eq_true rfl)
  rw [lg_entry_eq]
  generalize (lg_sl ([.ref h0, .int (nI v)]) ++ List.replicate (3 - (lg_sl ([.ref h0, .int (nI v)])).length) Slot.unset).toArray = ls at hl ⊢
  have hl : lv_has ls 3 [(0, .ref h0), (1, .int (nI v))] := hl
  have hq0 := hg.1
  refine lv_bipush (v := nI 12) hx hb dX1_writeHexadecimal_0 (by decide) ?_
  refine lv_istore_n (lv' := [(2, .int (nI 12)), (0, .ref h0), (1, .int (nI v))]) hx hb dX1_writeHexadecimal_2 rfl hl (by decide) rfl (fun ls hl => ?_)
  refine lv_iload_n hx hb dX1_writeHexadecimal_3 rfl (lv_at hl 0 rfl) ?_
  refine lv_if_lt (tgt := 33) hx hb dX1_writeHexadecimal_4 (by decide) (fun c => absurd c (by decide)) (fun _ => ?_)
  refine lv_iload_n hx hb dX1_writeHexadecimal_7 rfl (lv_at hl 0 rfl) ?_
  refine lv_if_eq (tgt := 17) hx hb dX1_writeHexadecimal_8 (by decide) (fun c => absurd c (by decide)) (fun _ => ?_)
  refine lv_iload_n hx hb dX1_writeHexadecimal_11 rfl (lv_at hl 2 rfl) ?_
  refine lv_iload_n hx hb dX1_writeHexadecimal_12 rfl (lv_at hl 0 rfl) ?_
  refine lv_iushr (v := nI (v / 4096)) hx hb dX1_writeHexadecimal_13 (pk_ushrN (by omega) _ 12 (by decide)) ?_
  refine bz_eq (tgt := 27) hx hb dX1_writeHexadecimal_14 (by decide) (by omega) (fun c14 => ?_) (fun c14 => ?_)
  · refine lv_iinc (v := nI 8) (lv' := [(2, .int (nI 8)), (0, .ref h0), (1, .int (nI v))]) hx hb dX1_writeHexadecimal_27 hl (k := 0) rfl (by decide) (by decide) rfl (fun ls hl => ?_)
    refine lv_goto (tgt := 3) hx hb dX1_writeHexadecimal_30 (by decide) ?_
    refine lv_iload_n hx hb dX1_writeHexadecimal_3 rfl (lv_at hl 0 rfl) ?_
    refine lv_if_lt (tgt := 33) hx hb dX1_writeHexadecimal_4 (by decide) (fun c => absurd c (by decide)) (fun _ => ?_)
    refine lv_iload_n hx hb dX1_writeHexadecimal_7 rfl (lv_at hl 0 rfl) ?_
    refine lv_if_eq (tgt := 17) hx hb dX1_writeHexadecimal_8 (by decide) (fun c => absurd c (by decide)) (fun _ => ?_)
    refine lv_iload_n hx hb dX1_writeHexadecimal_11 rfl (lv_at hl 2 rfl) ?_
    refine lv_iload_n hx hb dX1_writeHexadecimal_12 rfl (lv_at hl 0 rfl) ?_
    refine lv_iushr (v := nI (v / 256)) hx hb dX1_writeHexadecimal_13 (pk_ushrN (by omega) _ 8 (by decide)) ?_
    refine bz_eq (tgt := 27) hx hb dX1_writeHexadecimal_14 (by decide) (by omega) (fun c14x => ?_) (fun c14x => ?_)
    · refine lv_iinc (v := nI 4) (lv' := [(2, .int (nI 4)), (0, .ref h0), (1, .int (nI v))]) hx hb dX1_writeHexadecimal_27 hl (k := 0) rfl (by decide) (by decide) rfl (fun ls hl => ?_)
      refine lv_goto (tgt := 3) hx hb dX1_writeHexadecimal_30 (by decide) ?_
      refine lv_iload_n hx hb dX1_writeHexadecimal_3 rfl (lv_at hl 0 rfl) ?_
      refine lv_if_lt (tgt := 33) hx hb dX1_writeHexadecimal_4 (by decide) (fun c => absurd c (by decide)) (fun _ => ?_)
      refine lv_iload_n hx hb dX1_writeHexadecimal_7 rfl (lv_at hl 0 rfl) ?_
      refine lv_if_eq (tgt := 17) hx hb dX1_writeHexadecimal_8 (by decide) (fun c => absurd c (by decide)) (fun _ => ?_)
      refine lv_iload_n hx hb dX1_writeHexadecimal_11 rfl (lv_at hl 2 rfl) ?_
      refine lv_iload_n hx hb dX1_writeHexadecimal_12 rfl (lv_at hl 0 rfl) ?_
      refine lv_iushr (v := nI (v / 16)) hx hb dX1_writeHexadecimal_13 (pk_ushrN (by omega) _ 4 (by decide)) ?_
      refine bz_eq (tgt := 27) hx hb dX1_writeHexadecimal_14 (by decide) (by omega) (fun c14xx => ?_) (fun c14xx => ?_)
      · refine lv_iinc (v := nI 0) (lv' := [(2, .int (nI 0)), (0, .ref h0), (1, .int (nI v))]) hx hb dX1_writeHexadecimal_27 hl (k := 0) rfl (by decide) (by decide) rfl (fun ls hl => ?_)
        refine lv_goto (tgt := 3) hx hb dX1_writeHexadecimal_30 (by decide) ?_
        refine lv_iload_n hx hb dX1_writeHexadecimal_3 rfl (lv_at hl 0 rfl) ?_
        refine lv_if_lt (tgt := 33) hx hb dX1_writeHexadecimal_4 (by decide) (fun c => absurd c (by decide)) (fun _ => ?_)
        refine lv_iload_n hx hb dX1_writeHexadecimal_7 rfl (lv_at hl 0 rfl) ?_
        refine lv_if_eq (tgt := 17) hx hb dX1_writeHexadecimal_8 (by decide) (fun _ => ?_) (fun c => absurd c (by decide))
        refine lv_aload_n hx hb dX1_writeHexadecimal_17 rfl (lv_at hl 1 rfl) ?_
        refine lv_iload_n hx hb dX1_writeHexadecimal_18 rfl (lv_at hl 2 rfl) ?_
        refine lv_iload_n hx hb dX1_writeHexadecimal_19 rfl (lv_at hl 0 rfl) ?_
        refine lv_iushr (v := nI v) hx hb dX1_writeHexadecimal_20 ((pk_ushrN (by omega) _ 0 (by decide)).trans (congrArg nI (Nat.div_one v))) ?_
        refine lv_bipush (v := nI 15) hx hb dX1_writeHexadecimal_21 (by decide) ?_
        refine lv_iand hx hb dX1_writeHexadecimal_23 ?_
        refine tp_i (nI (v % 16)) (pk_andN (by omega) 4 (by decide)) ?_
        refine wc_Vv (As := [.int (nI (v % 16))]) (rest := []) (wr := []) ⟨hx, hb, hml, hown, hts⟩ (ct_writeDigit l dC dI s.heap.size h0 ht hw a1 a2 a3 n w cW g O hg (v % 16) (by omega) (by omega)) (cwV 1 hts gX1_writeHexadecimal_X1_writeDigit rfl rfl rfl (by decide +kernel) ⟨Nat.le_of_ble_eq_true rfl, Nat.le_of_ble_eq_true rfl⟩) hP hD hK hS hA [0, 1] [] [0] rfl rfl (by decide) (by decide) (by decide) rfl 0 rfl rfl rfl hl.1 rfl (Nat.le_of_ble_eq_true rfl) dX1_writeHexadecimal_24 ⟨(Nat.zero_le _), (Nat.zero_le _)⟩ (fun u H locs hg1 hP hD hS => ?_)
        obtain ⟨u1, w1⟩ := u
        try dsimp only at hg1
        have hP : va_P (dC, dI) azCl [(h0, .inr (1, [.ref ht, .int (nI n), .ref hw, .int (nI w1), .ref a1, .ref a2, .ref a3])), (hw, .inl (cW, 39, .inl u1))] H := hP
        have hD : va_D A [(h0, .inr (1, [.ref ht, .int (nI n), .ref hw, .int (nI w1), .ref a1, .ref a2, .ref a3])), (hw, .inl (cW, 39, .inl u1))] := hD
        have hq1 := hg1.1
        try simp only [List.length_append, List.length_cons, List.length_nil] at hq1
        refine lv_iinc (v := -4) (lv' := [(2, .int (-4)), (0, .ref h0), (1, .int (nI v))]) hx hb dX1_writeHexadecimal_27 hl (k := 0) rfl (by decide) (by decide) rfl (fun ls hl => ?_)
        refine lv_goto (tgt := 3) hx hb dX1_writeHexadecimal_30 (by decide) ?_
        refine lv_iload_n hx hb dX1_writeHexadecimal_3 rfl (lv_at hl 0 rfl) ?_
        refine lv_if_lt (tgt := 33) hx hb dX1_writeHexadecimal_4 (by decide) (fun _ => ?_) (fun c => absurd c (by decide))
        exact wt_v hx hb hr ((u1, w1)) (by have h := hg1; unfold az_hex; simp only [c14, c14x, c14xx, ne_eq, not_true_eq_false, not_false_eq_true, if_true, if_false, ite_true, ite_false, List.append_assoc, List.nil_append] at h ⊢; exact h) (hP.sub [0, 1] rfl) hK (hD.sub [0, 1] (by decide) rfl) hS dX1_writeHexadecimal_33 hlocks
      · refine lv_aload_n hx hb dX1_writeHexadecimal_17 rfl (lv_at hl 1 rfl) ?_
        refine lv_iload_n hx hb dX1_writeHexadecimal_18 rfl (lv_at hl 2 rfl) ?_
        refine lv_iload_n hx hb dX1_writeHexadecimal_19 rfl (lv_at hl 0 rfl) ?_
        refine lv_iushr (v := nI (v / 16)) hx hb dX1_writeHexadecimal_20 (pk_ushrN (by omega) _ 4 (by decide)) ?_
        refine lv_bipush (v := nI 15) hx hb dX1_writeHexadecimal_21 (by decide) ?_
        refine lv_iand hx hb dX1_writeHexadecimal_23 ?_
        refine tp_i (nI ((v / 16) % 16)) (pk_andN (by omega) 4 (by decide)) ?_
        refine wc_Vv (As := [.int (nI ((v / 16) % 16))]) (rest := []) (wr := []) ⟨hx, hb, hml, hown, hts⟩ (ct_writeDigit l dC dI s.heap.size h0 ht hw a1 a2 a3 n w cW g O hg ((v / 16) % 16) (by omega) (by omega)) (cwV 1 hts gX1_writeHexadecimal_X1_writeDigit rfl rfl rfl (by decide +kernel) ⟨Nat.le_of_ble_eq_true rfl, Nat.le_of_ble_eq_true rfl⟩) hP hD hK hS hA [0, 1] [] [0] rfl rfl (by decide) (by decide) (by decide) rfl 0 rfl rfl rfl hl.1 rfl (Nat.le_of_ble_eq_true rfl) dX1_writeHexadecimal_24 ⟨(Nat.zero_le _), (Nat.zero_le _)⟩ (fun u H locs hg1 hP hD hS => ?_)
        obtain ⟨u1, w1⟩ := u
        try dsimp only at hg1
        have hP : va_P (dC, dI) azCl [(h0, .inr (1, [.ref ht, .int (nI n), .ref hw, .int (nI w1), .ref a1, .ref a2, .ref a3])), (hw, .inl (cW, 39, .inl u1))] H := hP
        have hD : va_D A [(h0, .inr (1, [.ref ht, .int (nI n), .ref hw, .int (nI w1), .ref a1, .ref a2, .ref a3])), (hw, .inl (cW, 39, .inl u1))] := hD
        have hq1 := hg1.1
        try simp only [List.length_append, List.length_cons, List.length_nil] at hq1
        refine lv_iinc (v := nI 0) (lv' := [(2, .int (nI 0)), (0, .ref h0), (1, .int (nI v))]) hx hb dX1_writeHexadecimal_27 hl (k := 0) rfl (by decide) (by decide) rfl (fun ls hl => ?_)
        refine lv_goto (tgt := 3) hx hb dX1_writeHexadecimal_30 (by decide) ?_
        refine lv_iload_n hx hb dX1_writeHexadecimal_3 rfl (lv_at hl 0 rfl) ?_
        refine lv_if_lt (tgt := 33) hx hb dX1_writeHexadecimal_4 (by decide) (fun c => absurd c (by decide)) (fun _ => ?_)
        refine lv_iload_n hx hb dX1_writeHexadecimal_7 rfl (lv_at hl 0 rfl) ?_
        refine lv_if_eq (tgt := 17) hx hb dX1_writeHexadecimal_8 (by decide) (fun _ => ?_) (fun c => absurd c (by decide))
        refine lv_aload_n hx hb dX1_writeHexadecimal_17 rfl (lv_at hl 1 rfl) ?_
        refine lv_iload_n hx hb dX1_writeHexadecimal_18 rfl (lv_at hl 2 rfl) ?_
        refine lv_iload_n hx hb dX1_writeHexadecimal_19 rfl (lv_at hl 0 rfl) ?_
        refine lv_iushr (v := nI v) hx hb dX1_writeHexadecimal_20 ((pk_ushrN (by omega) _ 0 (by decide)).trans (congrArg nI (Nat.div_one v))) ?_
        refine lv_bipush (v := nI 15) hx hb dX1_writeHexadecimal_21 (by decide) ?_
        refine lv_iand hx hb dX1_writeHexadecimal_23 ?_
        refine tp_i (nI (v % 16)) (pk_andN (by omega) 4 (by decide)) ?_
        refine wc_Vv (As := [.int (nI (v % 16))]) (rest := []) (wr := []) ⟨hx, hb, hml, hown, hts⟩ (ct_writeDigit l dC dI H.size h0 ht hw a1 a2 a3 n w1 cW u1 (O ++ [az_ch ((v / 16) % 16)]) hg1 (v % 16) (by omega) (by omega)) (cwV 1 hts gX1_writeHexadecimal_X1_writeDigit rfl rfl rfl (by decide +kernel) ⟨Nat.le_of_ble_eq_true rfl, Nat.le_of_ble_eq_true rfl⟩) hP hD hK hS hA [0, 1] [] [0] rfl rfl (by decide) (by decide) (by decide) rfl 0 rfl rfl rfl hl.1 rfl (Nat.le_of_ble_eq_true rfl) dX1_writeHexadecimal_24 ⟨(Nat.zero_le _), (Nat.zero_le _)⟩ (fun u H locs hg2 hP hD hS => ?_)
        obtain ⟨u2, w2⟩ := u
        try dsimp only at hg2
        have hP : va_P (dC, dI) azCl [(h0, .inr (1, [.ref ht, .int (nI n), .ref hw, .int (nI w2), .ref a1, .ref a2, .ref a3])), (hw, .inl (cW, 39, .inl u2))] H := hP
        have hD : va_D A [(h0, .inr (1, [.ref ht, .int (nI n), .ref hw, .int (nI w2), .ref a1, .ref a2, .ref a3])), (hw, .inl (cW, 39, .inl u2))] := hD
        have hq2 := hg2.1
        try simp only [List.length_append, List.length_cons, List.length_nil] at hq2
        refine lv_iinc (v := -4) (lv' := [(2, .int (-4)), (0, .ref h0), (1, .int (nI v))]) hx hb dX1_writeHexadecimal_27 hl (k := 0) rfl (by decide) (by decide) rfl (fun ls hl => ?_)
        refine lv_goto (tgt := 3) hx hb dX1_writeHexadecimal_30 (by decide) ?_
        refine lv_iload_n hx hb dX1_writeHexadecimal_3 rfl (lv_at hl 0 rfl) ?_
        refine lv_if_lt (tgt := 33) hx hb dX1_writeHexadecimal_4 (by decide) (fun _ => ?_) (fun c => absurd c (by decide))
        exact wt_v hx hb hr ((u2, w2)) (by have h := hg2; unfold az_hex; simp only [c14, c14x, c14xx, ne_eq, not_true_eq_false, not_false_eq_true, if_true, if_false, ite_true, ite_false, List.append_assoc, List.nil_append] at h ⊢; exact h) (hP.sub [0, 1] rfl) hK (hD.sub [0, 1] (by decide) rfl) hS dX1_writeHexadecimal_33 hlocks
    · refine lv_aload_n hx hb dX1_writeHexadecimal_17 rfl (lv_at hl 1 rfl) ?_
      refine lv_iload_n hx hb dX1_writeHexadecimal_18 rfl (lv_at hl 2 rfl) ?_
      refine lv_iload_n hx hb dX1_writeHexadecimal_19 rfl (lv_at hl 0 rfl) ?_
      refine lv_iushr (v := nI (v / 256)) hx hb dX1_writeHexadecimal_20 (pk_ushrN (by omega) _ 8 (by decide)) ?_
      refine lv_bipush (v := nI 15) hx hb dX1_writeHexadecimal_21 (by decide) ?_
      refine lv_iand hx hb dX1_writeHexadecimal_23 ?_
      refine tp_i (nI ((v / 256) % 16)) (pk_andN (by omega) 4 (by decide)) ?_
      refine wc_Vv (As := [.int (nI ((v / 256) % 16))]) (rest := []) (wr := []) ⟨hx, hb, hml, hown, hts⟩ (ct_writeDigit l dC dI s.heap.size h0 ht hw a1 a2 a3 n w cW g O hg ((v / 256) % 16) (by omega) (by omega)) (cwV 1 hts gX1_writeHexadecimal_X1_writeDigit rfl rfl rfl (by decide +kernel) ⟨Nat.le_of_ble_eq_true rfl, Nat.le_of_ble_eq_true rfl⟩) hP hD hK hS hA [0, 1] [] [0] rfl rfl (by decide) (by decide) (by decide) rfl 0 rfl rfl rfl hl.1 rfl (Nat.le_of_ble_eq_true rfl) dX1_writeHexadecimal_24 ⟨(Nat.zero_le _), (Nat.zero_le _)⟩ (fun u H locs hg1 hP hD hS => ?_)
      obtain ⟨u1, w1⟩ := u
      try dsimp only at hg1
      have hP : va_P (dC, dI) azCl [(h0, .inr (1, [.ref ht, .int (nI n), .ref hw, .int (nI w1), .ref a1, .ref a2, .ref a3])), (hw, .inl (cW, 39, .inl u1))] H := hP
      have hD : va_D A [(h0, .inr (1, [.ref ht, .int (nI n), .ref hw, .int (nI w1), .ref a1, .ref a2, .ref a3])), (hw, .inl (cW, 39, .inl u1))] := hD
      have hq1 := hg1.1
      try simp only [List.length_append, List.length_cons, List.length_nil] at hq1
      refine lv_iinc (v := nI 4) (lv' := [(2, .int (nI 4)), (0, .ref h0), (1, .int (nI v))]) hx hb dX1_writeHexadecimal_27 hl (k := 0) rfl (by decide) (by decide) rfl (fun ls hl => ?_)
      refine lv_goto (tgt := 3) hx hb dX1_writeHexadecimal_30 (by decide) ?_
      refine lv_iload_n hx hb dX1_writeHexadecimal_3 rfl (lv_at hl 0 rfl) ?_
      refine lv_if_lt (tgt := 33) hx hb dX1_writeHexadecimal_4 (by decide) (fun c => absurd c (by decide)) (fun _ => ?_)
      refine lv_iload_n hx hb dX1_writeHexadecimal_7 rfl (lv_at hl 0 rfl) ?_
      refine lv_if_eq (tgt := 17) hx hb dX1_writeHexadecimal_8 (by decide) (fun c => absurd c (by decide)) (fun _ => ?_)
      refine lv_iload_n hx hb dX1_writeHexadecimal_11 rfl (lv_at hl 2 rfl) ?_
      refine lv_iload_n hx hb dX1_writeHexadecimal_12 rfl (lv_at hl 0 rfl) ?_
      refine lv_iushr (v := nI (v / 16)) hx hb dX1_writeHexadecimal_13 (pk_ushrN (by omega) _ 4 (by decide)) ?_
      refine bz_eq (tgt := 27) hx hb dX1_writeHexadecimal_14 (by decide) (by omega) (fun c14xx => ?_) (fun c14xx => ?_)
      · refine lv_iinc (v := nI 0) (lv' := [(2, .int (nI 0)), (0, .ref h0), (1, .int (nI v))]) hx hb dX1_writeHexadecimal_27 hl (k := 0) rfl (by decide) (by decide) rfl (fun ls hl => ?_)
        refine lv_goto (tgt := 3) hx hb dX1_writeHexadecimal_30 (by decide) ?_
        refine lv_iload_n hx hb dX1_writeHexadecimal_3 rfl (lv_at hl 0 rfl) ?_
        refine lv_if_lt (tgt := 33) hx hb dX1_writeHexadecimal_4 (by decide) (fun c => absurd c (by decide)) (fun _ => ?_)
        refine lv_iload_n hx hb dX1_writeHexadecimal_7 rfl (lv_at hl 0 rfl) ?_
        refine lv_if_eq (tgt := 17) hx hb dX1_writeHexadecimal_8 (by decide) (fun _ => ?_) (fun c => absurd c (by decide))
        refine lv_aload_n hx hb dX1_writeHexadecimal_17 rfl (lv_at hl 1 rfl) ?_
        refine lv_iload_n hx hb dX1_writeHexadecimal_18 rfl (lv_at hl 2 rfl) ?_
        refine lv_iload_n hx hb dX1_writeHexadecimal_19 rfl (lv_at hl 0 rfl) ?_
        refine lv_iushr (v := nI v) hx hb dX1_writeHexadecimal_20 ((pk_ushrN (by omega) _ 0 (by decide)).trans (congrArg nI (Nat.div_one v))) ?_
        refine lv_bipush (v := nI 15) hx hb dX1_writeHexadecimal_21 (by decide) ?_
        refine lv_iand hx hb dX1_writeHexadecimal_23 ?_
        refine tp_i (nI (v % 16)) (pk_andN (by omega) 4 (by decide)) ?_
        refine wc_Vv (As := [.int (nI (v % 16))]) (rest := []) (wr := []) ⟨hx, hb, hml, hown, hts⟩ (ct_writeDigit l dC dI H.size h0 ht hw a1 a2 a3 n w1 cW u1 (O ++ [az_ch ((v / 256) % 16)]) hg1 (v % 16) (by omega) (by omega)) (cwV 1 hts gX1_writeHexadecimal_X1_writeDigit rfl rfl rfl (by decide +kernel) ⟨Nat.le_of_ble_eq_true rfl, Nat.le_of_ble_eq_true rfl⟩) hP hD hK hS hA [0, 1] [] [0] rfl rfl (by decide) (by decide) (by decide) rfl 0 rfl rfl rfl hl.1 rfl (Nat.le_of_ble_eq_true rfl) dX1_writeHexadecimal_24 ⟨(Nat.zero_le _), (Nat.zero_le _)⟩ (fun u H locs hg2 hP hD hS => ?_)
        obtain ⟨u2, w2⟩ := u
        try dsimp only at hg2
        have hP : va_P (dC, dI) azCl [(h0, .inr (1, [.ref ht, .int (nI n), .ref hw, .int (nI w2), .ref a1, .ref a2, .ref a3])), (hw, .inl (cW, 39, .inl u2))] H := hP
        have hD : va_D A [(h0, .inr (1, [.ref ht, .int (nI n), .ref hw, .int (nI w2), .ref a1, .ref a2, .ref a3])), (hw, .inl (cW, 39, .inl u2))] := hD
        have hq2 := hg2.1
        try simp only [List.length_append, List.length_cons, List.length_nil] at hq2
        refine lv_iinc (v := -4) (lv' := [(2, .int (-4)), (0, .ref h0), (1, .int (nI v))]) hx hb dX1_writeHexadecimal_27 hl (k := 0) rfl (by decide) (by decide) rfl (fun ls hl => ?_)
        refine lv_goto (tgt := 3) hx hb dX1_writeHexadecimal_30 (by decide) ?_
        refine lv_iload_n hx hb dX1_writeHexadecimal_3 rfl (lv_at hl 0 rfl) ?_
        refine lv_if_lt (tgt := 33) hx hb dX1_writeHexadecimal_4 (by decide) (fun _ => ?_) (fun c => absurd c (by decide))
        exact wt_v hx hb hr ((u2, w2)) (by have h := hg2; unfold az_hex; simp only [c14, c14x, c14xx, ne_eq, not_true_eq_false, not_false_eq_true, if_true, if_false, ite_true, ite_false, List.append_assoc, List.nil_append] at h ⊢; exact h) (hP.sub [0, 1] rfl) hK (hD.sub [0, 1] (by decide) rfl) hS dX1_writeHexadecimal_33 hlocks
      · refine lv_aload_n hx hb dX1_writeHexadecimal_17 rfl (lv_at hl 1 rfl) ?_
        refine lv_iload_n hx hb dX1_writeHexadecimal_18 rfl (lv_at hl 2 rfl) ?_
        refine lv_iload_n hx hb dX1_writeHexadecimal_19 rfl (lv_at hl 0 rfl) ?_
        refine lv_iushr (v := nI (v / 16)) hx hb dX1_writeHexadecimal_20 (pk_ushrN (by omega) _ 4 (by decide)) ?_
        refine lv_bipush (v := nI 15) hx hb dX1_writeHexadecimal_21 (by decide) ?_
        refine lv_iand hx hb dX1_writeHexadecimal_23 ?_
        refine tp_i (nI ((v / 16) % 16)) (pk_andN (by omega) 4 (by decide)) ?_
        refine wc_Vv (As := [.int (nI ((v / 16) % 16))]) (rest := []) (wr := []) ⟨hx, hb, hml, hown, hts⟩ (ct_writeDigit l dC dI H.size h0 ht hw a1 a2 a3 n w1 cW u1 (O ++ [az_ch ((v / 256) % 16)]) hg1 ((v / 16) % 16) (by omega) (by omega)) (cwV 1 hts gX1_writeHexadecimal_X1_writeDigit rfl rfl rfl (by decide +kernel) ⟨Nat.le_of_ble_eq_true rfl, Nat.le_of_ble_eq_true rfl⟩) hP hD hK hS hA [0, 1] [] [0] rfl rfl (by decide) (by decide) (by decide) rfl 0 rfl rfl rfl hl.1 rfl (Nat.le_of_ble_eq_true rfl) dX1_writeHexadecimal_24 ⟨(Nat.zero_le _), (Nat.zero_le _)⟩ (fun u H locs hg2 hP hD hS => ?_)
        obtain ⟨u2, w2⟩ := u
        try dsimp only at hg2
        have hP : va_P (dC, dI) azCl [(h0, .inr (1, [.ref ht, .int (nI n), .ref hw, .int (nI w2), .ref a1, .ref a2, .ref a3])), (hw, .inl (cW, 39, .inl u2))] H := hP
        have hD : va_D A [(h0, .inr (1, [.ref ht, .int (nI n), .ref hw, .int (nI w2), .ref a1, .ref a2, .ref a3])), (hw, .inl (cW, 39, .inl u2))] := hD
        have hq2 := hg2.1
        try simp only [List.length_append, List.length_cons, List.length_nil] at hq2
        refine lv_iinc (v := nI 0) (lv' := [(2, .int (nI 0)), (0, .ref h0), (1, .int (nI v))]) hx hb dX1_writeHexadecimal_27 hl (k := 0) rfl (by decide) (by decide) rfl (fun ls hl => ?_)
        refine lv_goto (tgt := 3) hx hb dX1_writeHexadecimal_30 (by decide) ?_
        refine lv_iload_n hx hb dX1_writeHexadecimal_3 rfl (lv_at hl 0 rfl) ?_
        refine lv_if_lt (tgt := 33) hx hb dX1_writeHexadecimal_4 (by decide) (fun c => absurd c (by decide)) (fun _ => ?_)
        refine lv_iload_n hx hb dX1_writeHexadecimal_7 rfl (lv_at hl 0 rfl) ?_
        refine lv_if_eq (tgt := 17) hx hb dX1_writeHexadecimal_8 (by decide) (fun _ => ?_) (fun c => absurd c (by decide))
        refine lv_aload_n hx hb dX1_writeHexadecimal_17 rfl (lv_at hl 1 rfl) ?_
        refine lv_iload_n hx hb dX1_writeHexadecimal_18 rfl (lv_at hl 2 rfl) ?_
        refine lv_iload_n hx hb dX1_writeHexadecimal_19 rfl (lv_at hl 0 rfl) ?_
        refine lv_iushr (v := nI v) hx hb dX1_writeHexadecimal_20 ((pk_ushrN (by omega) _ 0 (by decide)).trans (congrArg nI (Nat.div_one v))) ?_
        refine lv_bipush (v := nI 15) hx hb dX1_writeHexadecimal_21 (by decide) ?_
        refine lv_iand hx hb dX1_writeHexadecimal_23 ?_
        refine tp_i (nI (v % 16)) (pk_andN (by omega) 4 (by decide)) ?_
        refine wc_Vv (As := [.int (nI (v % 16))]) (rest := []) (wr := []) ⟨hx, hb, hml, hown, hts⟩ (ct_writeDigit l dC dI H.size h0 ht hw a1 a2 a3 n w2 cW u2 ((O ++ [az_ch ((v / 256) % 16)]) ++ [az_ch ((v / 16) % 16)]) hg2 (v % 16) (by omega) (by omega)) (cwV 1 hts gX1_writeHexadecimal_X1_writeDigit rfl rfl rfl (by decide +kernel) ⟨Nat.le_of_ble_eq_true rfl, Nat.le_of_ble_eq_true rfl⟩) hP hD hK hS hA [0, 1] [] [0] rfl rfl (by decide) (by decide) (by decide) rfl 0 rfl rfl rfl hl.1 rfl (Nat.le_of_ble_eq_true rfl) dX1_writeHexadecimal_24 ⟨(Nat.zero_le _), (Nat.zero_le _)⟩ (fun u H locs hg3 hP hD hS => ?_)
        obtain ⟨u3, w3⟩ := u
        try dsimp only at hg3
        have hP : va_P (dC, dI) azCl [(h0, .inr (1, [.ref ht, .int (nI n), .ref hw, .int (nI w3), .ref a1, .ref a2, .ref a3])), (hw, .inl (cW, 39, .inl u3))] H := hP
        have hD : va_D A [(h0, .inr (1, [.ref ht, .int (nI n), .ref hw, .int (nI w3), .ref a1, .ref a2, .ref a3])), (hw, .inl (cW, 39, .inl u3))] := hD
        have hq3 := hg3.1
        try simp only [List.length_append, List.length_cons, List.length_nil] at hq3
        refine lv_iinc (v := -4) (lv' := [(2, .int (-4)), (0, .ref h0), (1, .int (nI v))]) hx hb dX1_writeHexadecimal_27 hl (k := 0) rfl (by decide) (by decide) rfl (fun ls hl => ?_)
        refine lv_goto (tgt := 3) hx hb dX1_writeHexadecimal_30 (by decide) ?_
        refine lv_iload_n hx hb dX1_writeHexadecimal_3 rfl (lv_at hl 0 rfl) ?_
        refine lv_if_lt (tgt := 33) hx hb dX1_writeHexadecimal_4 (by decide) (fun _ => ?_) (fun c => absurd c (by decide))
        exact wt_v hx hb hr ((u3, w3)) (by have h := hg3; unfold az_hex; simp only [c14, c14x, c14xx, ne_eq, not_true_eq_false, not_false_eq_true, if_true, if_false, ite_true, ite_false, List.append_assoc, List.nil_append] at h ⊢; exact h) (hP.sub [0, 1] rfl) hK (hD.sub [0, 1] (by decide) rfl) hS dX1_writeHexadecimal_33 hlocks
  · refine lv_aload_n hx hb dX1_writeHexadecimal_17 rfl (lv_at hl 1 rfl) ?_
    refine lv_iload_n hx hb dX1_writeHexadecimal_18 rfl (lv_at hl 2 rfl) ?_
    refine lv_iload_n hx hb dX1_writeHexadecimal_19 rfl (lv_at hl 0 rfl) ?_
    refine lv_iushr (v := nI (v / 4096)) hx hb dX1_writeHexadecimal_20 (pk_ushrN (by omega) _ 12 (by decide)) ?_
    refine lv_bipush (v := nI 15) hx hb dX1_writeHexadecimal_21 (by decide) ?_
    refine lv_iand hx hb dX1_writeHexadecimal_23 ?_
    refine tp_i (nI ((v / 4096) % 16)) (pk_andN (by omega) 4 (by decide)) ?_
    refine wc_Vv (As := [.int (nI ((v / 4096) % 16))]) (rest := []) (wr := []) ⟨hx, hb, hml, hown, hts⟩ (ct_writeDigit l dC dI s.heap.size h0 ht hw a1 a2 a3 n w cW g O hg ((v / 4096) % 16) (by omega) (by omega)) (cwV 1 hts gX1_writeHexadecimal_X1_writeDigit rfl rfl rfl (by decide +kernel) ⟨Nat.le_of_ble_eq_true rfl, Nat.le_of_ble_eq_true rfl⟩) hP hD hK hS hA [0, 1] [] [0] rfl rfl (by decide) (by decide) (by decide) rfl 0 rfl rfl rfl hl.1 rfl (Nat.le_of_ble_eq_true rfl) dX1_writeHexadecimal_24 ⟨(Nat.zero_le _), (Nat.zero_le _)⟩ (fun u H locs hg1 hP hD hS => ?_)
    obtain ⟨u1, w1⟩ := u
    try dsimp only at hg1
    have hP : va_P (dC, dI) azCl [(h0, .inr (1, [.ref ht, .int (nI n), .ref hw, .int (nI w1), .ref a1, .ref a2, .ref a3])), (hw, .inl (cW, 39, .inl u1))] H := hP
    have hD : va_D A [(h0, .inr (1, [.ref ht, .int (nI n), .ref hw, .int (nI w1), .ref a1, .ref a2, .ref a3])), (hw, .inl (cW, 39, .inl u1))] := hD
    have hq1 := hg1.1
    try simp only [List.length_append, List.length_cons, List.length_nil] at hq1
    refine lv_iinc (v := nI 8) (lv' := [(2, .int (nI 8)), (0, .ref h0), (1, .int (nI v))]) hx hb dX1_writeHexadecimal_27 hl (k := 0) rfl (by decide) (by decide) rfl (fun ls hl => ?_)
    refine lv_goto (tgt := 3) hx hb dX1_writeHexadecimal_30 (by decide) ?_
    refine lv_iload_n hx hb dX1_writeHexadecimal_3 rfl (lv_at hl 0 rfl) ?_
    refine lv_if_lt (tgt := 33) hx hb dX1_writeHexadecimal_4 (by decide) (fun c => absurd c (by decide)) (fun _ => ?_)
    refine lv_iload_n hx hb dX1_writeHexadecimal_7 rfl (lv_at hl 0 rfl) ?_
    refine lv_if_eq (tgt := 17) hx hb dX1_writeHexadecimal_8 (by decide) (fun c => absurd c (by decide)) (fun _ => ?_)
    refine lv_iload_n hx hb dX1_writeHexadecimal_11 rfl (lv_at hl 2 rfl) ?_
    refine lv_iload_n hx hb dX1_writeHexadecimal_12 rfl (lv_at hl 0 rfl) ?_
    refine lv_iushr (v := nI (v / 256)) hx hb dX1_writeHexadecimal_13 (pk_ushrN (by omega) _ 8 (by decide)) ?_
    refine bz_eq (tgt := 27) hx hb dX1_writeHexadecimal_14 (by decide) (by omega) (fun c14x => ?_) (fun c14x => ?_)
    · refine lv_iinc (v := nI 4) (lv' := [(2, .int (nI 4)), (0, .ref h0), (1, .int (nI v))]) hx hb dX1_writeHexadecimal_27 hl (k := 0) rfl (by decide) (by decide) rfl (fun ls hl => ?_)
      refine lv_goto (tgt := 3) hx hb dX1_writeHexadecimal_30 (by decide) ?_
      refine lv_iload_n hx hb dX1_writeHexadecimal_3 rfl (lv_at hl 0 rfl) ?_
      refine lv_if_lt (tgt := 33) hx hb dX1_writeHexadecimal_4 (by decide) (fun c => absurd c (by decide)) (fun _ => ?_)
      refine lv_iload_n hx hb dX1_writeHexadecimal_7 rfl (lv_at hl 0 rfl) ?_
      refine lv_if_eq (tgt := 17) hx hb dX1_writeHexadecimal_8 (by decide) (fun c => absurd c (by decide)) (fun _ => ?_)
      refine lv_iload_n hx hb dX1_writeHexadecimal_11 rfl (lv_at hl 2 rfl) ?_
      refine lv_iload_n hx hb dX1_writeHexadecimal_12 rfl (lv_at hl 0 rfl) ?_
      refine lv_iushr (v := nI (v / 16)) hx hb dX1_writeHexadecimal_13 (pk_ushrN (by omega) _ 4 (by decide)) ?_
      refine bz_eq (tgt := 27) hx hb dX1_writeHexadecimal_14 (by decide) (by omega) (fun c14xx => ?_) (fun c14xx => ?_)
      · refine lv_iinc (v := nI 0) (lv' := [(2, .int (nI 0)), (0, .ref h0), (1, .int (nI v))]) hx hb dX1_writeHexadecimal_27 hl (k := 0) rfl (by decide) (by decide) rfl (fun ls hl => ?_)
        refine lv_goto (tgt := 3) hx hb dX1_writeHexadecimal_30 (by decide) ?_
        refine lv_iload_n hx hb dX1_writeHexadecimal_3 rfl (lv_at hl 0 rfl) ?_
        refine lv_if_lt (tgt := 33) hx hb dX1_writeHexadecimal_4 (by decide) (fun c => absurd c (by decide)) (fun _ => ?_)
        refine lv_iload_n hx hb dX1_writeHexadecimal_7 rfl (lv_at hl 0 rfl) ?_
        refine lv_if_eq (tgt := 17) hx hb dX1_writeHexadecimal_8 (by decide) (fun _ => ?_) (fun c => absurd c (by decide))
        refine lv_aload_n hx hb dX1_writeHexadecimal_17 rfl (lv_at hl 1 rfl) ?_
        refine lv_iload_n hx hb dX1_writeHexadecimal_18 rfl (lv_at hl 2 rfl) ?_
        refine lv_iload_n hx hb dX1_writeHexadecimal_19 rfl (lv_at hl 0 rfl) ?_
        refine lv_iushr (v := nI v) hx hb dX1_writeHexadecimal_20 ((pk_ushrN (by omega) _ 0 (by decide)).trans (congrArg nI (Nat.div_one v))) ?_
        refine lv_bipush (v := nI 15) hx hb dX1_writeHexadecimal_21 (by decide) ?_
        refine lv_iand hx hb dX1_writeHexadecimal_23 ?_
        refine tp_i (nI (v % 16)) (pk_andN (by omega) 4 (by decide)) ?_
        refine wc_Vv (As := [.int (nI (v % 16))]) (rest := []) (wr := []) ⟨hx, hb, hml, hown, hts⟩ (ct_writeDigit l dC dI H.size h0 ht hw a1 a2 a3 n w1 cW u1 (O ++ [az_ch ((v / 4096) % 16)]) hg1 (v % 16) (by omega) (by omega)) (cwV 1 hts gX1_writeHexadecimal_X1_writeDigit rfl rfl rfl (by decide +kernel) ⟨Nat.le_of_ble_eq_true rfl, Nat.le_of_ble_eq_true rfl⟩) hP hD hK hS hA [0, 1] [] [0] rfl rfl (by decide) (by decide) (by decide) rfl 0 rfl rfl rfl hl.1 rfl (Nat.le_of_ble_eq_true rfl) dX1_writeHexadecimal_24 ⟨(Nat.zero_le _), (Nat.zero_le _)⟩ (fun u H locs hg2 hP hD hS => ?_)
        obtain ⟨u2, w2⟩ := u
        try dsimp only at hg2
        have hP : va_P (dC, dI) azCl [(h0, .inr (1, [.ref ht, .int (nI n), .ref hw, .int (nI w2), .ref a1, .ref a2, .ref a3])), (hw, .inl (cW, 39, .inl u2))] H := hP
        have hD : va_D A [(h0, .inr (1, [.ref ht, .int (nI n), .ref hw, .int (nI w2), .ref a1, .ref a2, .ref a3])), (hw, .inl (cW, 39, .inl u2))] := hD
        have hq2 := hg2.1
        try simp only [List.length_append, List.length_cons, List.length_nil] at hq2
        refine lv_iinc (v := -4) (lv' := [(2, .int (-4)), (0, .ref h0), (1, .int (nI v))]) hx hb dX1_writeHexadecimal_27 hl (k := 0) rfl (by decide) (by decide) rfl (fun ls hl => ?_)
        refine lv_goto (tgt := 3) hx hb dX1_writeHexadecimal_30 (by decide) ?_
        refine lv_iload_n hx hb dX1_writeHexadecimal_3 rfl (lv_at hl 0 rfl) ?_
        refine lv_if_lt (tgt := 33) hx hb dX1_writeHexadecimal_4 (by decide) (fun _ => ?_) (fun c => absurd c (by decide))
        exact wt_v hx hb hr ((u2, w2)) (by have h := hg2; unfold az_hex; simp only [c14, c14x, c14xx, ne_eq, not_true_eq_false, not_false_eq_true, if_true, if_false, ite_true, ite_false, List.append_assoc, List.nil_append] at h ⊢; exact h) (hP.sub [0, 1] rfl) hK (hD.sub [0, 1] (by decide) rfl) hS dX1_writeHexadecimal_33 hlocks
      · refine lv_aload_n hx hb dX1_writeHexadecimal_17 rfl (lv_at hl 1 rfl) ?_
        refine lv_iload_n hx hb dX1_writeHexadecimal_18 rfl (lv_at hl 2 rfl) ?_
        refine lv_iload_n hx hb dX1_writeHexadecimal_19 rfl (lv_at hl 0 rfl) ?_
        refine lv_iushr (v := nI (v / 16)) hx hb dX1_writeHexadecimal_20 (pk_ushrN (by omega) _ 4 (by decide)) ?_
        refine lv_bipush (v := nI 15) hx hb dX1_writeHexadecimal_21 (by decide) ?_
        refine lv_iand hx hb dX1_writeHexadecimal_23 ?_
        refine tp_i (nI ((v / 16) % 16)) (pk_andN (by omega) 4 (by decide)) ?_
        refine wc_Vv (As := [.int (nI ((v / 16) % 16))]) (rest := []) (wr := []) ⟨hx, hb, hml, hown, hts⟩ (ct_writeDigit l dC dI H.size h0 ht hw a1 a2 a3 n w1 cW u1 (O ++ [az_ch ((v / 4096) % 16)]) hg1 ((v / 16) % 16) (by omega) (by omega)) (cwV 1 hts gX1_writeHexadecimal_X1_writeDigit rfl rfl rfl (by decide +kernel) ⟨Nat.le_of_ble_eq_true rfl, Nat.le_of_ble_eq_true rfl⟩) hP hD hK hS hA [0, 1] [] [0] rfl rfl (by decide) (by decide) (by decide) rfl 0 rfl rfl rfl hl.1 rfl (Nat.le_of_ble_eq_true rfl) dX1_writeHexadecimal_24 ⟨(Nat.zero_le _), (Nat.zero_le _)⟩ (fun u H locs hg2 hP hD hS => ?_)
        obtain ⟨u2, w2⟩ := u
        try dsimp only at hg2
        have hP : va_P (dC, dI) azCl [(h0, .inr (1, [.ref ht, .int (nI n), .ref hw, .int (nI w2), .ref a1, .ref a2, .ref a3])), (hw, .inl (cW, 39, .inl u2))] H := hP
        have hD : va_D A [(h0, .inr (1, [.ref ht, .int (nI n), .ref hw, .int (nI w2), .ref a1, .ref a2, .ref a3])), (hw, .inl (cW, 39, .inl u2))] := hD
        have hq2 := hg2.1
        try simp only [List.length_append, List.length_cons, List.length_nil] at hq2
        refine lv_iinc (v := nI 0) (lv' := [(2, .int (nI 0)), (0, .ref h0), (1, .int (nI v))]) hx hb dX1_writeHexadecimal_27 hl (k := 0) rfl (by decide) (by decide) rfl (fun ls hl => ?_)
        refine lv_goto (tgt := 3) hx hb dX1_writeHexadecimal_30 (by decide) ?_
        refine lv_iload_n hx hb dX1_writeHexadecimal_3 rfl (lv_at hl 0 rfl) ?_
        refine lv_if_lt (tgt := 33) hx hb dX1_writeHexadecimal_4 (by decide) (fun c => absurd c (by decide)) (fun _ => ?_)
        refine lv_iload_n hx hb dX1_writeHexadecimal_7 rfl (lv_at hl 0 rfl) ?_
        refine lv_if_eq (tgt := 17) hx hb dX1_writeHexadecimal_8 (by decide) (fun _ => ?_) (fun c => absurd c (by decide))
        refine lv_aload_n hx hb dX1_writeHexadecimal_17 rfl (lv_at hl 1 rfl) ?_
        refine lv_iload_n hx hb dX1_writeHexadecimal_18 rfl (lv_at hl 2 rfl) ?_
        refine lv_iload_n hx hb dX1_writeHexadecimal_19 rfl (lv_at hl 0 rfl) ?_
        refine lv_iushr (v := nI v) hx hb dX1_writeHexadecimal_20 ((pk_ushrN (by omega) _ 0 (by decide)).trans (congrArg nI (Nat.div_one v))) ?_
        refine lv_bipush (v := nI 15) hx hb dX1_writeHexadecimal_21 (by decide) ?_
        refine lv_iand hx hb dX1_writeHexadecimal_23 ?_
        refine tp_i (nI (v % 16)) (pk_andN (by omega) 4 (by decide)) ?_
        refine wc_Vv (As := [.int (nI (v % 16))]) (rest := []) (wr := []) ⟨hx, hb, hml, hown, hts⟩ (ct_writeDigit l dC dI H.size h0 ht hw a1 a2 a3 n w2 cW u2 ((O ++ [az_ch ((v / 4096) % 16)]) ++ [az_ch ((v / 16) % 16)]) hg2 (v % 16) (by omega) (by omega)) (cwV 1 hts gX1_writeHexadecimal_X1_writeDigit rfl rfl rfl (by decide +kernel) ⟨Nat.le_of_ble_eq_true rfl, Nat.le_of_ble_eq_true rfl⟩) hP hD hK hS hA [0, 1] [] [0] rfl rfl (by decide) (by decide) (by decide) rfl 0 rfl rfl rfl hl.1 rfl (Nat.le_of_ble_eq_true rfl) dX1_writeHexadecimal_24 ⟨(Nat.zero_le _), (Nat.zero_le _)⟩ (fun u H locs hg3 hP hD hS => ?_)
        obtain ⟨u3, w3⟩ := u
        try dsimp only at hg3
        have hP : va_P (dC, dI) azCl [(h0, .inr (1, [.ref ht, .int (nI n), .ref hw, .int (nI w3), .ref a1, .ref a2, .ref a3])), (hw, .inl (cW, 39, .inl u3))] H := hP
        have hD : va_D A [(h0, .inr (1, [.ref ht, .int (nI n), .ref hw, .int (nI w3), .ref a1, .ref a2, .ref a3])), (hw, .inl (cW, 39, .inl u3))] := hD
        have hq3 := hg3.1
        try simp only [List.length_append, List.length_cons, List.length_nil] at hq3
        refine lv_iinc (v := -4) (lv' := [(2, .int (-4)), (0, .ref h0), (1, .int (nI v))]) hx hb dX1_writeHexadecimal_27 hl (k := 0) rfl (by decide) (by decide) rfl (fun ls hl => ?_)
        refine lv_goto (tgt := 3) hx hb dX1_writeHexadecimal_30 (by decide) ?_
        refine lv_iload_n hx hb dX1_writeHexadecimal_3 rfl (lv_at hl 0 rfl) ?_
        refine lv_if_lt (tgt := 33) hx hb dX1_writeHexadecimal_4 (by decide) (fun _ => ?_) (fun c => absurd c (by decide))
        exact wt_v hx hb hr ((u3, w3)) (by have h := hg3; unfold az_hex; simp only [c14, c14x, c14xx, ne_eq, not_true_eq_false, not_false_eq_true, if_true, if_false, ite_true, ite_false, List.append_assoc, List.nil_append] at h ⊢; exact h) (hP.sub [0, 1] rfl) hK (hD.sub [0, 1] (by decide) rfl) hS dX1_writeHexadecimal_33 hlocks
    · refine lv_aload_n hx hb dX1_writeHexadecimal_17 rfl (lv_at hl 1 rfl) ?_
      refine lv_iload_n hx hb dX1_writeHexadecimal_18 rfl (lv_at hl 2 rfl) ?_
      refine lv_iload_n hx hb dX1_writeHexadecimal_19 rfl (lv_at hl 0 rfl) ?_
      refine lv_iushr (v := nI (v / 256)) hx hb dX1_writeHexadecimal_20 (pk_ushrN (by omega) _ 8 (by decide)) ?_
      refine lv_bipush (v := nI 15) hx hb dX1_writeHexadecimal_21 (by decide) ?_
      refine lv_iand hx hb dX1_writeHexadecimal_23 ?_
      refine tp_i (nI ((v / 256) % 16)) (pk_andN (by omega) 4 (by decide)) ?_
      refine wc_Vv (As := [.int (nI ((v / 256) % 16))]) (rest := []) (wr := []) ⟨hx, hb, hml, hown, hts⟩ (ct_writeDigit l dC dI H.size h0 ht hw a1 a2 a3 n w1 cW u1 (O ++ [az_ch ((v / 4096) % 16)]) hg1 ((v / 256) % 16) (by omega) (by omega)) (cwV 1 hts gX1_writeHexadecimal_X1_writeDigit rfl rfl rfl (by decide +kernel) ⟨Nat.le_of_ble_eq_true rfl, Nat.le_of_ble_eq_true rfl⟩) hP hD hK hS hA [0, 1] [] [0] rfl rfl (by decide) (by decide) (by decide) rfl 0 rfl rfl rfl hl.1 rfl (Nat.le_of_ble_eq_true rfl) dX1_writeHexadecimal_24 ⟨(Nat.zero_le _), (Nat.zero_le _)⟩ (fun u H locs hg2 hP hD hS => ?_)
      obtain ⟨u2, w2⟩ := u
      try dsimp only at hg2
      have hP : va_P (dC, dI) azCl [(h0, .inr (1, [.ref ht, .int (nI n), .ref hw, .int (nI w2), .ref a1, .ref a2, .ref a3])), (hw, .inl (cW, 39, .inl u2))] H := hP
      have hD : va_D A [(h0, .inr (1, [.ref ht, .int (nI n), .ref hw, .int (nI w2), .ref a1, .ref a2, .ref a3])), (hw, .inl (cW, 39, .inl u2))] := hD
      have hq2 := hg2.1
      try simp only [List.length_append, List.length_cons, List.length_nil] at hq2
      refine lv_iinc (v := nI 4) (lv' := [(2, .int (nI 4)), (0, .ref h0), (1, .int (nI v))]) hx hb dX1_writeHexadecimal_27 hl (k := 0) rfl (by decide) (by decide) rfl (fun ls hl => ?_)
      refine lv_goto (tgt := 3) hx hb dX1_writeHexadecimal_30 (by decide) ?_
      refine lv_iload_n hx hb dX1_writeHexadecimal_3 rfl (lv_at hl 0 rfl) ?_
      refine lv_if_lt (tgt := 33) hx hb dX1_writeHexadecimal_4 (by decide) (fun c => absurd c (by decide)) (fun _ => ?_)
      refine lv_iload_n hx hb dX1_writeHexadecimal_7 rfl (lv_at hl 0 rfl) ?_
      refine lv_if_eq (tgt := 17) hx hb dX1_writeHexadecimal_8 (by decide) (fun c => absurd c (by decide)) (fun _ => ?_)
      refine lv_iload_n hx hb dX1_writeHexadecimal_11 rfl (lv_at hl 2 rfl) ?_
      refine lv_iload_n hx hb dX1_writeHexadecimal_12 rfl (lv_at hl 0 rfl) ?_
      refine lv_iushr (v := nI (v / 16)) hx hb dX1_writeHexadecimal_13 (pk_ushrN (by omega) _ 4 (by decide)) ?_
      refine bz_eq (tgt := 27) hx hb dX1_writeHexadecimal_14 (by decide) (by omega) (fun c14xx => ?_) (fun c14xx => ?_)
      · refine lv_iinc (v := nI 0) (lv' := [(2, .int (nI 0)), (0, .ref h0), (1, .int (nI v))]) hx hb dX1_writeHexadecimal_27 hl (k := 0) rfl (by decide) (by decide) rfl (fun ls hl => ?_)
        refine lv_goto (tgt := 3) hx hb dX1_writeHexadecimal_30 (by decide) ?_
        refine lv_iload_n hx hb dX1_writeHexadecimal_3 rfl (lv_at hl 0 rfl) ?_
        refine lv_if_lt (tgt := 33) hx hb dX1_writeHexadecimal_4 (by decide) (fun c => absurd c (by decide)) (fun _ => ?_)
        refine lv_iload_n hx hb dX1_writeHexadecimal_7 rfl (lv_at hl 0 rfl) ?_
        refine lv_if_eq (tgt := 17) hx hb dX1_writeHexadecimal_8 (by decide) (fun _ => ?_) (fun c => absurd c (by decide))
        refine lv_aload_n hx hb dX1_writeHexadecimal_17 rfl (lv_at hl 1 rfl) ?_
        refine lv_iload_n hx hb dX1_writeHexadecimal_18 rfl (lv_at hl 2 rfl) ?_
        refine lv_iload_n hx hb dX1_writeHexadecimal_19 rfl (lv_at hl 0 rfl) ?_
        refine lv_iushr (v := nI v) hx hb dX1_writeHexadecimal_20 ((pk_ushrN (by omega) _ 0 (by decide)).trans (congrArg nI (Nat.div_one v))) ?_
        refine lv_bipush (v := nI 15) hx hb dX1_writeHexadecimal_21 (by decide) ?_
        refine lv_iand hx hb dX1_writeHexadecimal_23 ?_
        refine tp_i (nI (v % 16)) (pk_andN (by omega) 4 (by decide)) ?_
        refine wc_Vv (As := [.int (nI (v % 16))]) (rest := []) (wr := []) ⟨hx, hb, hml, hown, hts⟩ (ct_writeDigit l dC dI H.size h0 ht hw a1 a2 a3 n w2 cW u2 ((O ++ [az_ch ((v / 4096) % 16)]) ++ [az_ch ((v / 256) % 16)]) hg2 (v % 16) (by omega) (by omega)) (cwV 1 hts gX1_writeHexadecimal_X1_writeDigit rfl rfl rfl (by decide +kernel) ⟨Nat.le_of_ble_eq_true rfl, Nat.le_of_ble_eq_true rfl⟩) hP hD hK hS hA [0, 1] [] [0] rfl rfl (by decide) (by decide) (by decide) rfl 0 rfl rfl rfl hl.1 rfl (Nat.le_of_ble_eq_true rfl) dX1_writeHexadecimal_24 ⟨(Nat.zero_le _), (Nat.zero_le _)⟩ (fun u H locs hg3 hP hD hS => ?_)
        obtain ⟨u3, w3⟩ := u
        try dsimp only at hg3
        have hP : va_P (dC, dI) azCl [(h0, .inr (1, [.ref ht, .int (nI n), .ref hw, .int (nI w3), .ref a1, .ref a2, .ref a3])), (hw, .inl (cW, 39, .inl u3))] H := hP
        have hD : va_D A [(h0, .inr (1, [.ref ht, .int (nI n), .ref hw, .int (nI w3), .ref a1, .ref a2, .ref a3])), (hw, .inl (cW, 39, .inl u3))] := hD
        have hq3 := hg3.1
        try simp only [List.length_append, List.length_cons, List.length_nil] at hq3
        refine lv_iinc (v := -4) (lv' := [(2, .int (-4)), (0, .ref h0), (1, .int (nI v))]) hx hb dX1_writeHexadecimal_27 hl (k := 0) rfl (by decide) (by decide) rfl (fun ls hl => ?_)
        refine lv_goto (tgt := 3) hx hb dX1_writeHexadecimal_30 (by decide) ?_
        refine lv_iload_n hx hb dX1_writeHexadecimal_3 rfl (lv_at hl 0 rfl) ?_
        refine lv_if_lt (tgt := 33) hx hb dX1_writeHexadecimal_4 (by decide) (fun _ => ?_) (fun c => absurd c (by decide))
        exact wt_v hx hb hr ((u3, w3)) (by have h := hg3; unfold az_hex; simp only [c14, c14x, c14xx, ne_eq, not_true_eq_false, not_false_eq_true, if_true, if_false, ite_true, ite_false, List.append_assoc, List.nil_append] at h ⊢; exact h) (hP.sub [0, 1] rfl) hK (hD.sub [0, 1] (by decide) rfl) hS dX1_writeHexadecimal_33 hlocks
      · refine lv_aload_n hx hb dX1_writeHexadecimal_17 rfl (lv_at hl 1 rfl) ?_
        refine lv_iload_n hx hb dX1_writeHexadecimal_18 rfl (lv_at hl 2 rfl) ?_
        refine lv_iload_n hx hb dX1_writeHexadecimal_19 rfl (lv_at hl 0 rfl) ?_
        refine lv_iushr (v := nI (v / 16)) hx hb dX1_writeHexadecimal_20 (pk_ushrN (by omega) _ 4 (by decide)) ?_
        refine lv_bipush (v := nI 15) hx hb dX1_writeHexadecimal_21 (by decide) ?_
        refine lv_iand hx hb dX1_writeHexadecimal_23 ?_
        refine tp_i (nI ((v / 16) % 16)) (pk_andN (by omega) 4 (by decide)) ?_
        refine wc_Vv (As := [.int (nI ((v / 16) % 16))]) (rest := []) (wr := []) ⟨hx, hb, hml, hown, hts⟩ (ct_writeDigit l dC dI H.size h0 ht hw a1 a2 a3 n w2 cW u2 ((O ++ [az_ch ((v / 4096) % 16)]) ++ [az_ch ((v / 256) % 16)]) hg2 ((v / 16) % 16) (by omega) (by omega)) (cwV 1 hts gX1_writeHexadecimal_X1_writeDigit rfl rfl rfl (by decide +kernel) ⟨Nat.le_of_ble_eq_true rfl, Nat.le_of_ble_eq_true rfl⟩) hP hD hK hS hA [0, 1] [] [0] rfl rfl (by decide) (by decide) (by decide) rfl 0 rfl rfl rfl hl.1 rfl (Nat.le_of_ble_eq_true rfl) dX1_writeHexadecimal_24 ⟨(Nat.zero_le _), (Nat.zero_le _)⟩ (fun u H locs hg3 hP hD hS => ?_)
        obtain ⟨u3, w3⟩ := u
        try dsimp only at hg3
        have hP : va_P (dC, dI) azCl [(h0, .inr (1, [.ref ht, .int (nI n), .ref hw, .int (nI w3), .ref a1, .ref a2, .ref a3])), (hw, .inl (cW, 39, .inl u3))] H := hP
        have hD : va_D A [(h0, .inr (1, [.ref ht, .int (nI n), .ref hw, .int (nI w3), .ref a1, .ref a2, .ref a3])), (hw, .inl (cW, 39, .inl u3))] := hD
        have hq3 := hg3.1
        try simp only [List.length_append, List.length_cons, List.length_nil] at hq3
        refine lv_iinc (v := nI 0) (lv' := [(2, .int (nI 0)), (0, .ref h0), (1, .int (nI v))]) hx hb dX1_writeHexadecimal_27 hl (k := 0) rfl (by decide) (by decide) rfl (fun ls hl => ?_)
        refine lv_goto (tgt := 3) hx hb dX1_writeHexadecimal_30 (by decide) ?_
        refine lv_iload_n hx hb dX1_writeHexadecimal_3 rfl (lv_at hl 0 rfl) ?_
        refine lv_if_lt (tgt := 33) hx hb dX1_writeHexadecimal_4 (by decide) (fun c => absurd c (by decide)) (fun _ => ?_)
        refine lv_iload_n hx hb dX1_writeHexadecimal_7 rfl (lv_at hl 0 rfl) ?_
        refine lv_if_eq (tgt := 17) hx hb dX1_writeHexadecimal_8 (by decide) (fun _ => ?_) (fun c => absurd c (by decide))
        refine lv_aload_n hx hb dX1_writeHexadecimal_17 rfl (lv_at hl 1 rfl) ?_
        refine lv_iload_n hx hb dX1_writeHexadecimal_18 rfl (lv_at hl 2 rfl) ?_
        refine lv_iload_n hx hb dX1_writeHexadecimal_19 rfl (lv_at hl 0 rfl) ?_
        refine lv_iushr (v := nI v) hx hb dX1_writeHexadecimal_20 ((pk_ushrN (by omega) _ 0 (by decide)).trans (congrArg nI (Nat.div_one v))) ?_
        refine lv_bipush (v := nI 15) hx hb dX1_writeHexadecimal_21 (by decide) ?_
        refine lv_iand hx hb dX1_writeHexadecimal_23 ?_
        refine tp_i (nI (v % 16)) (pk_andN (by omega) 4 (by decide)) ?_
        refine wc_Vv (As := [.int (nI (v % 16))]) (rest := []) (wr := []) ⟨hx, hb, hml, hown, hts⟩ (ct_writeDigit l dC dI H.size h0 ht hw a1 a2 a3 n w3 cW u3 (((O ++ [az_ch ((v / 4096) % 16)]) ++ [az_ch ((v / 256) % 16)]) ++ [az_ch ((v / 16) % 16)]) hg3 (v % 16) (by omega) (by omega)) (cwV 1 hts gX1_writeHexadecimal_X1_writeDigit rfl rfl rfl (by decide +kernel) ⟨Nat.le_of_ble_eq_true rfl, Nat.le_of_ble_eq_true rfl⟩) hP hD hK hS hA [0, 1] [] [0] rfl rfl (by decide) (by decide) (by decide) rfl 0 rfl rfl rfl hl.1 rfl (Nat.le_of_ble_eq_true rfl) dX1_writeHexadecimal_24 ⟨(Nat.zero_le _), (Nat.zero_le _)⟩ (fun u H locs hg4 hP hD hS => ?_)
        obtain ⟨u4, w4⟩ := u
        try dsimp only at hg4
        have hP : va_P (dC, dI) azCl [(h0, .inr (1, [.ref ht, .int (nI n), .ref hw, .int (nI w4), .ref a1, .ref a2, .ref a3])), (hw, .inl (cW, 39, .inl u4))] H := hP
        have hD : va_D A [(h0, .inr (1, [.ref ht, .int (nI n), .ref hw, .int (nI w4), .ref a1, .ref a2, .ref a3])), (hw, .inl (cW, 39, .inl u4))] := hD
        have hq4 := hg4.1
        try simp only [List.length_append, List.length_cons, List.length_nil] at hq4
        refine lv_iinc (v := -4) (lv' := [(2, .int (-4)), (0, .ref h0), (1, .int (nI v))]) hx hb dX1_writeHexadecimal_27 hl (k := 0) rfl (by decide) (by decide) rfl (fun ls hl => ?_)
        refine lv_goto (tgt := 3) hx hb dX1_writeHexadecimal_30 (by decide) ?_
        refine lv_iload_n hx hb dX1_writeHexadecimal_3 rfl (lv_at hl 0 rfl) ?_
        refine lv_if_lt (tgt := 33) hx hb dX1_writeHexadecimal_4 (by decide) (fun _ => ?_) (fun c => absurd c (by decide))
        exact wt_v hx hb hr ((u4, w4)) (by have h := hg4; unfold az_hex; simp only [c14, c14x, c14xx, ne_eq, not_true_eq_false, not_false_eq_true, if_true, if_false, ite_true, ite_false, List.append_assoc, List.nil_append] at h ⊢; exact h) (hP.sub [0, 1] rfl) hK (hD.sub [0, 1] (by decide) rfl) hS dX1_writeHexadecimal_33 hlocks
set_option maxRecDepth 100000 in
set_option maxHeartbeats 4000000 in
/-- writeNumbers() -/
theorem ct_writeNumbers (l : Launch) (dC : Nat → ClassId) (dI : Nat → Nat → Nat) (sz : Nat) (h0 ht hw a1 a2 a3 n : Nat) (cW : ClassId) (g : Nat → Int32) (fm ln V : Nat) (hV : V < 4294967296) : Met l yX1_writeNumbers wsX1_writeNumbers ({ frames := 3, cells := 0, slots := 0, locals := 63 }) (wr_P (dC, dI) azCl [(h0, .inr (1, [.ref ht, .int (nI n), .ref hw, .int (nI 0), .ref a1, .ref a2, .ref a3])), (hw, .inl (cW, 39, .inl g)), (a1, .inr (0, [.int (nI fm), .int (nI ln), .long (lN (V / 18446744073709551616)), .long (lN (V % 18446744073709551616))]))] [(cW, .byte)] sz [.ref h0]) (va_Qv (fun u => az_ou u.1 (az_w4 V) u.2) (wr_B (dC, dI) azCl [(cW, .byte)] (va_A [(h0, .inr (1, [.ref ht, .int (nI n), .ref hw, .int (nI 0), .ref a1, .ref a2, .ref a3])), (hw, .inl (cW, 39, .inl g)), (a1, .inr (0, [.int (nI fm), .int (nI ln), .long (lN (V / 18446744073709551616)), .long (lN (V % 18446744073709551616))]))] sz) (fun u : (Nat → Int32) × Nat => [(h0, .inr (1, [.ref ht, .int (nI n), .ref hw, .int (nI u.2), .ref a1, .ref a2, .ref a3])), (hw, .inl (cW, 39, .inl u.1)), (a1, .inr (0, [.int (nI fm), .int (nI ln), .long (lN (V / 18446744073709551616)), .long (lN (V % 18446744073709551616))]))])) (va_A [(h0, .inr (1, [.ref ht, .int (nI n), .ref hw, .int (nI 0), .ref a1, .ref a2, .ref a3])), (hw, .inl (cW, 39, .inl g)), (a1, .inr (0, [.int (nI fm), .int (nI ln), .long (lN (V / 18446744073709551616)), .long (lN (V % 18446744073709551616))]))] sz)) 0 0 (va_A [(h0, .inr (1, [.ref ht, .int (nI n), .ref hw, .int (nI 0), .ref a1, .ref a2, .ref a3])), (hw, .inl (cW, 39, .inl g)), (a1, .inr (0, [.int (nI fm), .int (nI ln), .long (lN (V / 18446744073709551616)), .long (lN (V % 18446744073709551616))]))] sz) := by
  refine Met.ofW (cc := cX1_writeNumbers) (maxL := 2) (ret := none) (by decide) rfl ?_
  intro p e s m args below meth c s₁ Bd hml hv
  obtain ⟨rfl, hsz, hP, hK, hD0⟩ := hv
  have hx := Bd.exec
  have hb := Bd.bytes
  have hr := Bd.returns
  have hts := atoms_spec (ws := wsX1_writeNumbers) Bd.pre
  have hown : s.vm.findClass RX1 = some m.cls := findClass_of_methodNamed Bd.named
  have hlocks := Bd.notSynchronized
  subst hsz
  have hD := hD0.self (sz := s.heap.size)
  generalize hAe : va_A [(h0, .inr (1, [.ref ht, .int (nI n), .ref hw, .int (nI 0), .ref a1, .ref a2, .ref a3])), (hw, .inl (cW, 39, .inl g)), (a1, .inr (0, [.int (nI fm), .int (nI ln), .long (lN (V / 18446744073709551616)), .long (lN (V % 18446744073709551616))]))] s.heap.size = A at hD ⊢
  have hA : ∀ q : Nat, s.heap.size ≤ q → A q := fun q h => by rw [← hAe]; exact Or.inr h
  have hS : va_S A s.heap s.heap [] := va_S.rf
  have hP : va_P (dC, dI) azCl [(h0, .inr (1, [.ref ht, .int (nI n), .ref hw, .int (nI 0), .ref a1, .ref a2, .ref a3])), (hw, .inl (cW, 39, .inl g)), (a1, .inr (0, [.int (nI fm), .int (nI ln), .long (lN (V / 18446744073709551616)), .long (lN (V % 18446744073709551616))]))] s.heap := hP
  have hiX1 : ∀ w ∈ wsX10, w ∈ wsX1_writeNumbers := by decide +kernel
  have hiX0 : ∀ w ∈ wsX00, w ∈ wsX1_writeNumbers := by decide +kernel
  have hf26 := hts (.fieldLink RX1 26 "AddressTexts" "one" "LAddressTexts$Address;") (by decide +kernel)
  have hf66 := hts (.fieldLink RX1 66 "AddressTexts$Address" "lower" "J") (by decide +kernel)
  have hl := lv_entry ([.ref h0]) (n := 2) (Nat.le_of_ble_eq_true rfl)
  rw [lg_entry_eq]
  generalize (lg_sl ([.ref h0]) ++ List.replicate (2 - (lg_sl ([.ref h0])).length) Slot.unset).toArray = ls at hl ⊢
  have hl : lv_has ls 2 [(0, .ref h0)] := hl
  refine lv_iconst (v := nI 0) hx hb dX1_writeNumbers_0 (by decide) ?_
  refine lv_istore_n (lv' := [(1, .int (nI 0)), (0, .ref h0)]) hx hb dX1_writeNumbers_1 rfl hl (by decide) rfl (fun ls hl => ?_)
  refine lv_iload_n hx hb dX1_writeNumbers_2 rfl (lv_at hl 0 rfl) ?_
  refine lv_iconst (v := nI 4) hx hb dX1_writeNumbers_3 (by decide) ?_
  refine lv_icmp_ge (tgt := 47) hx hb dX1_writeNumbers_4 (by decide) (fun c => absurd c (by decide)) (fun _ => ?_)
  refine lv_iload_n hx hb dX1_writeNumbers_7 rfl (lv_at hl 0 rfl) ?_
  refine lv_if_le (tgt := 17) hx hb dX1_writeNumbers_8 (by decide) (fun _ => ?_) (fun c => absurd c (by decide))
  refine lv_aload_n hx hb dX1_writeNumbers_17 rfl (lv_at hl 1 rfl) ?_
  refine lv_aload_n hx hb dX1_writeNumbers_18 rfl (lv_at hl 1 rfl) ?_
  refine va_get (D := (dC, dI)) (ci := 1) (v := .ref a1) (C := RX1) (T := TX1) (N := 7) hx hb hts hiX1 hown hK hP 0 rfl rfl 4 (by decide) hf26 (fun _ h9 => h9) rfl dX1_writeNumbers_19 ?_
  refine va_get (D := (dC, dI)) (ci := 0) (v := .long (lN (V % 18446744073709551616))) (C := RX0) (T := TX0) (N := 4) hx hb hts hiX0 hown hK hP 2 rfl rfl 3 (by decide) hf66 (fun _ h9 => h9) rfl dX1_writeNumbers_22 ?_
  refine lv_bipush (v := nI 24) hx hb dX1_writeNumbers_25 (by decide) ?_
  refine lv_bipush (v := nI 8) hx hb dX1_writeNumbers_27 (by decide) ?_
  refine lv_iload_n hx hb dX1_writeNumbers_29 rfl (lv_at hl 0 rfl) ?_
  refine lv_imul hx hb dX1_writeNumbers_30 ?_
  refine tp_i (nI 0) (by decide) ?_
  refine lv_isub hx hb dX1_writeNumbers_31 ?_
  refine tp_i (nI 24) (by decide) ?_
  refine lv_lushr (v := lN ((V % 18446744073709551616) / 16777216)) hx hb dX1_writeNumbers_32 (wb_shr (k := 24) (by omega) (by omega)) ?_
  refine lv_l2i (v := nI ((V % 18446744073709551616) / 16777216)) hx hb dX1_writeNumbers_33 (lN_i _) ?_
  refine lv_sipush (v := nI 255) hx hb dX1_writeNumbers_34 (by decide) ?_
  refine lv_iand hx hb dX1_writeNumbers_37 ?_
  refine tp_i (nI (V / 16777216 % 256)) ((pk_andN (by omega) 8 (by decide)).trans (congrArg nI (by omega))) ?_
  have hd1 := az_dec_le (V / 16777216 % 256)
  refine wc_Vv (As := [.int (nI (V / 16777216 % 256))]) (rest := []) (wr := [(a1, .inr (0, [.int (nI fm), .int (nI ln), .long (lN (V / 18446744073709551616)), .long (lN (V % 18446744073709551616))]))]) ⟨hx, hb, hml, hown, hts⟩ (ct_writeDecimal l dC dI s.heap.size h0 ht hw a1 a2 a3 n 0 cW g ([]) (az_ou_0 g) (V / 16777216 % 256) (by omega) (by omega)) (cwV 1 hts gX1_writeNumbers_X1_writeDecimal rfl rfl rfl (by decide +kernel) ⟨Nat.le_of_ble_eq_true rfl, Nat.le_of_ble_eq_true rfl⟩) hP hD hK hS hA [0, 1] [2] [0] rfl rfl (by decide) (by decide) (by decide) rfl 0 rfl rfl rfl hl.1 rfl (Nat.le_of_ble_eq_true rfl) dX1_writeNumbers_38 ⟨(Nat.zero_le _), (Nat.zero_le _)⟩ (fun u H locs hg1 hP hD hS => ?_)
  obtain ⟨u1, w1⟩ := u
  try dsimp only at hg1
  have hP : va_P (dC, dI) azCl [(a1, .inr (0, [.int (nI fm), .int (nI ln), .long (lN (V / 18446744073709551616)), .long (lN (V % 18446744073709551616))])), (h0, .inr (1, [.ref ht, .int (nI n), .ref hw, .int (nI w1), .ref a1, .ref a2, .ref a3])), (hw, .inl (cW, 39, .inl u1))] H := hP
  have hD : va_D A [(a1, .inr (0, [.int (nI fm), .int (nI ln), .long (lN (V / 18446744073709551616)), .long (lN (V % 18446744073709551616))])), (h0, .inr (1, [.ref ht, .int (nI n), .ref hw, .int (nI w1), .ref a1, .ref a2, .ref a3])), (hw, .inl (cW, 39, .inl u1))] := hD
  have hq1 := hg1.1
  try simp only [List.length_append, List.length_cons, List.length_nil] at hq1
  refine lv_iinc (v := nI 1) (lv' := [(1, .int (nI 1)), (0, .ref h0)]) hx hb dX1_writeNumbers_41 hl (k := 0) rfl (by decide) (by decide) rfl (fun ls hl => ?_)
  refine lv_goto (tgt := 2) hx hb dX1_writeNumbers_44 (by decide) ?_
  refine lv_iload_n hx hb dX1_writeNumbers_2 rfl (lv_at hl 0 rfl) ?_
  refine lv_iconst (v := nI 4) hx hb dX1_writeNumbers_3 (by decide) ?_
  refine lv_icmp_ge (tgt := 47) hx hb dX1_writeNumbers_4 (by decide) (fun c => absurd c (by decide)) (fun _ => ?_)
  refine lv_iload_n hx hb dX1_writeNumbers_7 rfl (lv_at hl 0 rfl) ?_
  refine lv_if_le (tgt := 17) hx hb dX1_writeNumbers_8 (by decide) (fun c => absurd c (by decide)) (fun _ => ?_)
  refine lv_aload_n hx hb dX1_writeNumbers_11 rfl (lv_at hl 1 rfl) ?_
  refine lv_bipush (v := nI 46) hx hb dX1_writeNumbers_12 (by decide) ?_
  refine wc_Vv (As := [.int (nI 46)]) (rest := []) (wr := [(a1, .inr (0, [.int (nI fm), .int (nI ln), .long (lN (V / 18446744073709551616)), .long (lN (V % 18446744073709551616))]))]) ⟨hx, hb, hml, hown, hts⟩ (ct_writeByte l dC dI H.size h0 ht hw a1 a2 a3 n w1 cW u1 (([]) ++ (az_dec (V / 16777216 % 256))) hg1 46 (by omega) (by omega)) (cwV 1 hts gX1_writeNumbers_X1_writeByte rfl rfl rfl (by decide +kernel) ⟨Nat.le_of_ble_eq_true rfl, Nat.le_of_ble_eq_true rfl⟩) hP hD hK hS hA [1, 2] [0] [0] rfl rfl (by decide) (by decide) (by decide) rfl 0 rfl rfl rfl hl.1 rfl (Nat.le_of_ble_eq_true rfl) dX1_writeNumbers_14 ⟨(Nat.zero_le _), (Nat.zero_le _)⟩ (fun u H locs hg2 hP hD hS => ?_)
  obtain ⟨u2, w2⟩ := u
  try dsimp only at hg2
  have hP : va_P (dC, dI) azCl [(a1, .inr (0, [.int (nI fm), .int (nI ln), .long (lN (V / 18446744073709551616)), .long (lN (V % 18446744073709551616))])), (h0, .inr (1, [.ref ht, .int (nI n), .ref hw, .int (nI w2), .ref a1, .ref a2, .ref a3])), (hw, .inl (cW, 39, .inl u2))] H := hP
  have hD : va_D A [(a1, .inr (0, [.int (nI fm), .int (nI ln), .long (lN (V / 18446744073709551616)), .long (lN (V % 18446744073709551616))])), (h0, .inr (1, [.ref ht, .int (nI n), .ref hw, .int (nI w2), .ref a1, .ref a2, .ref a3])), (hw, .inl (cW, 39, .inl u2))] := hD
  have hq2 := hg2.1
  try simp only [List.length_append, List.length_cons, List.length_nil] at hq2
  refine lv_aload_n hx hb dX1_writeNumbers_17 rfl (lv_at hl 1 rfl) ?_
  refine lv_aload_n hx hb dX1_writeNumbers_18 rfl (lv_at hl 1 rfl) ?_
  refine va_get (D := (dC, dI)) (ci := 1) (v := .ref a1) (C := RX1) (T := TX1) (N := 7) hx hb hts hiX1 hown hK hP 1 rfl rfl 4 (by decide) hf26 (fun _ h9 => h9) rfl dX1_writeNumbers_19 ?_
  refine va_get (D := (dC, dI)) (ci := 0) (v := .long (lN (V % 18446744073709551616))) (C := RX0) (T := TX0) (N := 4) hx hb hts hiX0 hown hK hP 0 rfl rfl 3 (by decide) hf66 (fun _ h9 => h9) rfl dX1_writeNumbers_22 ?_
  refine lv_bipush (v := nI 24) hx hb dX1_writeNumbers_25 (by decide) ?_
  refine lv_bipush (v := nI 8) hx hb dX1_writeNumbers_27 (by decide) ?_
  refine lv_iload_n hx hb dX1_writeNumbers_29 rfl (lv_at hl 0 rfl) ?_
  refine lv_imul hx hb dX1_writeNumbers_30 ?_
  refine tp_i (nI 8) (by decide) ?_
  refine lv_isub hx hb dX1_writeNumbers_31 ?_
  refine tp_i (nI 16) (by decide) ?_
  refine lv_lushr (v := lN ((V % 18446744073709551616) / 65536)) hx hb dX1_writeNumbers_32 (wb_shr (k := 16) (by omega) (by omega)) ?_
  refine lv_l2i (v := nI ((V % 18446744073709551616) / 65536)) hx hb dX1_writeNumbers_33 (lN_i _) ?_
  refine lv_sipush (v := nI 255) hx hb dX1_writeNumbers_34 (by decide) ?_
  refine lv_iand hx hb dX1_writeNumbers_37 ?_
  refine tp_i (nI (V / 65536 % 256)) ((pk_andN (by omega) 8 (by decide)).trans (congrArg nI (by omega))) ?_
  have hd3 := az_dec_le (V / 65536 % 256)
  refine wc_Vv (As := [.int (nI (V / 65536 % 256))]) (rest := []) (wr := [(a1, .inr (0, [.int (nI fm), .int (nI ln), .long (lN (V / 18446744073709551616)), .long (lN (V % 18446744073709551616))]))]) ⟨hx, hb, hml, hown, hts⟩ (ct_writeDecimal l dC dI H.size h0 ht hw a1 a2 a3 n w2 cW u2 ((([]) ++ (az_dec (V / 16777216 % 256))) ++ [46]) hg2 (V / 65536 % 256) (by omega) (by omega)) (cwV 1 hts gX1_writeNumbers_X1_writeDecimal rfl rfl rfl (by decide +kernel) ⟨Nat.le_of_ble_eq_true rfl, Nat.le_of_ble_eq_true rfl⟩) hP hD hK hS hA [1, 2] [0] [0] rfl rfl (by decide) (by decide) (by decide) rfl 0 rfl rfl rfl hl.1 rfl (Nat.le_of_ble_eq_true rfl) dX1_writeNumbers_38 ⟨(Nat.zero_le _), (Nat.zero_le _)⟩ (fun u H locs hg3 hP hD hS => ?_)
  obtain ⟨u3, w3⟩ := u
  try dsimp only at hg3
  have hP : va_P (dC, dI) azCl [(a1, .inr (0, [.int (nI fm), .int (nI ln), .long (lN (V / 18446744073709551616)), .long (lN (V % 18446744073709551616))])), (h0, .inr (1, [.ref ht, .int (nI n), .ref hw, .int (nI w3), .ref a1, .ref a2, .ref a3])), (hw, .inl (cW, 39, .inl u3))] H := hP
  have hD : va_D A [(a1, .inr (0, [.int (nI fm), .int (nI ln), .long (lN (V / 18446744073709551616)), .long (lN (V % 18446744073709551616))])), (h0, .inr (1, [.ref ht, .int (nI n), .ref hw, .int (nI w3), .ref a1, .ref a2, .ref a3])), (hw, .inl (cW, 39, .inl u3))] := hD
  have hq3 := hg3.1
  try simp only [List.length_append, List.length_cons, List.length_nil] at hq3
  refine lv_iinc (v := nI 2) (lv' := [(1, .int (nI 2)), (0, .ref h0)]) hx hb dX1_writeNumbers_41 hl (k := 0) rfl (by decide) (by decide) rfl (fun ls hl => ?_)
  refine lv_goto (tgt := 2) hx hb dX1_writeNumbers_44 (by decide) ?_
  refine lv_iload_n hx hb dX1_writeNumbers_2 rfl (lv_at hl 0 rfl) ?_
  refine lv_iconst (v := nI 4) hx hb dX1_writeNumbers_3 (by decide) ?_
  refine lv_icmp_ge (tgt := 47) hx hb dX1_writeNumbers_4 (by decide) (fun c => absurd c (by decide)) (fun _ => ?_)
  refine lv_iload_n hx hb dX1_writeNumbers_7 rfl (lv_at hl 0 rfl) ?_
  refine lv_if_le (tgt := 17) hx hb dX1_writeNumbers_8 (by decide) (fun c => absurd c (by decide)) (fun _ => ?_)
  refine lv_aload_n hx hb dX1_writeNumbers_11 rfl (lv_at hl 1 rfl) ?_
  refine lv_bipush (v := nI 46) hx hb dX1_writeNumbers_12 (by decide) ?_
  refine wc_Vv (As := [.int (nI 46)]) (rest := []) (wr := [(a1, .inr (0, [.int (nI fm), .int (nI ln), .long (lN (V / 18446744073709551616)), .long (lN (V % 18446744073709551616))]))]) ⟨hx, hb, hml, hown, hts⟩ (ct_writeByte l dC dI H.size h0 ht hw a1 a2 a3 n w3 cW u3 (((([]) ++ (az_dec (V / 16777216 % 256))) ++ [46]) ++ (az_dec (V / 65536 % 256))) hg3 46 (by omega) (by omega)) (cwV 1 hts gX1_writeNumbers_X1_writeByte rfl rfl rfl (by decide +kernel) ⟨Nat.le_of_ble_eq_true rfl, Nat.le_of_ble_eq_true rfl⟩) hP hD hK hS hA [1, 2] [0] [0] rfl rfl (by decide) (by decide) (by decide) rfl 0 rfl rfl rfl hl.1 rfl (Nat.le_of_ble_eq_true rfl) dX1_writeNumbers_14 ⟨(Nat.zero_le _), (Nat.zero_le _)⟩ (fun u H locs hg4 hP hD hS => ?_)
  obtain ⟨u4, w4⟩ := u
  try dsimp only at hg4
  have hP : va_P (dC, dI) azCl [(a1, .inr (0, [.int (nI fm), .int (nI ln), .long (lN (V / 18446744073709551616)), .long (lN (V % 18446744073709551616))])), (h0, .inr (1, [.ref ht, .int (nI n), .ref hw, .int (nI w4), .ref a1, .ref a2, .ref a3])), (hw, .inl (cW, 39, .inl u4))] H := hP
  have hD : va_D A [(a1, .inr (0, [.int (nI fm), .int (nI ln), .long (lN (V / 18446744073709551616)), .long (lN (V % 18446744073709551616))])), (h0, .inr (1, [.ref ht, .int (nI n), .ref hw, .int (nI w4), .ref a1, .ref a2, .ref a3])), (hw, .inl (cW, 39, .inl u4))] := hD
  have hq4 := hg4.1
  try simp only [List.length_append, List.length_cons, List.length_nil] at hq4
  refine lv_aload_n hx hb dX1_writeNumbers_17 rfl (lv_at hl 1 rfl) ?_
  refine lv_aload_n hx hb dX1_writeNumbers_18 rfl (lv_at hl 1 rfl) ?_
  refine va_get (D := (dC, dI)) (ci := 1) (v := .ref a1) (C := RX1) (T := TX1) (N := 7) hx hb hts hiX1 hown hK hP 1 rfl rfl 4 (by decide) hf26 (fun _ h9 => h9) rfl dX1_writeNumbers_19 ?_
  refine va_get (D := (dC, dI)) (ci := 0) (v := .long (lN (V % 18446744073709551616))) (C := RX0) (T := TX0) (N := 4) hx hb hts hiX0 hown hK hP 0 rfl rfl 3 (by decide) hf66 (fun _ h9 => h9) rfl dX1_writeNumbers_22 ?_
  refine lv_bipush (v := nI 24) hx hb dX1_writeNumbers_25 (by decide) ?_
  refine lv_bipush (v := nI 8) hx hb dX1_writeNumbers_27 (by decide) ?_
  refine lv_iload_n hx hb dX1_writeNumbers_29 rfl (lv_at hl 0 rfl) ?_
  refine lv_imul hx hb dX1_writeNumbers_30 ?_
  refine tp_i (nI 16) (by decide) ?_
  refine lv_isub hx hb dX1_writeNumbers_31 ?_
  refine tp_i (nI 8) (by decide) ?_
  refine lv_lushr (v := lN ((V % 18446744073709551616) / 256)) hx hb dX1_writeNumbers_32 (wb_shr (k := 8) (by omega) (by omega)) ?_
  refine lv_l2i (v := nI ((V % 18446744073709551616) / 256)) hx hb dX1_writeNumbers_33 (lN_i _) ?_
  refine lv_sipush (v := nI 255) hx hb dX1_writeNumbers_34 (by decide) ?_
  refine lv_iand hx hb dX1_writeNumbers_37 ?_
  refine tp_i (nI (V / 256 % 256)) ((pk_andN (by omega) 8 (by decide)).trans (congrArg nI (by omega))) ?_
  have hd5 := az_dec_le (V / 256 % 256)
  refine wc_Vv (As := [.int (nI (V / 256 % 256))]) (rest := []) (wr := [(a1, .inr (0, [.int (nI fm), .int (nI ln), .long (lN (V / 18446744073709551616)), .long (lN (V % 18446744073709551616))]))]) ⟨hx, hb, hml, hown, hts⟩ (ct_writeDecimal l dC dI H.size h0 ht hw a1 a2 a3 n w4 cW u4 ((((([]) ++ (az_dec (V / 16777216 % 256))) ++ [46]) ++ (az_dec (V / 65536 % 256))) ++ [46]) hg4 (V / 256 % 256) (by omega) (by omega)) (cwV 1 hts gX1_writeNumbers_X1_writeDecimal rfl rfl rfl (by decide +kernel) ⟨Nat.le_of_ble_eq_true rfl, Nat.le_of_ble_eq_true rfl⟩) hP hD hK hS hA [1, 2] [0] [0] rfl rfl (by decide) (by decide) (by decide) rfl 0 rfl rfl rfl hl.1 rfl (Nat.le_of_ble_eq_true rfl) dX1_writeNumbers_38 ⟨(Nat.zero_le _), (Nat.zero_le _)⟩ (fun u H locs hg5 hP hD hS => ?_)
  obtain ⟨u5, w5⟩ := u
  try dsimp only at hg5
  have hP : va_P (dC, dI) azCl [(a1, .inr (0, [.int (nI fm), .int (nI ln), .long (lN (V / 18446744073709551616)), .long (lN (V % 18446744073709551616))])), (h0, .inr (1, [.ref ht, .int (nI n), .ref hw, .int (nI w5), .ref a1, .ref a2, .ref a3])), (hw, .inl (cW, 39, .inl u5))] H := hP
  have hD : va_D A [(a1, .inr (0, [.int (nI fm), .int (nI ln), .long (lN (V / 18446744073709551616)), .long (lN (V % 18446744073709551616))])), (h0, .inr (1, [.ref ht, .int (nI n), .ref hw, .int (nI w5), .ref a1, .ref a2, .ref a3])), (hw, .inl (cW, 39, .inl u5))] := hD
  have hq5 := hg5.1
  try simp only [List.length_append, List.length_cons, List.length_nil] at hq5
  refine lv_iinc (v := nI 3) (lv' := [(1, .int (nI 3)), (0, .ref h0)]) hx hb dX1_writeNumbers_41 hl (k := 0) rfl (by decide) (by decide) rfl (fun ls hl => ?_)
  refine lv_goto (tgt := 2) hx hb dX1_writeNumbers_44 (by decide) ?_
  refine lv_iload_n hx hb dX1_writeNumbers_2 rfl (lv_at hl 0 rfl) ?_
  refine lv_iconst (v := nI 4) hx hb dX1_writeNumbers_3 (by decide) ?_
  refine lv_icmp_ge (tgt := 47) hx hb dX1_writeNumbers_4 (by decide) (fun c => absurd c (by decide)) (fun _ => ?_)
  refine lv_iload_n hx hb dX1_writeNumbers_7 rfl (lv_at hl 0 rfl) ?_
  refine lv_if_le (tgt := 17) hx hb dX1_writeNumbers_8 (by decide) (fun c => absurd c (by decide)) (fun _ => ?_)
  refine lv_aload_n hx hb dX1_writeNumbers_11 rfl (lv_at hl 1 rfl) ?_
  refine lv_bipush (v := nI 46) hx hb dX1_writeNumbers_12 (by decide) ?_
  refine wc_Vv (As := [.int (nI 46)]) (rest := []) (wr := [(a1, .inr (0, [.int (nI fm), .int (nI ln), .long (lN (V / 18446744073709551616)), .long (lN (V % 18446744073709551616))]))]) ⟨hx, hb, hml, hown, hts⟩ (ct_writeByte l dC dI H.size h0 ht hw a1 a2 a3 n w5 cW u5 (((((([]) ++ (az_dec (V / 16777216 % 256))) ++ [46]) ++ (az_dec (V / 65536 % 256))) ++ [46]) ++ (az_dec (V / 256 % 256))) hg5 46 (by omega) (by omega)) (cwV 1 hts gX1_writeNumbers_X1_writeByte rfl rfl rfl (by decide +kernel) ⟨Nat.le_of_ble_eq_true rfl, Nat.le_of_ble_eq_true rfl⟩) hP hD hK hS hA [1, 2] [0] [0] rfl rfl (by decide) (by decide) (by decide) rfl 0 rfl rfl rfl hl.1 rfl (Nat.le_of_ble_eq_true rfl) dX1_writeNumbers_14 ⟨(Nat.zero_le _), (Nat.zero_le _)⟩ (fun u H locs hg6 hP hD hS => ?_)
  obtain ⟨u6, w6⟩ := u
  try dsimp only at hg6
  have hP : va_P (dC, dI) azCl [(a1, .inr (0, [.int (nI fm), .int (nI ln), .long (lN (V / 18446744073709551616)), .long (lN (V % 18446744073709551616))])), (h0, .inr (1, [.ref ht, .int (nI n), .ref hw, .int (nI w6), .ref a1, .ref a2, .ref a3])), (hw, .inl (cW, 39, .inl u6))] H := hP
  have hD : va_D A [(a1, .inr (0, [.int (nI fm), .int (nI ln), .long (lN (V / 18446744073709551616)), .long (lN (V % 18446744073709551616))])), (h0, .inr (1, [.ref ht, .int (nI n), .ref hw, .int (nI w6), .ref a1, .ref a2, .ref a3])), (hw, .inl (cW, 39, .inl u6))] := hD
  have hq6 := hg6.1
  try simp only [List.length_append, List.length_cons, List.length_nil] at hq6
  refine lv_aload_n hx hb dX1_writeNumbers_17 rfl (lv_at hl 1 rfl) ?_
  refine lv_aload_n hx hb dX1_writeNumbers_18 rfl (lv_at hl 1 rfl) ?_
  refine va_get (D := (dC, dI)) (ci := 1) (v := .ref a1) (C := RX1) (T := TX1) (N := 7) hx hb hts hiX1 hown hK hP 1 rfl rfl 4 (by decide) hf26 (fun _ h9 => h9) rfl dX1_writeNumbers_19 ?_
  refine va_get (D := (dC, dI)) (ci := 0) (v := .long (lN (V % 18446744073709551616))) (C := RX0) (T := TX0) (N := 4) hx hb hts hiX0 hown hK hP 0 rfl rfl 3 (by decide) hf66 (fun _ h9 => h9) rfl dX1_writeNumbers_22 ?_
  refine lv_bipush (v := nI 24) hx hb dX1_writeNumbers_25 (by decide) ?_
  refine lv_bipush (v := nI 8) hx hb dX1_writeNumbers_27 (by decide) ?_
  refine lv_iload_n hx hb dX1_writeNumbers_29 rfl (lv_at hl 0 rfl) ?_
  refine lv_imul hx hb dX1_writeNumbers_30 ?_
  refine tp_i (nI 24) (by decide) ?_
  refine lv_isub hx hb dX1_writeNumbers_31 ?_
  refine tp_i (nI 0) (by decide) ?_
  refine lv_lushr (v := lN ((V % 18446744073709551616) / 1)) hx hb dX1_writeNumbers_32 (wb_shr (k := 0) (by omega) (by omega)) ?_
  refine lv_l2i (v := nI ((V % 18446744073709551616) / 1)) hx hb dX1_writeNumbers_33 (lN_i _) ?_
  refine lv_sipush (v := nI 255) hx hb dX1_writeNumbers_34 (by decide) ?_
  refine lv_iand hx hb dX1_writeNumbers_37 ?_
  refine tp_i (nI (V % 256)) ((pk_andN (by omega) 8 (by decide)).trans (congrArg nI (by omega))) ?_
  have hd7 := az_dec_le (V % 256)
  refine wc_Vv (As := [.int (nI (V % 256))]) (rest := []) (wr := [(a1, .inr (0, [.int (nI fm), .int (nI ln), .long (lN (V / 18446744073709551616)), .long (lN (V % 18446744073709551616))]))]) ⟨hx, hb, hml, hown, hts⟩ (ct_writeDecimal l dC dI H.size h0 ht hw a1 a2 a3 n w6 cW u6 ((((((([]) ++ (az_dec (V / 16777216 % 256))) ++ [46]) ++ (az_dec (V / 65536 % 256))) ++ [46]) ++ (az_dec (V / 256 % 256))) ++ [46]) hg6 (V % 256) (by omega) (by omega)) (cwV 1 hts gX1_writeNumbers_X1_writeDecimal rfl rfl rfl (by decide +kernel) ⟨Nat.le_of_ble_eq_true rfl, Nat.le_of_ble_eq_true rfl⟩) hP hD hK hS hA [1, 2] [0] [0] rfl rfl (by decide) (by decide) (by decide) rfl 0 rfl rfl rfl hl.1 rfl (Nat.le_of_ble_eq_true rfl) dX1_writeNumbers_38 ⟨(Nat.zero_le _), (Nat.zero_le _)⟩ (fun u H locs hg7 hP hD hS => ?_)
  obtain ⟨u7, w7⟩ := u
  try dsimp only at hg7
  have hP : va_P (dC, dI) azCl [(a1, .inr (0, [.int (nI fm), .int (nI ln), .long (lN (V / 18446744073709551616)), .long (lN (V % 18446744073709551616))])), (h0, .inr (1, [.ref ht, .int (nI n), .ref hw, .int (nI w7), .ref a1, .ref a2, .ref a3])), (hw, .inl (cW, 39, .inl u7))] H := hP
  have hD : va_D A [(a1, .inr (0, [.int (nI fm), .int (nI ln), .long (lN (V / 18446744073709551616)), .long (lN (V % 18446744073709551616))])), (h0, .inr (1, [.ref ht, .int (nI n), .ref hw, .int (nI w7), .ref a1, .ref a2, .ref a3])), (hw, .inl (cW, 39, .inl u7))] := hD
  have hq7 := hg7.1
  try simp only [List.length_append, List.length_cons, List.length_nil] at hq7
  refine lv_iinc (v := nI 4) (lv' := [(1, .int (nI 4)), (0, .ref h0)]) hx hb dX1_writeNumbers_41 hl (k := 0) rfl (by decide) (by decide) rfl (fun ls hl => ?_)
  refine lv_goto (tgt := 2) hx hb dX1_writeNumbers_44 (by decide) ?_
  refine lv_iload_n hx hb dX1_writeNumbers_2 rfl (lv_at hl 0 rfl) ?_
  refine lv_iconst (v := nI 4) hx hb dX1_writeNumbers_3 (by decide) ?_
  refine lv_icmp_ge (tgt := 47) hx hb dX1_writeNumbers_4 (by decide) (fun _ => ?_) (fun c => absurd c (by decide))
  exact wt_v hx hb hr ((u7, w7)) (by have h := hg7; unfold az_w4; simpa only [List.append_assoc, List.nil_append] using h) (hP.sub [1, 2, 0] rfl) hK (hD.sub [1, 2, 0] (by decide) rfl) hS dX1_writeNumbers_47 hlocks
set_option maxRecDepth 100000 in
set_option maxHeartbeats 4000000 in
/-- writeParts() -/
theorem ct_writeParts (l : Launch) (dC : Nat → ClassId) (dI : Nat → Nat → Nat) (sz : Nat) (h0 ht hw a1 a2 a3 n : Nat) (cW : ClassId) (g : Nat → Int32) (fm ln V : Nat) (hV : V < 340282366920938463463374607431768211456) : Met l yX1_writeParts wsX1_writeParts ({ frames := 4, cells := 0, slots := 0, locals := 89 }) (wr_P (dC, dI) azCl [(h0, .inr (1, [.ref ht, .int (nI n), .ref hw, .int (nI 0), .ref a1, .ref a2, .ref a3])), (hw, .inl (cW, 39, .inl g)), (a1, .inr (0, [.int (nI fm), .int (nI ln), .long (lN (V / 18446744073709551616)), .long (lN (V % 18446744073709551616))]))] [(cW, .byte)] sz [.ref h0]) (va_Qv (fun u => az_ou u.1 (az_wp V (az_lr V 8).1 ((az_lr V 8).1 + az_zr V (az_lr V 8).1) 8) u.2) (wr_B (dC, dI) azCl [(cW, .byte)] (va_A [(h0, .inr (1, [.ref ht, .int (nI n), .ref hw, .int (nI 0), .ref a1, .ref a2, .ref a3])), (hw, .inl (cW, 39, .inl g)), (a1, .inr (0, [.int (nI fm), .int (nI ln), .long (lN (V / 18446744073709551616)), .long (lN (V % 18446744073709551616))]))] sz) (fun u : (Nat → Int32) × Nat => [(h0, .inr (1, [.ref ht, .int (nI n), .ref hw, .int (nI u.2), .ref a1, .ref a2, .ref a3])), (hw, .inl (cW, 39, .inl u.1)), (a1, .inr (0, [.int (nI fm), .int (nI ln), .long (lN (V / 18446744073709551616)), .long (lN (V % 18446744073709551616))]))])) (va_A [(h0, .inr (1, [.ref ht, .int (nI n), .ref hw, .int (nI 0), .ref a1, .ref a2, .ref a3])), (hw, .inl (cW, 39, .inl g)), (a1, .inr (0, [.int (nI fm), .int (nI ln), .long (lN (V / 18446744073709551616)), .long (lN (V % 18446744073709551616))]))] sz)) 0 0 (va_A [(h0, .inr (1, [.ref ht, .int (nI n), .ref hw, .int (nI 0), .ref a1, .ref a2, .ref a3])), (hw, .inl (cW, 39, .inl g)), (a1, .inr (0, [.int (nI fm), .int (nI ln), .long (lN (V / 18446744073709551616)), .long (lN (V % 18446744073709551616))]))] sz) := by
  refine Met.ofW (cc := cX1_writeParts) (maxL := 4) (ret := none) (by decide) rfl ?_
  intro p e s m args below meth c s₁ Bd hml hv
  obtain ⟨rfl, hsz, hP, hK, hD0⟩ := hv
  have hx := Bd.exec
  have hb := Bd.bytes
  have hr := Bd.returns
  have hts := atoms_spec (ws := wsX1_writeParts) Bd.pre
  have hown : s.vm.findClass RX1 = some m.cls := findClass_of_methodNamed Bd.named
  have hlocks := Bd.notSynchronized
  subst hsz
  have hD := hD0.self (sz := s.heap.size)
  generalize hAe : va_A [(h0, .inr (1, [.ref ht, .int (nI n), .ref hw, .int (nI 0), .ref a1, .ref a2, .ref a3])), (hw, .inl (cW, 39, .inl g)), (a1, .inr (0, [.int (nI fm), .int (nI ln), .long (lN (V / 18446744073709551616)), .long (lN (V % 18446744073709551616))]))] s.heap.size = A at hD ⊢
  have hA : ∀ q : Nat, s.heap.size ≤ q → A q := fun q h => by rw [← hAe]; exact Or.inr h
  have hS : va_S A s.heap s.heap [] := va_S.rf
  have hP : va_P (dC, dI) azCl [(h0, .inr (1, [.ref ht, .int (nI n), .ref hw, .int (nI 0), .ref a1, .ref a2, .ref a3])), (hw, .inl (cW, 39, .inl g)), (a1, .inr (0, [.int (nI fm), .int (nI ln), .long (lN (V / 18446744073709551616)), .long (lN (V % 18446744073709551616))]))] s.heap := hP
  have hiX1 : ∀ w ∈ wsX10, w ∈ wsX1_writeParts := by decide +kernel
  have hf26 := hts (.fieldLink RX1 26 "AddressTexts" "one" "LAddressTexts$Address;") (by decide +kernel)
  have hl := lv_entry ([.ref h0]) (n := 4) (Nat.le_of_ble_eq_true rfl)
  rw [lg_entry_eq]
  generalize (lg_sl ([.ref h0]) ++ List.replicate (4 - (lg_sl ([.ref h0])).length) Slot.unset).toArray = ls at hl ⊢
  have hl : lv_has ls 4 [(0, .ref h0)] := hl
  obtain ⟨rs, hrs⟩ : ∃ z, z = (az_lr V 8).1 := ⟨_, rfl⟩
  obtain ⟨re, hre⟩ : ∃ z, z = rs + az_zr V rs := ⟨_, rfl⟩
  have hrow : (rs = 8 ∧ re = 8) ∨ (rs < 8 ∧ rs + 2 ≤ re ∧ re ≤ 8) := by rw [hre, hrs]; rcases az_row V with q | q <;> omega
  have hrs8 : rs ≤ 8 := by omega
  refine lv_aload_n hx hb dX1_writeParts_0 rfl (lv_at hl 0 rfl) ?_
  refine va_get (D := (dC, dI)) (ci := 1) (v := .ref a1) (C := RX1) (T := TX1) (N := 7) hx hb hts hiX1 hown hK hP 0 rfl rfl 4 (by decide) hf26 (fun _ h9 => h9) rfl dX1_writeParts_1 ?_
  refine rc_Vi (As := []) (rest := []) ⟨hx, hb, hml, hown, hts⟩ (ct_longestRow l dC dI a1 fm ln V hV) (cwV 0 hts gX1_writeParts_X0_longestRowOfZeros rfl rfl rfl (by decide +kernel) ⟨Nat.le_of_ble_eq_true rfl, Nat.le_of_ble_eq_true rfl⟩) (hP.sub [2] rfl) (hK.sub [] rfl) 0 rfl rfl rfl hl.1 rfl (Nat.le_of_ble_eq_true rfl) dX1_writeParts_4 ⟨(Nat.zero_le _), (Nat.zero_le _)⟩ ?_
  refine tp_i (nI rs) (congrArg nI hrs.symm) ?_
  refine lv_istore_n (lv' := [(1, .int (nI rs)), (0, .ref h0)]) hx hb dX1_writeParts_7 rfl hl (by decide) rfl (fun ls hl => ?_)
  refine lv_iload_n hx hb dX1_writeParts_8 rfl (lv_at hl 0 rfl) ?_
  refine lv_aload_n hx hb dX1_writeParts_9 rfl (lv_at hl 1 rfl) ?_
  refine va_get (D := (dC, dI)) (ci := 1) (v := .ref a1) (C := RX1) (T := TX1) (N := 7) hx hb hts hiX1 hown hK hP 0 rfl rfl 4 (by decide) hf26 (fun _ h9 => h9) rfl dX1_writeParts_10 ?_
  refine lv_iload_n hx hb dX1_writeParts_13 rfl (lv_at hl 0 rfl) ?_
  refine rc_Vi (As := [.int (nI rs)]) (rest := [.int (nI rs)]) ⟨hx, hb, hml, hown, hts⟩ (ct_zerosFrom l dC dI a1 fm ln V rs hV hrs8) (cwV 1 hts gX1_writeParts_X0_zerosFrom rfl rfl rfl (by decide +kernel) ⟨Nat.le_of_ble_eq_true rfl, Nat.le_of_ble_eq_true rfl⟩) (hP.sub [2] rfl) (hK.sub [] rfl) 0 rfl rfl rfl hl.1 rfl (Nat.le_of_ble_eq_true rfl) dX1_writeParts_14 ⟨(Nat.zero_le _), (Nat.zero_le _)⟩ ?_
  refine lv_iadd hx hb dX1_writeParts_17 ?_
  refine tp_i (nI re) ((nI_add _ _).trans (congrArg nI hre.symm)) ?_
  refine lv_istore_n (lv' := [(2, .int (nI re)), (1, .int (nI rs)), (0, .ref h0)]) hx hb dX1_writeParts_18 rfl hl (by decide) rfl (fun ls hl => ?_)
  refine lv_iconst (v := nI 0) hx hb dX1_writeParts_19 (by decide) ?_
  refine lv_istore_n (lv' := [(3, .int (nI 0)), (2, .int (nI re)), (1, .int (nI rs)), (0, .ref h0)]) hx hb dX1_writeParts_20 rfl hl (by decide) rfl (fun ls hl => ?_)
  have lp21 : ∀ (N : Nat) (k : Nat) (wk : Nat) (gk : Nat → Int32), (k ≤ 8) → (az_ou gk (az_wp V rs re k) wk) → (wk ≤ 5 * k - 1) → (8 - k) < N → ∀ (H : Heap) (locs : List Loc), va_P (dC, dI) azCl [(h0, .inr (1, [.ref ht, .int (nI n), .ref hw, .int (nI wk), .ref a1, .ref a2, .ref a3])), (hw, .inl (cW, 39, .inl gk)), (a1, .inr (0, [.int (nI fm), .int (nI ln), .long (lN (V / 18446744073709551616)), .long (lN (V % 18446744073709551616))]))] H → va_D A [(h0, .inr (1, [.ref ht, .int (nI n), .ref hw, .int (nI wk), .ref a1, .ref a2, .ref a3])), (hw, .inl (cW, 39, .inl gk)), (a1, .inr (0, [.int (nI fm), .int (nI ln), .long (lN (V / 18446744073709551616)), .long (lN (V % 18446744073709551616))]))] → va_S A s.heap H locs → ∀ (ls : Array Slot), lv_has ls 4 [(0, .ref h0), (1, .int (nI rs)), (2, .int (nI re)), (3, .int (nI k))] → W p l e (headSpec wsX1_writeParts ({ frames := 4, cells := 0, slots := 0, locals := 89 })).room s m ([.ref h0] : List Value).toArray below meth c H locs 0 0 (MQ below (va_Qv (fun u => az_ou u.1 (az_wp V (az_lr V 8).1 ((az_lr V 8).1 + az_zr V (az_lr V 8).1) 8) u.2) (wr_B (dC, dI) azCl [(cW, .byte)] A (fun u : (Nat → Int32) × Nat => [(h0, .inr (1, [.ref ht, .int (nI n), .ref hw, .int (nI u.2), .ref a1, .ref a2, .ref a3])), (hw, .inl (cW, 39, .inl u.1)), (a1, .inr (0, [.int (nI fm), .int (nI ln), .long (lN (V / 18446744073709551616)), .long (lN (V % 18446744073709551616))]))])) A) ([.ref h0] : List Value).toArray s 0 0 A) (F0 m 21 ls []) := by
    intro N
    induction N with
    | zero => intro k wk gk hk hg hwk hN; exact absurd hN (Nat.not_lt_zero _)
    | succ N ih =>
      intro k wk gk hk hg hwk hN H locs hP hD hS ls hl
      refine lv_iload_n hx hb dX1_writeParts_21 rfl (lv_at hl 3 rfl) ?_
      refine lv_bipush (v := nI 8) hx hb dX1_writeParts_22 (by decide) ?_
      refine bn_ge (tgt := 87) hx hb dX1_writeParts_24 (by decide) (by omega) (by omega) (fun c24 => ?_) (fun c24 => ?_)
      · exact wt_v hx hb hr ((gk, wk)) (by have h := hg; rw [show k = 8 by omega, hre, hrs] at h; exact h) (hP.sub [0, 1, 2] rfl) hK (hD.sub [0, 1, 2] (by decide) rfl) hS dX1_writeParts_87 hlocks
      · have hq0 := hg.1
        refine lv_iload_n hx hb dX1_writeParts_27 rfl (lv_at hl 3 rfl) ?_
        refine lv_iload_n hx hb dX1_writeParts_28 rfl (lv_at hl 1 rfl) ?_
        refine bn_ne (tgt := 44) hx hb dX1_writeParts_29 (by decide) (by omega) (by omega) (fun c29 => ?_) (fun c29 => ?_)
        · refine lv_iload_n hx hb dX1_writeParts_44 rfl (lv_at hl 3 rfl) ?_
          refine lv_iload_n hx hb dX1_writeParts_45 rfl (lv_at hl 1 rfl) ?_
          refine bn_lt (tgt := 54) hx hb dX1_writeParts_46 (by decide) (by omega) (by omega) (fun c46 => ?_) (fun c46 => ?_)
          · refine lv_iload_n hx hb dX1_writeParts_54 rfl (lv_at hl 3 rfl) ?_
            refine bz_le (tgt := 69) hx hb dX1_writeParts_55 (by decide) (by omega) (fun c55 => ?_) (fun c55 => ?_)
            · refine lv_aload_n hx hb dX1_writeParts_69 rfl (lv_at hl 0 rfl) ?_
              refine lv_aload_n hx hb dX1_writeParts_70 rfl (lv_at hl 0 rfl) ?_
              refine va_get (D := (dC, dI)) (ci := 1) (v := .ref a1) (C := RX1) (T := TX1) (N := 7) hx hb hts hiX1 hown hK hP 0 rfl rfl 4 (by decide) hf26 (fun _ h9 => h9) rfl dX1_writeParts_71 ?_
              refine lv_iload_n hx hb dX1_writeParts_74 rfl (lv_at hl 3 rfl) ?_
              refine rc_Vi (As := [.int (nI k)]) (rest := [.ref h0]) ⟨hx, hb, hml, hown, hts⟩ (ct_part l dC dI a1 fm ln V k hV c24) (cwV 1 hts gX1_writeParts_X0_part rfl rfl rfl (by decide +kernel) ⟨Nat.le_of_ble_eq_true rfl, Nat.le_of_ble_eq_true rfl⟩) (hP.sub [2] rfl) (hK.sub [] rfl) 0 rfl rfl rfl hl.1 rfl (Nat.le_of_ble_eq_true rfl) dX1_writeParts_75 ⟨(Nat.zero_le _), (Nat.zero_le _)⟩ ?_
              have hh := az_hex_le (az_pt V k)
              refine wc_Vv (As := [.int (nI (az_pt V k))]) (rest := []) (wr := [(a1, .inr (0, [.int (nI fm), .int (nI ln), .long (lN (V / 18446744073709551616)), .long (lN (V % 18446744073709551616))]))]) ⟨hx, hb, hml, hown, hts⟩ (ct_writeHexadecimal l dC dI H.size h0 ht hw a1 a2 a3 n wk cW gk (az_wp V rs re k) hg (az_pt V k) (az_pt_lt V k) (by omega)) (cwV 1 hts gX1_writeParts_X1_writeHexadecimal rfl rfl rfl (by decide +kernel) ⟨Nat.le_of_ble_eq_true rfl, Nat.le_of_ble_eq_true rfl⟩) hP hD hK hS hA [0, 1] [2] [0] rfl rfl (by decide) (by decide) (by decide) rfl 0 rfl rfl rfl hl.1 rfl (Nat.le_of_ble_eq_true rfl) dX1_writeParts_78 ⟨(Nat.zero_le _), (Nat.zero_le _)⟩ (fun u H locs hg1 hP hD hS => ?_)
              obtain ⟨u1, w1⟩ := u
              try dsimp only at hg1
              have hP : va_P (dC, dI) azCl [(a1, .inr (0, [.int (nI fm), .int (nI ln), .long (lN (V / 18446744073709551616)), .long (lN (V % 18446744073709551616))])), (h0, .inr (1, [.ref ht, .int (nI n), .ref hw, .int (nI w1), .ref a1, .ref a2, .ref a3])), (hw, .inl (cW, 39, .inl u1))] H := hP
              have hD : va_D A [(a1, .inr (0, [.int (nI fm), .int (nI ln), .long (lN (V / 18446744073709551616)), .long (lN (V % 18446744073709551616))])), (h0, .inr (1, [.ref ht, .int (nI n), .ref hw, .int (nI w1), .ref a1, .ref a2, .ref a3])), (hw, .inl (cW, 39, .inl u1))] := hD
              have hq1 := hg1.1
              try simp only [List.length_append, List.length_cons, List.length_nil] at hq1
              refine lv_iinc (v := nI (k + 1)) (lv' := [(3, .int (nI (k + 1))), (0, .ref h0), (1, .int (nI rs)), (2, .int (nI re))]) hx hb dX1_writeParts_81 hl (k := 3) rfl (nI_add _ 1) (by decide) rfl (fun ls hl => ?_)
              refine lv_goto (tgt := 21) hx hb dX1_writeParts_84 (by decide) ?_
              exact ih (k + 1) w1 u1 (by omega) (by have h := hg1; have e : az_wp V rs re (k + 1) = az_wp V rs re k ++ az_ws V rs re k := rfl; rw [e]; unfold az_ws; rw [if_neg c29, if_pos (show k < rs ∨ re ≤ k by omega), if_neg (show ¬ (0 < k ∧ k ≠ re) by omega)]; simpa only [List.append_assoc, List.nil_append, List.append_nil, List.cons_append] using h) (by omega) (by omega) _ _ (hP.sub [1, 2, 0] rfl) (hD.sub [1, 2, 0] (by decide) rfl) hS ls (lv_sub hl [1, 2, 3, 0] rfl)
            · refine lv_iload_n hx hb dX1_writeParts_58 rfl (lv_at hl 3 rfl) ?_
              refine lv_iload_n hx hb dX1_writeParts_59 rfl (lv_at hl 2 rfl) ?_
              refine bn_eq (tgt := 69) hx hb dX1_writeParts_60 (by decide) (by omega) (by omega) (fun c60 => ?_) (fun c60 => ?_)
              · refine lv_aload_n hx hb dX1_writeParts_69 rfl (lv_at hl 0 rfl) ?_
                refine lv_aload_n hx hb dX1_writeParts_70 rfl (lv_at hl 0 rfl) ?_
                refine va_get (D := (dC, dI)) (ci := 1) (v := .ref a1) (C := RX1) (T := TX1) (N := 7) hx hb hts hiX1 hown hK hP 0 rfl rfl 4 (by decide) hf26 (fun _ h9 => h9) rfl dX1_writeParts_71 ?_
                refine lv_iload_n hx hb dX1_writeParts_74 rfl (lv_at hl 3 rfl) ?_
                refine rc_Vi (As := [.int (nI k)]) (rest := [.ref h0]) ⟨hx, hb, hml, hown, hts⟩ (ct_part l dC dI a1 fm ln V k hV c24) (cwV 1 hts gX1_writeParts_X0_part rfl rfl rfl (by decide +kernel) ⟨Nat.le_of_ble_eq_true rfl, Nat.le_of_ble_eq_true rfl⟩) (hP.sub [2] rfl) (hK.sub [] rfl) 0 rfl rfl rfl hl.1 rfl (Nat.le_of_ble_eq_true rfl) dX1_writeParts_75 ⟨(Nat.zero_le _), (Nat.zero_le _)⟩ ?_
                have hh := az_hex_le (az_pt V k)
                refine wc_Vv (As := [.int (nI (az_pt V k))]) (rest := []) (wr := [(a1, .inr (0, [.int (nI fm), .int (nI ln), .long (lN (V / 18446744073709551616)), .long (lN (V % 18446744073709551616))]))]) ⟨hx, hb, hml, hown, hts⟩ (ct_writeHexadecimal l dC dI H.size h0 ht hw a1 a2 a3 n wk cW gk (az_wp V rs re k) hg (az_pt V k) (az_pt_lt V k) (by omega)) (cwV 1 hts gX1_writeParts_X1_writeHexadecimal rfl rfl rfl (by decide +kernel) ⟨Nat.le_of_ble_eq_true rfl, Nat.le_of_ble_eq_true rfl⟩) hP hD hK hS hA [0, 1] [2] [0] rfl rfl (by decide) (by decide) (by decide) rfl 0 rfl rfl rfl hl.1 rfl (Nat.le_of_ble_eq_true rfl) dX1_writeParts_78 ⟨(Nat.zero_le _), (Nat.zero_le _)⟩ (fun u H locs hg1 hP hD hS => ?_)
                obtain ⟨u1, w1⟩ := u
                try dsimp only at hg1
                have hP : va_P (dC, dI) azCl [(a1, .inr (0, [.int (nI fm), .int (nI ln), .long (lN (V / 18446744073709551616)), .long (lN (V % 18446744073709551616))])), (h0, .inr (1, [.ref ht, .int (nI n), .ref hw, .int (nI w1), .ref a1, .ref a2, .ref a3])), (hw, .inl (cW, 39, .inl u1))] H := hP
                have hD : va_D A [(a1, .inr (0, [.int (nI fm), .int (nI ln), .long (lN (V / 18446744073709551616)), .long (lN (V % 18446744073709551616))])), (h0, .inr (1, [.ref ht, .int (nI n), .ref hw, .int (nI w1), .ref a1, .ref a2, .ref a3])), (hw, .inl (cW, 39, .inl u1))] := hD
                have hq1 := hg1.1
                try simp only [List.length_append, List.length_cons, List.length_nil] at hq1
                refine lv_iinc (v := nI (k + 1)) (lv' := [(3, .int (nI (k + 1))), (0, .ref h0), (1, .int (nI rs)), (2, .int (nI re))]) hx hb dX1_writeParts_81 hl (k := 3) rfl (nI_add _ 1) (by decide) rfl (fun ls hl => ?_)
                refine lv_goto (tgt := 21) hx hb dX1_writeParts_84 (by decide) ?_
                exact ih (k + 1) w1 u1 (by omega) (by have h := hg1; have e : az_wp V rs re (k + 1) = az_wp V rs re k ++ az_ws V rs re k := rfl; rw [e]; unfold az_ws; rw [if_neg c29, if_pos (show k < rs ∨ re ≤ k by omega), if_neg (show ¬ (0 < k ∧ k ≠ re) by omega)]; simpa only [List.append_assoc, List.nil_append, List.append_nil, List.cons_append] using h) (by omega) (by omega) _ _ (hP.sub [1, 2, 0] rfl) (hD.sub [1, 2, 0] (by decide) rfl) hS ls (lv_sub hl [1, 2, 3, 0] rfl)
              · refine lv_aload_n hx hb dX1_writeParts_63 rfl (lv_at hl 0 rfl) ?_
                refine lv_bipush (v := nI 58) hx hb dX1_writeParts_64 (by decide) ?_
                refine wc_Vv (As := [.int (nI 58)]) (rest := []) (wr := [(a1, .inr (0, [.int (nI fm), .int (nI ln), .long (lN (V / 18446744073709551616)), .long (lN (V % 18446744073709551616))]))]) ⟨hx, hb, hml, hown, hts⟩ (ct_writeByte l dC dI H.size h0 ht hw a1 a2 a3 n wk cW gk (az_wp V rs re k) hg 58 (by omega) (by omega)) (cwV 1 hts gX1_writeParts_X1_writeByte rfl rfl rfl (by decide +kernel) ⟨Nat.le_of_ble_eq_true rfl, Nat.le_of_ble_eq_true rfl⟩) hP hD hK hS hA [0, 1] [2] [0] rfl rfl (by decide) (by decide) (by decide) rfl 0 rfl rfl rfl hl.1 rfl (Nat.le_of_ble_eq_true rfl) dX1_writeParts_66 ⟨(Nat.zero_le _), (Nat.zero_le _)⟩ (fun u H locs hg1 hP hD hS => ?_)
                obtain ⟨u1, w1⟩ := u
                try dsimp only at hg1
                have hP : va_P (dC, dI) azCl [(a1, .inr (0, [.int (nI fm), .int (nI ln), .long (lN (V / 18446744073709551616)), .long (lN (V % 18446744073709551616))])), (h0, .inr (1, [.ref ht, .int (nI n), .ref hw, .int (nI w1), .ref a1, .ref a2, .ref a3])), (hw, .inl (cW, 39, .inl u1))] H := hP
                have hD : va_D A [(a1, .inr (0, [.int (nI fm), .int (nI ln), .long (lN (V / 18446744073709551616)), .long (lN (V % 18446744073709551616))])), (h0, .inr (1, [.ref ht, .int (nI n), .ref hw, .int (nI w1), .ref a1, .ref a2, .ref a3])), (hw, .inl (cW, 39, .inl u1))] := hD
                have hq1 := hg1.1
                try simp only [List.length_append, List.length_cons, List.length_nil] at hq1
                refine lv_aload_n hx hb dX1_writeParts_69 rfl (lv_at hl 0 rfl) ?_
                refine lv_aload_n hx hb dX1_writeParts_70 rfl (lv_at hl 0 rfl) ?_
                refine va_get (D := (dC, dI)) (ci := 1) (v := .ref a1) (C := RX1) (T := TX1) (N := 7) hx hb hts hiX1 hown hK hP 1 rfl rfl 4 (by decide) hf26 (fun _ h9 => h9) rfl dX1_writeParts_71 ?_
                refine lv_iload_n hx hb dX1_writeParts_74 rfl (lv_at hl 3 rfl) ?_
                refine rc_Vi (As := [.int (nI k)]) (rest := [.ref h0]) ⟨hx, hb, hml, hown, hts⟩ (ct_part l dC dI a1 fm ln V k hV c24) (cwV 1 hts gX1_writeParts_X0_part rfl rfl rfl (by decide +kernel) ⟨Nat.le_of_ble_eq_true rfl, Nat.le_of_ble_eq_true rfl⟩) (hP.sub [0] rfl) (hK.sub [] rfl) 0 rfl rfl rfl hl.1 rfl (Nat.le_of_ble_eq_true rfl) dX1_writeParts_75 ⟨(Nat.zero_le _), (Nat.zero_le _)⟩ ?_
                have hh := az_hex_le (az_pt V k)
                refine wc_Vv (As := [.int (nI (az_pt V k))]) (rest := []) (wr := [(a1, .inr (0, [.int (nI fm), .int (nI ln), .long (lN (V / 18446744073709551616)), .long (lN (V % 18446744073709551616))]))]) ⟨hx, hb, hml, hown, hts⟩ (ct_writeHexadecimal l dC dI H.size h0 ht hw a1 a2 a3 n w1 cW u1 ((az_wp V rs re k) ++ [58]) hg1 (az_pt V k) (az_pt_lt V k) (by omega)) (cwV 1 hts gX1_writeParts_X1_writeHexadecimal rfl rfl rfl (by decide +kernel) ⟨Nat.le_of_ble_eq_true rfl, Nat.le_of_ble_eq_true rfl⟩) hP hD hK hS hA [1, 2] [0] [0] rfl rfl (by decide) (by decide) (by decide) rfl 0 rfl rfl rfl hl.1 rfl (Nat.le_of_ble_eq_true rfl) dX1_writeParts_78 ⟨(Nat.zero_le _), (Nat.zero_le _)⟩ (fun u H locs hg2 hP hD hS => ?_)
                obtain ⟨u2, w2⟩ := u
                try dsimp only at hg2
                have hP : va_P (dC, dI) azCl [(a1, .inr (0, [.int (nI fm), .int (nI ln), .long (lN (V / 18446744073709551616)), .long (lN (V % 18446744073709551616))])), (h0, .inr (1, [.ref ht, .int (nI n), .ref hw, .int (nI w2), .ref a1, .ref a2, .ref a3])), (hw, .inl (cW, 39, .inl u2))] H := hP
                have hD : va_D A [(a1, .inr (0, [.int (nI fm), .int (nI ln), .long (lN (V / 18446744073709551616)), .long (lN (V % 18446744073709551616))])), (h0, .inr (1, [.ref ht, .int (nI n), .ref hw, .int (nI w2), .ref a1, .ref a2, .ref a3])), (hw, .inl (cW, 39, .inl u2))] := hD
                have hq2 := hg2.1
                try simp only [List.length_append, List.length_cons, List.length_nil] at hq2
                refine lv_iinc (v := nI (k + 1)) (lv' := [(3, .int (nI (k + 1))), (0, .ref h0), (1, .int (nI rs)), (2, .int (nI re))]) hx hb dX1_writeParts_81 hl (k := 3) rfl (nI_add _ 1) (by decide) rfl (fun ls hl => ?_)
                refine lv_goto (tgt := 21) hx hb dX1_writeParts_84 (by decide) ?_
                exact ih (k + 1) w2 u2 (by omega) (by have h := hg2; have e : az_wp V rs re (k + 1) = az_wp V rs re k ++ az_ws V rs re k := rfl; rw [e]; unfold az_ws; rw [if_neg c29, if_pos (show k < rs ∨ re ≤ k by omega), if_pos (show 0 < k ∧ k ≠ re by omega)]; simpa only [List.append_assoc, List.nil_append, List.append_nil, List.cons_append] using h) (by omega) (by omega) _ _ (hP.sub [1, 2, 0] rfl) (hD.sub [1, 2, 0] (by decide) rfl) hS ls (lv_sub hl [1, 2, 3, 0] rfl)
          · refine lv_iload_n hx hb dX1_writeParts_49 rfl (lv_at hl 3 rfl) ?_
            refine lv_iload_n hx hb dX1_writeParts_50 rfl (lv_at hl 2 rfl) ?_
            refine bn_lt (tgt := 81) hx hb dX1_writeParts_51 (by decide) (by omega) (by omega) (fun c51 => ?_) (fun c51 => ?_)
            · refine lv_iinc (v := nI (k + 1)) (lv' := [(3, .int (nI (k + 1))), (0, .ref h0), (1, .int (nI rs)), (2, .int (nI re))]) hx hb dX1_writeParts_81 hl (k := 3) rfl (nI_add _ 1) (by decide) rfl (fun ls hl => ?_)
              refine lv_goto (tgt := 21) hx hb dX1_writeParts_84 (by decide) ?_
              exact ih (k + 1) wk gk (by omega) (by have h := hg; have e : az_wp V rs re (k + 1) = az_wp V rs re k ++ az_ws V rs re k := rfl; rw [e]; unfold az_ws; rw [if_neg c29, if_neg (show ¬ (k < rs ∨ re ≤ k) by omega)]; simpa only [List.append_assoc, List.nil_append, List.append_nil, List.cons_append] using h) (by omega) (by omega) _ _ (hP.sub [0, 1, 2] rfl) (hD.sub [0, 1, 2] (by decide) rfl) hS ls (lv_sub hl [1, 2, 3, 0] rfl)
            · refine lv_iload_n hx hb dX1_writeParts_54 rfl (lv_at hl 3 rfl) ?_
              refine bz_le (tgt := 69) hx hb dX1_writeParts_55 (by decide) (by omega) (fun c55 => ?_) (fun c55 => ?_)
              · refine lv_aload_n hx hb dX1_writeParts_69 rfl (lv_at hl 0 rfl) ?_
                refine lv_aload_n hx hb dX1_writeParts_70 rfl (lv_at hl 0 rfl) ?_
                refine va_get (D := (dC, dI)) (ci := 1) (v := .ref a1) (C := RX1) (T := TX1) (N := 7) hx hb hts hiX1 hown hK hP 0 rfl rfl 4 (by decide) hf26 (fun _ h9 => h9) rfl dX1_writeParts_71 ?_
                refine lv_iload_n hx hb dX1_writeParts_74 rfl (lv_at hl 3 rfl) ?_
                refine rc_Vi (As := [.int (nI k)]) (rest := [.ref h0]) ⟨hx, hb, hml, hown, hts⟩ (ct_part l dC dI a1 fm ln V k hV c24) (cwV 1 hts gX1_writeParts_X0_part rfl rfl rfl (by decide +kernel) ⟨Nat.le_of_ble_eq_true rfl, Nat.le_of_ble_eq_true rfl⟩) (hP.sub [2] rfl) (hK.sub [] rfl) 0 rfl rfl rfl hl.1 rfl (Nat.le_of_ble_eq_true rfl) dX1_writeParts_75 ⟨(Nat.zero_le _), (Nat.zero_le _)⟩ ?_
                have hh := az_hex_le (az_pt V k)
                refine wc_Vv (As := [.int (nI (az_pt V k))]) (rest := []) (wr := [(a1, .inr (0, [.int (nI fm), .int (nI ln), .long (lN (V / 18446744073709551616)), .long (lN (V % 18446744073709551616))]))]) ⟨hx, hb, hml, hown, hts⟩ (ct_writeHexadecimal l dC dI H.size h0 ht hw a1 a2 a3 n wk cW gk (az_wp V rs re k) hg (az_pt V k) (az_pt_lt V k) (by omega)) (cwV 1 hts gX1_writeParts_X1_writeHexadecimal rfl rfl rfl (by decide +kernel) ⟨Nat.le_of_ble_eq_true rfl, Nat.le_of_ble_eq_true rfl⟩) hP hD hK hS hA [0, 1] [2] [0] rfl rfl (by decide) (by decide) (by decide) rfl 0 rfl rfl rfl hl.1 rfl (Nat.le_of_ble_eq_true rfl) dX1_writeParts_78 ⟨(Nat.zero_le _), (Nat.zero_le _)⟩ (fun u H locs hg1 hP hD hS => ?_)
                obtain ⟨u1, w1⟩ := u
                try dsimp only at hg1
                have hP : va_P (dC, dI) azCl [(a1, .inr (0, [.int (nI fm), .int (nI ln), .long (lN (V / 18446744073709551616)), .long (lN (V % 18446744073709551616))])), (h0, .inr (1, [.ref ht, .int (nI n), .ref hw, .int (nI w1), .ref a1, .ref a2, .ref a3])), (hw, .inl (cW, 39, .inl u1))] H := hP
                have hD : va_D A [(a1, .inr (0, [.int (nI fm), .int (nI ln), .long (lN (V / 18446744073709551616)), .long (lN (V % 18446744073709551616))])), (h0, .inr (1, [.ref ht, .int (nI n), .ref hw, .int (nI w1), .ref a1, .ref a2, .ref a3])), (hw, .inl (cW, 39, .inl u1))] := hD
                have hq1 := hg1.1
                try simp only [List.length_append, List.length_cons, List.length_nil] at hq1
                refine lv_iinc (v := nI (k + 1)) (lv' := [(3, .int (nI (k + 1))), (0, .ref h0), (1, .int (nI rs)), (2, .int (nI re))]) hx hb dX1_writeParts_81 hl (k := 3) rfl (nI_add _ 1) (by decide) rfl (fun ls hl => ?_)
                refine lv_goto (tgt := 21) hx hb dX1_writeParts_84 (by decide) ?_
                exact ih (k + 1) w1 u1 (by omega) (by have h := hg1; have e : az_wp V rs re (k + 1) = az_wp V rs re k ++ az_ws V rs re k := rfl; rw [e]; unfold az_ws; rw [if_neg c29, if_pos (show k < rs ∨ re ≤ k by omega), if_neg (show ¬ (0 < k ∧ k ≠ re) by omega)]; simpa only [List.append_assoc, List.nil_append, List.append_nil, List.cons_append] using h) (by omega) (by omega) _ _ (hP.sub [1, 2, 0] rfl) (hD.sub [1, 2, 0] (by decide) rfl) hS ls (lv_sub hl [1, 2, 3, 0] rfl)
              · refine lv_iload_n hx hb dX1_writeParts_58 rfl (lv_at hl 3 rfl) ?_
                refine lv_iload_n hx hb dX1_writeParts_59 rfl (lv_at hl 2 rfl) ?_
                refine bn_eq (tgt := 69) hx hb dX1_writeParts_60 (by decide) (by omega) (by omega) (fun c60 => ?_) (fun c60 => ?_)
                · refine lv_aload_n hx hb dX1_writeParts_69 rfl (lv_at hl 0 rfl) ?_
                  refine lv_aload_n hx hb dX1_writeParts_70 rfl (lv_at hl 0 rfl) ?_
                  refine va_get (D := (dC, dI)) (ci := 1) (v := .ref a1) (C := RX1) (T := TX1) (N := 7) hx hb hts hiX1 hown hK hP 0 rfl rfl 4 (by decide) hf26 (fun _ h9 => h9) rfl dX1_writeParts_71 ?_
                  refine lv_iload_n hx hb dX1_writeParts_74 rfl (lv_at hl 3 rfl) ?_
                  refine rc_Vi (As := [.int (nI k)]) (rest := [.ref h0]) ⟨hx, hb, hml, hown, hts⟩ (ct_part l dC dI a1 fm ln V k hV c24) (cwV 1 hts gX1_writeParts_X0_part rfl rfl rfl (by decide +kernel) ⟨Nat.le_of_ble_eq_true rfl, Nat.le_of_ble_eq_true rfl⟩) (hP.sub [2] rfl) (hK.sub [] rfl) 0 rfl rfl rfl hl.1 rfl (Nat.le_of_ble_eq_true rfl) dX1_writeParts_75 ⟨(Nat.zero_le _), (Nat.zero_le _)⟩ ?_
                  have hh := az_hex_le (az_pt V k)
                  refine wc_Vv (As := [.int (nI (az_pt V k))]) (rest := []) (wr := [(a1, .inr (0, [.int (nI fm), .int (nI ln), .long (lN (V / 18446744073709551616)), .long (lN (V % 18446744073709551616))]))]) ⟨hx, hb, hml, hown, hts⟩ (ct_writeHexadecimal l dC dI H.size h0 ht hw a1 a2 a3 n wk cW gk (az_wp V rs re k) hg (az_pt V k) (az_pt_lt V k) (by omega)) (cwV 1 hts gX1_writeParts_X1_writeHexadecimal rfl rfl rfl (by decide +kernel) ⟨Nat.le_of_ble_eq_true rfl, Nat.le_of_ble_eq_true rfl⟩) hP hD hK hS hA [0, 1] [2] [0] rfl rfl (by decide) (by decide) (by decide) rfl 0 rfl rfl rfl hl.1 rfl (Nat.le_of_ble_eq_true rfl) dX1_writeParts_78 ⟨(Nat.zero_le _), (Nat.zero_le _)⟩ (fun u H locs hg1 hP hD hS => ?_)
                  obtain ⟨u1, w1⟩ := u
                  try dsimp only at hg1
                  have hP : va_P (dC, dI) azCl [(a1, .inr (0, [.int (nI fm), .int (nI ln), .long (lN (V / 18446744073709551616)), .long (lN (V % 18446744073709551616))])), (h0, .inr (1, [.ref ht, .int (nI n), .ref hw, .int (nI w1), .ref a1, .ref a2, .ref a3])), (hw, .inl (cW, 39, .inl u1))] H := hP
                  have hD : va_D A [(a1, .inr (0, [.int (nI fm), .int (nI ln), .long (lN (V / 18446744073709551616)), .long (lN (V % 18446744073709551616))])), (h0, .inr (1, [.ref ht, .int (nI n), .ref hw, .int (nI w1), .ref a1, .ref a2, .ref a3])), (hw, .inl (cW, 39, .inl u1))] := hD
                  have hq1 := hg1.1
                  try simp only [List.length_append, List.length_cons, List.length_nil] at hq1
                  refine lv_iinc (v := nI (k + 1)) (lv' := [(3, .int (nI (k + 1))), (0, .ref h0), (1, .int (nI rs)), (2, .int (nI re))]) hx hb dX1_writeParts_81 hl (k := 3) rfl (nI_add _ 1) (by decide) rfl (fun ls hl => ?_)
                  refine lv_goto (tgt := 21) hx hb dX1_writeParts_84 (by decide) ?_
                  exact ih (k + 1) w1 u1 (by omega) (by have h := hg1; have e : az_wp V rs re (k + 1) = az_wp V rs re k ++ az_ws V rs re k := rfl; rw [e]; unfold az_ws; rw [if_neg c29, if_pos (show k < rs ∨ re ≤ k by omega), if_neg (show ¬ (0 < k ∧ k ≠ re) by omega)]; simpa only [List.append_assoc, List.nil_append, List.append_nil, List.cons_append] using h) (by omega) (by omega) _ _ (hP.sub [1, 2, 0] rfl) (hD.sub [1, 2, 0] (by decide) rfl) hS ls (lv_sub hl [1, 2, 3, 0] rfl)
                · refine lv_aload_n hx hb dX1_writeParts_63 rfl (lv_at hl 0 rfl) ?_
                  refine lv_bipush (v := nI 58) hx hb dX1_writeParts_64 (by decide) ?_
                  refine wc_Vv (As := [.int (nI 58)]) (rest := []) (wr := [(a1, .inr (0, [.int (nI fm), .int (nI ln), .long (lN (V / 18446744073709551616)), .long (lN (V % 18446744073709551616))]))]) ⟨hx, hb, hml, hown, hts⟩ (ct_writeByte l dC dI H.size h0 ht hw a1 a2 a3 n wk cW gk (az_wp V rs re k) hg 58 (by omega) (by omega)) (cwV 1 hts gX1_writeParts_X1_writeByte rfl rfl rfl (by decide +kernel) ⟨Nat.le_of_ble_eq_true rfl, Nat.le_of_ble_eq_true rfl⟩) hP hD hK hS hA [0, 1] [2] [0] rfl rfl (by decide) (by decide) (by decide) rfl 0 rfl rfl rfl hl.1 rfl (Nat.le_of_ble_eq_true rfl) dX1_writeParts_66 ⟨(Nat.zero_le _), (Nat.zero_le _)⟩ (fun u H locs hg1 hP hD hS => ?_)
                  obtain ⟨u1, w1⟩ := u
                  try dsimp only at hg1
                  have hP : va_P (dC, dI) azCl [(a1, .inr (0, [.int (nI fm), .int (nI ln), .long (lN (V / 18446744073709551616)), .long (lN (V % 18446744073709551616))])), (h0, .inr (1, [.ref ht, .int (nI n), .ref hw, .int (nI w1), .ref a1, .ref a2, .ref a3])), (hw, .inl (cW, 39, .inl u1))] H := hP
                  have hD : va_D A [(a1, .inr (0, [.int (nI fm), .int (nI ln), .long (lN (V / 18446744073709551616)), .long (lN (V % 18446744073709551616))])), (h0, .inr (1, [.ref ht, .int (nI n), .ref hw, .int (nI w1), .ref a1, .ref a2, .ref a3])), (hw, .inl (cW, 39, .inl u1))] := hD
                  have hq1 := hg1.1
                  try simp only [List.length_append, List.length_cons, List.length_nil] at hq1
                  refine lv_aload_n hx hb dX1_writeParts_69 rfl (lv_at hl 0 rfl) ?_
                  refine lv_aload_n hx hb dX1_writeParts_70 rfl (lv_at hl 0 rfl) ?_
                  refine va_get (D := (dC, dI)) (ci := 1) (v := .ref a1) (C := RX1) (T := TX1) (N := 7) hx hb hts hiX1 hown hK hP 1 rfl rfl 4 (by decide) hf26 (fun _ h9 => h9) rfl dX1_writeParts_71 ?_
                  refine lv_iload_n hx hb dX1_writeParts_74 rfl (lv_at hl 3 rfl) ?_
                  refine rc_Vi (As := [.int (nI k)]) (rest := [.ref h0]) ⟨hx, hb, hml, hown, hts⟩ (ct_part l dC dI a1 fm ln V k hV c24) (cwV 1 hts gX1_writeParts_X0_part rfl rfl rfl (by decide +kernel) ⟨Nat.le_of_ble_eq_true rfl, Nat.le_of_ble_eq_true rfl⟩) (hP.sub [0] rfl) (hK.sub [] rfl) 0 rfl rfl rfl hl.1 rfl (Nat.le_of_ble_eq_true rfl) dX1_writeParts_75 ⟨(Nat.zero_le _), (Nat.zero_le _)⟩ ?_
                  have hh := az_hex_le (az_pt V k)
                  refine wc_Vv (As := [.int (nI (az_pt V k))]) (rest := []) (wr := [(a1, .inr (0, [.int (nI fm), .int (nI ln), .long (lN (V / 18446744073709551616)), .long (lN (V % 18446744073709551616))]))]) ⟨hx, hb, hml, hown, hts⟩ (ct_writeHexadecimal l dC dI H.size h0 ht hw a1 a2 a3 n w1 cW u1 ((az_wp V rs re k) ++ [58]) hg1 (az_pt V k) (az_pt_lt V k) (by omega)) (cwV 1 hts gX1_writeParts_X1_writeHexadecimal rfl rfl rfl (by decide +kernel) ⟨Nat.le_of_ble_eq_true rfl, Nat.le_of_ble_eq_true rfl⟩) hP hD hK hS hA [1, 2] [0] [0] rfl rfl (by decide) (by decide) (by decide) rfl 0 rfl rfl rfl hl.1 rfl (Nat.le_of_ble_eq_true rfl) dX1_writeParts_78 ⟨(Nat.zero_le _), (Nat.zero_le _)⟩ (fun u H locs hg2 hP hD hS => ?_)
                  obtain ⟨u2, w2⟩ := u
                  try dsimp only at hg2
                  have hP : va_P (dC, dI) azCl [(a1, .inr (0, [.int (nI fm), .int (nI ln), .long (lN (V / 18446744073709551616)), .long (lN (V % 18446744073709551616))])), (h0, .inr (1, [.ref ht, .int (nI n), .ref hw, .int (nI w2), .ref a1, .ref a2, .ref a3])), (hw, .inl (cW, 39, .inl u2))] H := hP
                  have hD : va_D A [(a1, .inr (0, [.int (nI fm), .int (nI ln), .long (lN (V / 18446744073709551616)), .long (lN (V % 18446744073709551616))])), (h0, .inr (1, [.ref ht, .int (nI n), .ref hw, .int (nI w2), .ref a1, .ref a2, .ref a3])), (hw, .inl (cW, 39, .inl u2))] := hD
                  have hq2 := hg2.1
                  try simp only [List.length_append, List.length_cons, List.length_nil] at hq2
                  refine lv_iinc (v := nI (k + 1)) (lv' := [(3, .int (nI (k + 1))), (0, .ref h0), (1, .int (nI rs)), (2, .int (nI re))]) hx hb dX1_writeParts_81 hl (k := 3) rfl (nI_add _ 1) (by decide) rfl (fun ls hl => ?_)
                  refine lv_goto (tgt := 21) hx hb dX1_writeParts_84 (by decide) ?_
                  exact ih (k + 1) w2 u2 (by omega) (by have h := hg2; have e : az_wp V rs re (k + 1) = az_wp V rs re k ++ az_ws V rs re k := rfl; rw [e]; unfold az_ws; rw [if_neg c29, if_pos (show k < rs ∨ re ≤ k by omega), if_pos (show 0 < k ∧ k ≠ re by omega)]; simpa only [List.append_assoc, List.nil_append, List.append_nil, List.cons_append] using h) (by omega) (by omega) _ _ (hP.sub [1, 2, 0] rfl) (hD.sub [1, 2, 0] (by decide) rfl) hS ls (lv_sub hl [1, 2, 3, 0] rfl)
        · refine lv_aload_n hx hb dX1_writeParts_32 rfl (lv_at hl 0 rfl) ?_
          refine lv_bipush (v := nI 58) hx hb dX1_writeParts_33 (by decide) ?_
          refine wc_Vv (As := [.int (nI 58)]) (rest := []) (wr := [(a1, .inr (0, [.int (nI fm), .int (nI ln), .long (lN (V / 18446744073709551616)), .long (lN (V % 18446744073709551616))]))]) ⟨hx, hb, hml, hown, hts⟩ (ct_writeByte l dC dI H.size h0 ht hw a1 a2 a3 n wk cW gk (az_wp V rs re k) hg 58 (by omega) (by omega)) (cwV 1 hts gX1_writeParts_X1_writeByte rfl rfl rfl (by decide +kernel) ⟨Nat.le_of_ble_eq_true rfl, Nat.le_of_ble_eq_true rfl⟩) hP hD hK hS hA [0, 1] [2] [0] rfl rfl (by decide) (by decide) (by decide) rfl 0 rfl rfl rfl hl.1 rfl (Nat.le_of_ble_eq_true rfl) dX1_writeParts_35 ⟨(Nat.zero_le _), (Nat.zero_le _)⟩ (fun u H locs hg1 hP hD hS => ?_)
          obtain ⟨u1, w1⟩ := u
          try dsimp only at hg1
          have hP : va_P (dC, dI) azCl [(a1, .inr (0, [.int (nI fm), .int (nI ln), .long (lN (V / 18446744073709551616)), .long (lN (V % 18446744073709551616))])), (h0, .inr (1, [.ref ht, .int (nI n), .ref hw, .int (nI w1), .ref a1, .ref a2, .ref a3])), (hw, .inl (cW, 39, .inl u1))] H := hP
          have hD : va_D A [(a1, .inr (0, [.int (nI fm), .int (nI ln), .long (lN (V / 18446744073709551616)), .long (lN (V % 18446744073709551616))])), (h0, .inr (1, [.ref ht, .int (nI n), .ref hw, .int (nI w1), .ref a1, .ref a2, .ref a3])), (hw, .inl (cW, 39, .inl u1))] := hD
          have hq1 := hg1.1
          try simp only [List.length_append, List.length_cons, List.length_nil] at hq1
          refine lv_aload_n hx hb dX1_writeParts_38 rfl (lv_at hl 0 rfl) ?_
          refine lv_bipush (v := nI 58) hx hb dX1_writeParts_39 (by decide) ?_
          refine wc_Vv (As := [.int (nI 58)]) (rest := []) (wr := [(a1, .inr (0, [.int (nI fm), .int (nI ln), .long (lN (V / 18446744073709551616)), .long (lN (V % 18446744073709551616))]))]) ⟨hx, hb, hml, hown, hts⟩ (ct_writeByte l dC dI H.size h0 ht hw a1 a2 a3 n w1 cW u1 ((az_wp V rs re k) ++ [58]) hg1 58 (by omega) (by omega)) (cwV 1 hts gX1_writeParts_X1_writeByte rfl rfl rfl (by decide +kernel) ⟨Nat.le_of_ble_eq_true rfl, Nat.le_of_ble_eq_true rfl⟩) hP hD hK hS hA [1, 2] [0] [0] rfl rfl (by decide) (by decide) (by decide) rfl 0 rfl rfl rfl hl.1 rfl (Nat.le_of_ble_eq_true rfl) dX1_writeParts_41 ⟨(Nat.zero_le _), (Nat.zero_le _)⟩ (fun u H locs hg2 hP hD hS => ?_)
          obtain ⟨u2, w2⟩ := u
          try dsimp only at hg2
          have hP : va_P (dC, dI) azCl [(a1, .inr (0, [.int (nI fm), .int (nI ln), .long (lN (V / 18446744073709551616)), .long (lN (V % 18446744073709551616))])), (h0, .inr (1, [.ref ht, .int (nI n), .ref hw, .int (nI w2), .ref a1, .ref a2, .ref a3])), (hw, .inl (cW, 39, .inl u2))] H := hP
          have hD : va_D A [(a1, .inr (0, [.int (nI fm), .int (nI ln), .long (lN (V / 18446744073709551616)), .long (lN (V % 18446744073709551616))])), (h0, .inr (1, [.ref ht, .int (nI n), .ref hw, .int (nI w2), .ref a1, .ref a2, .ref a3])), (hw, .inl (cW, 39, .inl u2))] := hD
          have hq2 := hg2.1
          try simp only [List.length_append, List.length_cons, List.length_nil] at hq2
          refine lv_iload_n hx hb dX1_writeParts_44 rfl (lv_at hl 3 rfl) ?_
          refine lv_iload_n hx hb dX1_writeParts_45 rfl (lv_at hl 1 rfl) ?_
          refine bn_lt (tgt := 54) hx hb dX1_writeParts_46 (by decide) (by omega) (by omega) (fun c46 => ?_) (fun c46 => ?_)
          · refine lv_iload_n hx hb dX1_writeParts_54 rfl (lv_at hl 3 rfl) ?_
            refine bz_le (tgt := 69) hx hb dX1_writeParts_55 (by decide) (by omega) (fun c55 => ?_) (fun c55 => ?_)
            · refine lv_aload_n hx hb dX1_writeParts_69 rfl (lv_at hl 0 rfl) ?_
              refine lv_aload_n hx hb dX1_writeParts_70 rfl (lv_at hl 0 rfl) ?_
              refine va_get (D := (dC, dI)) (ci := 1) (v := .ref a1) (C := RX1) (T := TX1) (N := 7) hx hb hts hiX1 hown hK hP 1 rfl rfl 4 (by decide) hf26 (fun _ h9 => h9) rfl dX1_writeParts_71 ?_
              refine lv_iload_n hx hb dX1_writeParts_74 rfl (lv_at hl 3 rfl) ?_
              refine rc_Vi (As := [.int (nI k)]) (rest := [.ref h0]) ⟨hx, hb, hml, hown, hts⟩ (ct_part l dC dI a1 fm ln V k hV c24) (cwV 1 hts gX1_writeParts_X0_part rfl rfl rfl (by decide +kernel) ⟨Nat.le_of_ble_eq_true rfl, Nat.le_of_ble_eq_true rfl⟩) (hP.sub [0] rfl) (hK.sub [] rfl) 0 rfl rfl rfl hl.1 rfl (Nat.le_of_ble_eq_true rfl) dX1_writeParts_75 ⟨(Nat.zero_le _), (Nat.zero_le _)⟩ ?_
              have hh := az_hex_le (az_pt V k)
              refine wc_Vv (As := [.int (nI (az_pt V k))]) (rest := []) (wr := [(a1, .inr (0, [.int (nI fm), .int (nI ln), .long (lN (V / 18446744073709551616)), .long (lN (V % 18446744073709551616))]))]) ⟨hx, hb, hml, hown, hts⟩ (ct_writeHexadecimal l dC dI H.size h0 ht hw a1 a2 a3 n w2 cW u2 (((az_wp V rs re k) ++ [58]) ++ [58]) hg2 (az_pt V k) (az_pt_lt V k) (by omega)) (cwV 1 hts gX1_writeParts_X1_writeHexadecimal rfl rfl rfl (by decide +kernel) ⟨Nat.le_of_ble_eq_true rfl, Nat.le_of_ble_eq_true rfl⟩) hP hD hK hS hA [1, 2] [0] [0] rfl rfl (by decide) (by decide) (by decide) rfl 0 rfl rfl rfl hl.1 rfl (Nat.le_of_ble_eq_true rfl) dX1_writeParts_78 ⟨(Nat.zero_le _), (Nat.zero_le _)⟩ (fun u H locs hg3 hP hD hS => ?_)
              obtain ⟨u3, w3⟩ := u
              try dsimp only at hg3
              have hP : va_P (dC, dI) azCl [(a1, .inr (0, [.int (nI fm), .int (nI ln), .long (lN (V / 18446744073709551616)), .long (lN (V % 18446744073709551616))])), (h0, .inr (1, [.ref ht, .int (nI n), .ref hw, .int (nI w3), .ref a1, .ref a2, .ref a3])), (hw, .inl (cW, 39, .inl u3))] H := hP
              have hD : va_D A [(a1, .inr (0, [.int (nI fm), .int (nI ln), .long (lN (V / 18446744073709551616)), .long (lN (V % 18446744073709551616))])), (h0, .inr (1, [.ref ht, .int (nI n), .ref hw, .int (nI w3), .ref a1, .ref a2, .ref a3])), (hw, .inl (cW, 39, .inl u3))] := hD
              have hq3 := hg3.1
              try simp only [List.length_append, List.length_cons, List.length_nil] at hq3
              refine lv_iinc (v := nI (k + 1)) (lv' := [(3, .int (nI (k + 1))), (0, .ref h0), (1, .int (nI rs)), (2, .int (nI re))]) hx hb dX1_writeParts_81 hl (k := 3) rfl (nI_add _ 1) (by decide) rfl (fun ls hl => ?_)
              refine lv_goto (tgt := 21) hx hb dX1_writeParts_84 (by decide) ?_
              exact ih (k + 1) w3 u3 (by omega) (by have h := hg3; have e : az_wp V rs re (k + 1) = az_wp V rs re k ++ az_ws V rs re k := rfl; rw [e]; unfold az_ws; rw [if_pos c29, if_pos (show k < rs ∨ re ≤ k by omega), if_neg (show ¬ (0 < k ∧ k ≠ re) by omega)]; simpa only [List.append_assoc, List.nil_append, List.append_nil, List.cons_append] using h) (by omega) (by omega) _ _ (hP.sub [1, 2, 0] rfl) (hD.sub [1, 2, 0] (by decide) rfl) hS ls (lv_sub hl [1, 2, 3, 0] rfl)
            · refine lv_iload_n hx hb dX1_writeParts_58 rfl (lv_at hl 3 rfl) ?_
              refine lv_iload_n hx hb dX1_writeParts_59 rfl (lv_at hl 2 rfl) ?_
              refine bn_eq (tgt := 69) hx hb dX1_writeParts_60 (by decide) (by omega) (by omega) (fun c60 => ?_) (fun c60 => ?_)
              · refine lv_aload_n hx hb dX1_writeParts_69 rfl (lv_at hl 0 rfl) ?_
                refine lv_aload_n hx hb dX1_writeParts_70 rfl (lv_at hl 0 rfl) ?_
                refine va_get (D := (dC, dI)) (ci := 1) (v := .ref a1) (C := RX1) (T := TX1) (N := 7) hx hb hts hiX1 hown hK hP 1 rfl rfl 4 (by decide) hf26 (fun _ h9 => h9) rfl dX1_writeParts_71 ?_
                refine lv_iload_n hx hb dX1_writeParts_74 rfl (lv_at hl 3 rfl) ?_
                refine rc_Vi (As := [.int (nI k)]) (rest := [.ref h0]) ⟨hx, hb, hml, hown, hts⟩ (ct_part l dC dI a1 fm ln V k hV c24) (cwV 1 hts gX1_writeParts_X0_part rfl rfl rfl (by decide +kernel) ⟨Nat.le_of_ble_eq_true rfl, Nat.le_of_ble_eq_true rfl⟩) (hP.sub [0] rfl) (hK.sub [] rfl) 0 rfl rfl rfl hl.1 rfl (Nat.le_of_ble_eq_true rfl) dX1_writeParts_75 ⟨(Nat.zero_le _), (Nat.zero_le _)⟩ ?_
                have hh := az_hex_le (az_pt V k)
                refine wc_Vv (As := [.int (nI (az_pt V k))]) (rest := []) (wr := [(a1, .inr (0, [.int (nI fm), .int (nI ln), .long (lN (V / 18446744073709551616)), .long (lN (V % 18446744073709551616))]))]) ⟨hx, hb, hml, hown, hts⟩ (ct_writeHexadecimal l dC dI H.size h0 ht hw a1 a2 a3 n w2 cW u2 (((az_wp V rs re k) ++ [58]) ++ [58]) hg2 (az_pt V k) (az_pt_lt V k) (by omega)) (cwV 1 hts gX1_writeParts_X1_writeHexadecimal rfl rfl rfl (by decide +kernel) ⟨Nat.le_of_ble_eq_true rfl, Nat.le_of_ble_eq_true rfl⟩) hP hD hK hS hA [1, 2] [0] [0] rfl rfl (by decide) (by decide) (by decide) rfl 0 rfl rfl rfl hl.1 rfl (Nat.le_of_ble_eq_true rfl) dX1_writeParts_78 ⟨(Nat.zero_le _), (Nat.zero_le _)⟩ (fun u H locs hg3 hP hD hS => ?_)
                obtain ⟨u3, w3⟩ := u
                try dsimp only at hg3
                have hP : va_P (dC, dI) azCl [(a1, .inr (0, [.int (nI fm), .int (nI ln), .long (lN (V / 18446744073709551616)), .long (lN (V % 18446744073709551616))])), (h0, .inr (1, [.ref ht, .int (nI n), .ref hw, .int (nI w3), .ref a1, .ref a2, .ref a3])), (hw, .inl (cW, 39, .inl u3))] H := hP
                have hD : va_D A [(a1, .inr (0, [.int (nI fm), .int (nI ln), .long (lN (V / 18446744073709551616)), .long (lN (V % 18446744073709551616))])), (h0, .inr (1, [.ref ht, .int (nI n), .ref hw, .int (nI w3), .ref a1, .ref a2, .ref a3])), (hw, .inl (cW, 39, .inl u3))] := hD
                have hq3 := hg3.1
                try simp only [List.length_append, List.length_cons, List.length_nil] at hq3
                refine lv_iinc (v := nI (k + 1)) (lv' := [(3, .int (nI (k + 1))), (0, .ref h0), (1, .int (nI rs)), (2, .int (nI re))]) hx hb dX1_writeParts_81 hl (k := 3) rfl (nI_add _ 1) (by decide) rfl (fun ls hl => ?_)
                refine lv_goto (tgt := 21) hx hb dX1_writeParts_84 (by decide) ?_
                exact ih (k + 1) w3 u3 (by omega) (by have h := hg3; have e : az_wp V rs re (k + 1) = az_wp V rs re k ++ az_ws V rs re k := rfl; rw [e]; unfold az_ws; rw [if_pos c29, if_pos (show k < rs ∨ re ≤ k by omega), if_neg (show ¬ (0 < k ∧ k ≠ re) by omega)]; simpa only [List.append_assoc, List.nil_append, List.append_nil, List.cons_append] using h) (by omega) (by omega) _ _ (hP.sub [1, 2, 0] rfl) (hD.sub [1, 2, 0] (by decide) rfl) hS ls (lv_sub hl [1, 2, 3, 0] rfl)
              · refine lv_aload_n hx hb dX1_writeParts_63 rfl (lv_at hl 0 rfl) ?_
                refine lv_bipush (v := nI 58) hx hb dX1_writeParts_64 (by decide) ?_
                refine wc_Vv (As := [.int (nI 58)]) (rest := []) (wr := [(a1, .inr (0, [.int (nI fm), .int (nI ln), .long (lN (V / 18446744073709551616)), .long (lN (V % 18446744073709551616))]))]) ⟨hx, hb, hml, hown, hts⟩ (ct_writeByte l dC dI H.size h0 ht hw a1 a2 a3 n w2 cW u2 (((az_wp V rs re k) ++ [58]) ++ [58]) hg2 58 (by omega) (by omega)) (cwV 1 hts gX1_writeParts_X1_writeByte rfl rfl rfl (by decide +kernel) ⟨Nat.le_of_ble_eq_true rfl, Nat.le_of_ble_eq_true rfl⟩) hP hD hK hS hA [1, 2] [0] [0] rfl rfl (by decide) (by decide) (by decide) rfl 0 rfl rfl rfl hl.1 rfl (Nat.le_of_ble_eq_true rfl) dX1_writeParts_66 ⟨(Nat.zero_le _), (Nat.zero_le _)⟩ (fun u H locs hg3 hP hD hS => ?_)
                obtain ⟨u3, w3⟩ := u
                try dsimp only at hg3
                have hP : va_P (dC, dI) azCl [(a1, .inr (0, [.int (nI fm), .int (nI ln), .long (lN (V / 18446744073709551616)), .long (lN (V % 18446744073709551616))])), (h0, .inr (1, [.ref ht, .int (nI n), .ref hw, .int (nI w3), .ref a1, .ref a2, .ref a3])), (hw, .inl (cW, 39, .inl u3))] H := hP
                have hD : va_D A [(a1, .inr (0, [.int (nI fm), .int (nI ln), .long (lN (V / 18446744073709551616)), .long (lN (V % 18446744073709551616))])), (h0, .inr (1, [.ref ht, .int (nI n), .ref hw, .int (nI w3), .ref a1, .ref a2, .ref a3])), (hw, .inl (cW, 39, .inl u3))] := hD
                have hq3 := hg3.1
                try simp only [List.length_append, List.length_cons, List.length_nil] at hq3
                refine lv_aload_n hx hb dX1_writeParts_69 rfl (lv_at hl 0 rfl) ?_
                refine lv_aload_n hx hb dX1_writeParts_70 rfl (lv_at hl 0 rfl) ?_
                refine va_get (D := (dC, dI)) (ci := 1) (v := .ref a1) (C := RX1) (T := TX1) (N := 7) hx hb hts hiX1 hown hK hP 1 rfl rfl 4 (by decide) hf26 (fun _ h9 => h9) rfl dX1_writeParts_71 ?_
                refine lv_iload_n hx hb dX1_writeParts_74 rfl (lv_at hl 3 rfl) ?_
                refine rc_Vi (As := [.int (nI k)]) (rest := [.ref h0]) ⟨hx, hb, hml, hown, hts⟩ (ct_part l dC dI a1 fm ln V k hV c24) (cwV 1 hts gX1_writeParts_X0_part rfl rfl rfl (by decide +kernel) ⟨Nat.le_of_ble_eq_true rfl, Nat.le_of_ble_eq_true rfl⟩) (hP.sub [0] rfl) (hK.sub [] rfl) 0 rfl rfl rfl hl.1 rfl (Nat.le_of_ble_eq_true rfl) dX1_writeParts_75 ⟨(Nat.zero_le _), (Nat.zero_le _)⟩ ?_
                have hh := az_hex_le (az_pt V k)
                refine wc_Vv (As := [.int (nI (az_pt V k))]) (rest := []) (wr := [(a1, .inr (0, [.int (nI fm), .int (nI ln), .long (lN (V / 18446744073709551616)), .long (lN (V % 18446744073709551616))]))]) ⟨hx, hb, hml, hown, hts⟩ (ct_writeHexadecimal l dC dI H.size h0 ht hw a1 a2 a3 n w3 cW u3 ((((az_wp V rs re k) ++ [58]) ++ [58]) ++ [58]) hg3 (az_pt V k) (az_pt_lt V k) (by omega)) (cwV 1 hts gX1_writeParts_X1_writeHexadecimal rfl rfl rfl (by decide +kernel) ⟨Nat.le_of_ble_eq_true rfl, Nat.le_of_ble_eq_true rfl⟩) hP hD hK hS hA [1, 2] [0] [0] rfl rfl (by decide) (by decide) (by decide) rfl 0 rfl rfl rfl hl.1 rfl (Nat.le_of_ble_eq_true rfl) dX1_writeParts_78 ⟨(Nat.zero_le _), (Nat.zero_le _)⟩ (fun u H locs hg4 hP hD hS => ?_)
                obtain ⟨u4, w4⟩ := u
                try dsimp only at hg4
                have hP : va_P (dC, dI) azCl [(a1, .inr (0, [.int (nI fm), .int (nI ln), .long (lN (V / 18446744073709551616)), .long (lN (V % 18446744073709551616))])), (h0, .inr (1, [.ref ht, .int (nI n), .ref hw, .int (nI w4), .ref a1, .ref a2, .ref a3])), (hw, .inl (cW, 39, .inl u4))] H := hP
                have hD : va_D A [(a1, .inr (0, [.int (nI fm), .int (nI ln), .long (lN (V / 18446744073709551616)), .long (lN (V % 18446744073709551616))])), (h0, .inr (1, [.ref ht, .int (nI n), .ref hw, .int (nI w4), .ref a1, .ref a2, .ref a3])), (hw, .inl (cW, 39, .inl u4))] := hD
                have hq4 := hg4.1
                try simp only [List.length_append, List.length_cons, List.length_nil] at hq4
                refine lv_iinc (v := nI (k + 1)) (lv' := [(3, .int (nI (k + 1))), (0, .ref h0), (1, .int (nI rs)), (2, .int (nI re))]) hx hb dX1_writeParts_81 hl (k := 3) rfl (nI_add _ 1) (by decide) rfl (fun ls hl => ?_)
                refine lv_goto (tgt := 21) hx hb dX1_writeParts_84 (by decide) ?_
                exact ih (k + 1) w4 u4 (by omega) (by have h := hg4; have e : az_wp V rs re (k + 1) = az_wp V rs re k ++ az_ws V rs re k := rfl; rw [e]; unfold az_ws; rw [if_pos c29, if_pos (show k < rs ∨ re ≤ k by omega), if_pos (show 0 < k ∧ k ≠ re by omega)]; simpa only [List.append_assoc, List.nil_append, List.append_nil, List.cons_append] using h) (by omega) (by omega) _ _ (hP.sub [1, 2, 0] rfl) (hD.sub [1, 2, 0] (by decide) rfl) hS ls (lv_sub hl [1, 2, 3, 0] rfl)
          · refine lv_iload_n hx hb dX1_writeParts_49 rfl (lv_at hl 3 rfl) ?_
            refine lv_iload_n hx hb dX1_writeParts_50 rfl (lv_at hl 2 rfl) ?_
            refine bn_lt (tgt := 81) hx hb dX1_writeParts_51 (by decide) (by omega) (by omega) (fun c51 => ?_) (fun c51 => absurd c51 (by omega))
            refine lv_iinc (v := nI (k + 1)) (lv' := [(3, .int (nI (k + 1))), (0, .ref h0), (1, .int (nI rs)), (2, .int (nI re))]) hx hb dX1_writeParts_81 hl (k := 3) rfl (nI_add _ 1) (by decide) rfl (fun ls hl => ?_)
            refine lv_goto (tgt := 21) hx hb dX1_writeParts_84 (by decide) ?_
            exact ih (k + 1) w2 u2 (by omega) (by have h := hg2; have e : az_wp V rs re (k + 1) = az_wp V rs re k ++ az_ws V rs re k := rfl; rw [e]; unfold az_ws; rw [if_pos c29, if_neg (show ¬ (k < rs ∨ re ≤ k) by omega)]; simpa only [List.append_assoc, List.nil_append, List.append_nil, List.cons_append] using h) (by omega) (by omega) _ _ (hP.sub [1, 2, 0] rfl) (hD.sub [1, 2, 0] (by decide) rfl) hS ls (lv_sub hl [1, 2, 3, 0] rfl)
  exact lp21 _ 0 0 g (Nat.zero_le _) (az_ou_0 g) (Nat.zero_le _) (Nat.lt_succ_self _) _ _ (hP.sub [0, 1, 2] rfl) (hD.sub [0, 1, 2] (by decide) rfl) hS ls (lv_sub hl [3, 2, 1, 0] rfl)
set_option maxRecDepth 100000 in
set_option maxHeartbeats 4000000 in
/-- tapeByte(x) -/
theorem ct_tapeByte (l : Launch) (dC : Nat → ClassId) (dI : Nat → Nat → Nat) (sz : Nat) (h0 ht hw a1 a2 a3 n w : Nat) (cT : ClassId) (f : Nat → Int32) (T : Nat → Nat) (hT : az_tp f T n) (x : Int32) (hn : n < 60) : Met l yX1_tapeByte wsX1_tapeByte ({ frames := 0, cells := 0, slots := 0, locals := 0 }) (wr_P (dC, dI) azCl [(h0, .inr (1, [.ref ht, .int (nI n), .ref hw, .int (nI w), .ref a1, .ref a2, .ref a3])), (ht, .inl (cT, 60, .inl f))] [(cT, .byte)] sz [.ref h0, .int x]) (va_Qv (fun u => az_tp u (az_u T n (x.toBitVec.toNat % 256)) (n + 1)) (wr_B (dC, dI) azCl [(cT, .byte)] (va_A [(h0, .inr (1, [.ref ht, .int (nI n), .ref hw, .int (nI w), .ref a1, .ref a2, .ref a3])), (ht, .inl (cT, 60, .inl f))] sz) (fun u : Nat → Int32 => [(h0, .inr (1, [.ref ht, .int (nI (n + 1)), .ref hw, .int (nI w), .ref a1, .ref a2, .ref a3])), (ht, .inl (cT, 60, .inl u))])) (va_A [(h0, .inr (1, [.ref ht, .int (nI n), .ref hw, .int (nI w), .ref a1, .ref a2, .ref a3])), (ht, .inl (cT, 60, .inl f))] sz)) 0 0 (va_A [(h0, .inr (1, [.ref ht, .int (nI n), .ref hw, .int (nI w), .ref a1, .ref a2, .ref a3])), (ht, .inl (cT, 60, .inl f))] sz) := by
  refine Met.ofW (cc := cX1_tapeByte) (maxL := 2) (ret := none) (by decide) rfl ?_
  intro p e s m args below meth c s₁ Bd hml hv
  obtain ⟨rfl, hsz, hP, hK, hD0⟩ := hv
  have hx := Bd.exec
  have hb := Bd.bytes
  have hr := Bd.returns
  have hts := atoms_spec (ws := wsX1_tapeByte) Bd.pre
  have hown : s.vm.findClass RX1 = some m.cls := findClass_of_methodNamed Bd.named
  have hlocks := Bd.notSynchronized
  subst hsz
  have hD := hD0.self (sz := s.heap.size)
  generalize hAe : va_A [(h0, .inr (1, [.ref ht, .int (nI n), .ref hw, .int (nI w), .ref a1, .ref a2, .ref a3])), (ht, .inl (cT, 60, .inl f))] s.heap.size = A at hD ⊢
  have hA : ∀ q : Nat, s.heap.size ≤ q → A q := fun q h => by rw [← hAe]; exact Or.inr h
  have hS : va_S A s.heap s.heap [] := va_S.rf
  have hP : va_P (dC, dI) azCl [(h0, .inr (1, [.ref ht, .int (nI n), .ref hw, .int (nI w), .ref a1, .ref a2, .ref a3])), (ht, .inl (cT, 60, .inl f))] s.heap := hP
  have hiX1 : ∀ w ∈ wsX10, w ∈ wsX1_tapeByte := by decide +kernel
  have hf13 := hts (.fieldLink RX1 13 "AddressTexts" "tapeCount" "I") (by decide +kernel)
  have hf9 := hts (.fieldLink RX1 9 "AddressTexts" "tape" "[B") (by decide +kernel)
  have hl := lv_entry ([.ref h0, .int x]) (n := 2) (Nat.le_of_ble_eq_true rfl)
  rw [lg_entry_eq]
  generalize (lg_sl ([.ref h0, .int x]) ++ List.replicate (2 - (lg_sl ([.ref h0, .int x])).length) Slot.unset).toArray = ls at hl ⊢
  have hl : lv_has ls 2 [(0, .ref h0), (1, .int x)] := hl
  refine lv_aload_n hx hb dX1_tapeByte_0 rfl (lv_at hl 0 rfl) ?_
  refine va_get (D := (dC, dI)) (ci := 1) (v := .int (nI n)) (C := RX1) (T := TX1) (N := 7) hx hb hts hiX1 hown hK hP 0 rfl rfl 1 (by decide) hf13 (fun _ h9 => h9) rfl dX1_tapeByte_1 ?_
  refine lv_aload_n hx hb dX1_tapeByte_4 rfl (lv_at hl 0 rfl) ?_
  refine va_get (D := (dC, dI)) (ci := 1) (v := .ref ht) (C := RX1) (T := TX1) (N := 7) hx hb hts hiX1 hown hK hP 0 rfl rfl 0 (by decide) hf9 (fun _ h9 => h9) rfl dX1_tapeByte_5 ?_
  refine va_alen (v := nI 60) hx hb hK hP 1 0 rfl rfl rfl dX1_tapeByte_8 ?_
  refine bn_ge (tgt := 33) hx hb dX1_tapeByte_9 (by decide) (by omega) (by omega) (fun c9 => absurd c9 (by omega)) (fun c9 => ?_)
  refine lv_aload_n hx hb dX1_tapeByte_12 rfl (lv_at hl 0 rfl) ?_
  refine va_get (D := (dC, dI)) (ci := 1) (v := .ref ht) (C := RX1) (T := TX1) (N := 7) hx hb hts hiX1 hown hK hP 0 rfl rfl 0 (by decide) hf9 (fun _ h9 => h9) rfl dX1_tapeByte_13 ?_
  refine lv_aload_n hx hb dX1_tapeByte_16 rfl (lv_at hl 0 rfl) ?_
  refine va_get (D := (dC, dI)) (ci := 1) (v := .int (nI n)) (C := RX1) (T := TX1) (N := 7) hx hb hts hiX1 hown hK hP 0 rfl rfl 1 (by decide) hf13 (fun _ h9 => h9) rfl dX1_tapeByte_17 ?_
  refine lv_iload_n hx hb dX1_tapeByte_20 rfl (lv_at hl 1 rfl) ?_
  refine lv_i2b (v := x.toInt8.toInt32) hx hb dX1_tapeByte_21 (rfl) ?_
  refine st_b hx hb hK hP hD hS 1 0 rfl rfl (by omega) (by omega) dX1_tapeByte_22 (fun H locs hP hD hS => ?_)
  have hP : va_P (dC, dI) azCl [(h0, .inr (1, [.ref ht, .int (nI n), .ref hw, .int (nI w), .ref a1, .ref a2, .ref a3])), (ht, .inl (cT, 60, .inl (upd f n (vp_nar .byte x.toInt8.toInt32))))] H := hP
  have hD : va_D A [(h0, .inr (1, [.ref ht, .int (nI n), .ref hw, .int (nI w), .ref a1, .ref a2, .ref a3])), (ht, .inl (cT, 60, .inl (upd f n (vp_nar .byte x.toInt8.toInt32))))] := hD
  refine lv_aload_n hx hb dX1_tapeByte_23 rfl (lv_at hl 0 rfl) ?_
  refine lv_dup hx hb dX1_tapeByte_24 rfl ?_
  refine va_get (D := (dC, dI)) (ci := 1) (v := .int (nI n)) (C := RX1) (T := TX1) (N := 7) hx hb hts hiX1 hown hK hP 0 rfl rfl 1 (by decide) hf13 (fun _ h9 => h9) rfl dX1_tapeByte_25 ?_
  refine lv_iconst (v := nI 1) hx hb dX1_tapeByte_28 (by decide) ?_
  refine lv_iadd hx hb dX1_tapeByte_29 ?_
  refine tp_i (nI (n + 1)) (nI_add _ _) ?_
  refine va_put (D := (dC, dI)) (ci := 1) (v := .int (nI (n + 1))) (ty := .int) (C := RX1) (T := TX1) (N := 7) hx hb hts hiX1 tyX1 tyX1_ok nmX1 hown hK hP hD hS 0 rfl rfl 1 (by decide) hf13 (fun _ h9 => h9) rfl (by decide +kernel) rfl rfl (Nat.le_of_ble_eq_true rfl) dX1_tapeByte_30 (fun H locs hP hD hS => ?_)
  have hP : va_P (dC, dI) azCl [(h0, .inr (1, [.ref ht, .int (nI (n + 1)), .ref hw, .int (nI w), .ref a1, .ref a2, .ref a3])), (ht, .inl (cT, 60, .inl (upd f n (vp_nar .byte x.toInt8.toInt32))))] H := hP
  have hD : va_D A [(h0, .inr (1, [.ref ht, .int (nI (n + 1)), .ref hw, .int (nI w), .ref a1, .ref a2, .ref a3])), (ht, .inl (cT, 60, .inl (upd f n (vp_nar .byte x.toInt8.toInt32))))] := hD
  exact wt_v hx hb hr (upd f n (vp_nar .byte x.toInt8.toInt32)) (az_tp_push hT x) (hP.sub [0, 1] rfl) hK (hD.sub [0, 1] (by decide) rfl) hS dX1_tapeByte_33 hlocks
set_option maxRecDepth 100000 in
set_option maxHeartbeats 4000000 in
/-- tapeNumber(a) -/
theorem ct_tapeNumber (l : Launch) (dC : Nat → ClassId) (dI : Nat → Nat → Nat) (sz : Nat) (h0 ht hw a1 a2 a3 n w : Nat) (cT : ClassId) (f : Nat → Int32) (T : Nat → Nat) (hT : az_tp f T n) (a : Int32) (hn : n + 4 ≤ 60) : Met l yX1_tapeNumber wsX1_tapeNumber ({ frames := 1, cells := 0, slots := 0, locals := 21 }) (wr_P (dC, dI) azCl [(h0, .inr (1, [.ref ht, .int (nI n), .ref hw, .int (nI w), .ref a1, .ref a2, .ref a3])), (ht, .inl (cT, 60, .inl f))] [(cT, .byte)] sz [.ref h0, .int a]) (va_Qv (fun u => az_tp u (az_a4 T n a) (n + 4)) (wr_B (dC, dI) azCl [(cT, .byte)] (va_A [(h0, .inr (1, [.ref ht, .int (nI n), .ref hw, .int (nI w), .ref a1, .ref a2, .ref a3])), (ht, .inl (cT, 60, .inl f))] sz) (fun u : Nat → Int32 => [(h0, .inr (1, [.ref ht, .int (nI (n + 4)), .ref hw, .int (nI w), .ref a1, .ref a2, .ref a3])), (ht, .inl (cT, 60, .inl u))])) (va_A [(h0, .inr (1, [.ref ht, .int (nI n), .ref hw, .int (nI w), .ref a1, .ref a2, .ref a3])), (ht, .inl (cT, 60, .inl f))] sz)) 0 0 (va_A [(h0, .inr (1, [.ref ht, .int (nI n), .ref hw, .int (nI w), .ref a1, .ref a2, .ref a3])), (ht, .inl (cT, 60, .inl f))] sz) := by
  refine Met.ofW (cc := cX1_tapeNumber) (maxL := 3) (ret := none) (by decide) rfl ?_
  intro p e s m args below meth c s₁ Bd hml hv
  obtain ⟨rfl, hsz, hP, hK, hD0⟩ := hv
  have hx := Bd.exec
  have hb := Bd.bytes
  have hr := Bd.returns
  have hts := atoms_spec (ws := wsX1_tapeNumber) Bd.pre
  have hown : s.vm.findClass RX1 = some m.cls := findClass_of_methodNamed Bd.named
  have hlocks := Bd.notSynchronized
  subst hsz
  have hD := hD0.self (sz := s.heap.size)
  generalize hAe : va_A [(h0, .inr (1, [.ref ht, .int (nI n), .ref hw, .int (nI w), .ref a1, .ref a2, .ref a3])), (ht, .inl (cT, 60, .inl f))] s.heap.size = A at hD ⊢
  have hA : ∀ q : Nat, s.heap.size ≤ q → A q := fun q h => by rw [← hAe]; exact Or.inr h
  have hS : va_S A s.heap s.heap [] := va_S.rf
  have hP : va_P (dC, dI) azCl [(h0, .inr (1, [.ref ht, .int (nI n), .ref hw, .int (nI w), .ref a1, .ref a2, .ref a3])), (ht, .inl (cT, 60, .inl f))] s.heap := hP
  have hl := lv_entry ([.ref h0, .int a]) (n := 3) (Nat.le_of_ble_eq_true rfl)
  rw [lg_entry_eq]
  generalize (lg_sl ([.ref h0, .int a]) ++ List.replicate (3 - (lg_sl ([.ref h0, .int a])).length) Slot.unset).toArray = ls at hl ⊢
  have hl : lv_has ls 3 [(0, .ref h0), (1, .int a)] := hl
  refine lv_bipush (v := nI 24) hx hb dX1_tapeNumber_0 (by decide) ?_
  refine lv_istore_n (lv' := [(2, .int (nI 24)), (0, .ref h0), (1, .int a)]) hx hb dX1_tapeNumber_2 rfl hl (by decide) rfl (fun ls hl => ?_)
  refine lv_iload_n hx hb dX1_tapeNumber_3 rfl (lv_at hl 0 rfl) ?_
  refine lv_if_lt (tgt := 20) hx hb dX1_tapeNumber_4 (by decide) (fun c => absurd c (by decide)) (fun _ => ?_)
  refine lv_aload_n hx hb dX1_tapeNumber_7 rfl (lv_at hl 1 rfl) ?_
  refine lv_iload_n hx hb dX1_tapeNumber_8 rfl (lv_at hl 2 rfl) ?_
  refine lv_iload_n hx hb dX1_tapeNumber_9 rfl (lv_at hl 0 rfl) ?_
  refine lv_iushr (v := (a.toUInt32 >>> ((nI 24).toUInt32 &&& Int32.toUInt32 31)).toInt32) hx hb dX1_tapeNumber_10 (rfl) ?_
  refine wc_Vv (As := [.int ((a.toUInt32 >>> ((nI 24).toUInt32 &&& Int32.toUInt32 31)).toInt32)]) (rest := []) (wr := []) ⟨hx, hb, hml, hown, hts⟩ (ct_tapeByte l dC dI s.heap.size h0 ht hw a1 a2 a3 n w cT f T hT ((a.toUInt32 >>> ((nI 24).toUInt32 &&& Int32.toUInt32 31)).toInt32) (by omega)) (cwV 1 hts gX1_tapeNumber_X1_tapeByte rfl rfl rfl (by decide +kernel) ⟨Nat.le_of_ble_eq_true rfl, Nat.le_of_ble_eq_true rfl⟩) hP hD hK hS hA [0, 1] [] [0] rfl rfl (by decide) (by decide) (by decide) rfl 0 rfl rfl rfl hl.1 rfl (Nat.le_of_ble_eq_true rfl) dX1_tapeNumber_11 ⟨(Nat.zero_le _), (Nat.zero_le _)⟩ (fun u1 H locs hT1 hP hD hS => ?_)
  try dsimp only at hT1
  have hP : va_P (dC, dI) azCl [(h0, .inr (1, [.ref ht, .int (nI (n + 1)), .ref hw, .int (nI w), .ref a1, .ref a2, .ref a3])), (ht, .inl (cT, 60, .inl u1))] H := hP
  have hD : va_D A [(h0, .inr (1, [.ref ht, .int (nI (n + 1)), .ref hw, .int (nI w), .ref a1, .ref a2, .ref a3])), (ht, .inl (cT, 60, .inl u1))] := hD
  refine lv_iinc (v := nI 16) (lv' := [(2, .int (nI 16)), (0, .ref h0), (1, .int a)]) hx hb dX1_tapeNumber_14 hl (k := 0) rfl (by decide) (by decide) rfl (fun ls hl => ?_)
  refine lv_goto (tgt := 3) hx hb dX1_tapeNumber_17 (by decide) ?_
  refine lv_iload_n hx hb dX1_tapeNumber_3 rfl (lv_at hl 0 rfl) ?_
  refine lv_if_lt (tgt := 20) hx hb dX1_tapeNumber_4 (by decide) (fun c => absurd c (by decide)) (fun _ => ?_)
  refine lv_aload_n hx hb dX1_tapeNumber_7 rfl (lv_at hl 1 rfl) ?_
  refine lv_iload_n hx hb dX1_tapeNumber_8 rfl (lv_at hl 2 rfl) ?_
  refine lv_iload_n hx hb dX1_tapeNumber_9 rfl (lv_at hl 0 rfl) ?_
  refine lv_iushr (v := (a.toUInt32 >>> ((nI 16).toUInt32 &&& Int32.toUInt32 31)).toInt32) hx hb dX1_tapeNumber_10 (rfl) ?_
  refine wc_Vv (As := [.int ((a.toUInt32 >>> ((nI 16).toUInt32 &&& Int32.toUInt32 31)).toInt32)]) (rest := []) (wr := []) ⟨hx, hb, hml, hown, hts⟩ (ct_tapeByte l dC dI H.size h0 ht hw a1 a2 a3 (n + 1) w cT u1 (az_u T n (((a.toUInt32 >>> ((nI 24).toUInt32 &&& Int32.toUInt32 31)).toInt32).toBitVec.toNat % 256)) hT1 ((a.toUInt32 >>> ((nI 16).toUInt32 &&& Int32.toUInt32 31)).toInt32) (by omega)) (cwV 1 hts gX1_tapeNumber_X1_tapeByte rfl rfl rfl (by decide +kernel) ⟨Nat.le_of_ble_eq_true rfl, Nat.le_of_ble_eq_true rfl⟩) hP hD hK hS hA [0, 1] [] [0] rfl rfl (by decide) (by decide) (by decide) rfl 0 rfl rfl rfl hl.1 rfl (Nat.le_of_ble_eq_true rfl) dX1_tapeNumber_11 ⟨(Nat.zero_le _), (Nat.zero_le _)⟩ (fun u2 H locs hT2 hP hD hS => ?_)
  try dsimp only at hT2
  have hP : va_P (dC, dI) azCl [(h0, .inr (1, [.ref ht, .int (nI (n + 1 + 1)), .ref hw, .int (nI w), .ref a1, .ref a2, .ref a3])), (ht, .inl (cT, 60, .inl u2))] H := hP
  have hD : va_D A [(h0, .inr (1, [.ref ht, .int (nI (n + 1 + 1)), .ref hw, .int (nI w), .ref a1, .ref a2, .ref a3])), (ht, .inl (cT, 60, .inl u2))] := hD
  refine lv_iinc (v := nI 8) (lv' := [(2, .int (nI 8)), (0, .ref h0), (1, .int a)]) hx hb dX1_tapeNumber_14 hl (k := 0) rfl (by decide) (by decide) rfl (fun ls hl => ?_)
  refine lv_goto (tgt := 3) hx hb dX1_tapeNumber_17 (by decide) ?_
  refine lv_iload_n hx hb dX1_tapeNumber_3 rfl (lv_at hl 0 rfl) ?_
  refine lv_if_lt (tgt := 20) hx hb dX1_tapeNumber_4 (by decide) (fun c => absurd c (by decide)) (fun _ => ?_)
  refine lv_aload_n hx hb dX1_tapeNumber_7 rfl (lv_at hl 1 rfl) ?_
  refine lv_iload_n hx hb dX1_tapeNumber_8 rfl (lv_at hl 2 rfl) ?_
  refine lv_iload_n hx hb dX1_tapeNumber_9 rfl (lv_at hl 0 rfl) ?_
  refine lv_iushr (v := (a.toUInt32 >>> ((nI 8).toUInt32 &&& Int32.toUInt32 31)).toInt32) hx hb dX1_tapeNumber_10 (rfl) ?_
  refine wc_Vv (As := [.int ((a.toUInt32 >>> ((nI 8).toUInt32 &&& Int32.toUInt32 31)).toInt32)]) (rest := []) (wr := []) ⟨hx, hb, hml, hown, hts⟩ (ct_tapeByte l dC dI H.size h0 ht hw a1 a2 a3 (n + 1 + 1) w cT u2 (az_u (az_u T n (((a.toUInt32 >>> ((nI 24).toUInt32 &&& Int32.toUInt32 31)).toInt32).toBitVec.toNat % 256)) (n + 1) (((a.toUInt32 >>> ((nI 16).toUInt32 &&& Int32.toUInt32 31)).toInt32).toBitVec.toNat % 256)) hT2 ((a.toUInt32 >>> ((nI 8).toUInt32 &&& Int32.toUInt32 31)).toInt32) (by omega)) (cwV 1 hts gX1_tapeNumber_X1_tapeByte rfl rfl rfl (by decide +kernel) ⟨Nat.le_of_ble_eq_true rfl, Nat.le_of_ble_eq_true rfl⟩) hP hD hK hS hA [0, 1] [] [0] rfl rfl (by decide) (by decide) (by decide) rfl 0 rfl rfl rfl hl.1 rfl (Nat.le_of_ble_eq_true rfl) dX1_tapeNumber_11 ⟨(Nat.zero_le _), (Nat.zero_le _)⟩ (fun u3 H locs hT3 hP hD hS => ?_)
  try dsimp only at hT3
  have hP : va_P (dC, dI) azCl [(h0, .inr (1, [.ref ht, .int (nI (n + 1 + 1 + 1)), .ref hw, .int (nI w), .ref a1, .ref a2, .ref a3])), (ht, .inl (cT, 60, .inl u3))] H := hP
  have hD : va_D A [(h0, .inr (1, [.ref ht, .int (nI (n + 1 + 1 + 1)), .ref hw, .int (nI w), .ref a1, .ref a2, .ref a3])), (ht, .inl (cT, 60, .inl u3))] := hD
  refine lv_iinc (v := nI 0) (lv' := [(2, .int (nI 0)), (0, .ref h0), (1, .int a)]) hx hb dX1_tapeNumber_14 hl (k := 0) rfl (by decide) (by decide) rfl (fun ls hl => ?_)
  refine lv_goto (tgt := 3) hx hb dX1_tapeNumber_17 (by decide) ?_
  refine lv_iload_n hx hb dX1_tapeNumber_3 rfl (lv_at hl 0 rfl) ?_
  refine lv_if_lt (tgt := 20) hx hb dX1_tapeNumber_4 (by decide) (fun c => absurd c (by decide)) (fun _ => ?_)
  refine lv_aload_n hx hb dX1_tapeNumber_7 rfl (lv_at hl 1 rfl) ?_
  refine lv_iload_n hx hb dX1_tapeNumber_8 rfl (lv_at hl 2 rfl) ?_
  refine lv_iload_n hx hb dX1_tapeNumber_9 rfl (lv_at hl 0 rfl) ?_
  refine lv_iushr (v := (a.toUInt32 >>> ((nI 0).toUInt32 &&& Int32.toUInt32 31)).toInt32) hx hb dX1_tapeNumber_10 (rfl) ?_
  refine wc_Vv (As := [.int ((a.toUInt32 >>> ((nI 0).toUInt32 &&& Int32.toUInt32 31)).toInt32)]) (rest := []) (wr := []) ⟨hx, hb, hml, hown, hts⟩ (ct_tapeByte l dC dI H.size h0 ht hw a1 a2 a3 (n + 1 + 1 + 1) w cT u3 (az_u (az_u (az_u T n (((a.toUInt32 >>> ((nI 24).toUInt32 &&& Int32.toUInt32 31)).toInt32).toBitVec.toNat % 256)) (n + 1) (((a.toUInt32 >>> ((nI 16).toUInt32 &&& Int32.toUInt32 31)).toInt32).toBitVec.toNat % 256)) (n + 1 + 1) (((a.toUInt32 >>> ((nI 8).toUInt32 &&& Int32.toUInt32 31)).toInt32).toBitVec.toNat % 256)) hT3 ((a.toUInt32 >>> ((nI 0).toUInt32 &&& Int32.toUInt32 31)).toInt32) (by omega)) (cwV 1 hts gX1_tapeNumber_X1_tapeByte rfl rfl rfl (by decide +kernel) ⟨Nat.le_of_ble_eq_true rfl, Nat.le_of_ble_eq_true rfl⟩) hP hD hK hS hA [0, 1] [] [0] rfl rfl (by decide) (by decide) (by decide) rfl 0 rfl rfl rfl hl.1 rfl (Nat.le_of_ble_eq_true rfl) dX1_tapeNumber_11 ⟨(Nat.zero_le _), (Nat.zero_le _)⟩ (fun u4 H locs hT4 hP hD hS => ?_)
  try dsimp only at hT4
  have hP : va_P (dC, dI) azCl [(h0, .inr (1, [.ref ht, .int (nI (n + 1 + 1 + 1 + 1)), .ref hw, .int (nI w), .ref a1, .ref a2, .ref a3])), (ht, .inl (cT, 60, .inl u4))] H := hP
  have hD : va_D A [(h0, .inr (1, [.ref ht, .int (nI (n + 1 + 1 + 1 + 1)), .ref hw, .int (nI w), .ref a1, .ref a2, .ref a3])), (ht, .inl (cT, 60, .inl u4))] := hD
  refine lv_iinc (v := -8) (lv' := [(2, .int (-8)), (0, .ref h0), (1, .int a)]) hx hb dX1_tapeNumber_14 hl (k := 0) rfl (by decide) (by decide) rfl (fun ls hl => ?_)
  refine lv_goto (tgt := 3) hx hb dX1_tapeNumber_17 (by decide) ?_
  refine lv_iload_n hx hb dX1_tapeNumber_3 rfl (lv_at hl 0 rfl) ?_
  refine lv_if_lt (tgt := 20) hx hb dX1_tapeNumber_4 (by decide) (fun _ => ?_) (fun c => absurd c (by decide))
  exact wt_v hx hb hr (u4) (by have h := hT4; rw [pk_ushr a (nI 24) 24 (by decide), pk_ushr a (nI 16) 16 (by decide), pk_ushr a (nI 8) 8 (by decide), pk_ushr a (nI 0) 0 (by decide), Nat.pow_zero, Nat.div_one] at h; exact h) (hP.sub [0, 1] rfl) hK (hD.sub [0, 1] (by decide) rfl) hS dX1_tapeNumber_20 hlocks
end
section
/-! a text is read -/
theorem az_hxF_lt (T : Nat → Nat) : ∀ (k i v r : Nat), az_hxF T k i v = some r → r < (v + 1) * 16 ^ k
  | 0, i, v, r, h => by
    cases h
    rw [Nat.pow_zero]
    omega
  | k + 1, i, v, r, h => by
    change (match az_hd (T i) with | none => none | some d => az_hxF T k (i + 1) (v * 16 + d)) = some r at h
    rcases hd : az_hd (T i) with _ | d
    · rw [hd] at h; cases h
    · rw [hd] at h
      have h1 := az_hxF_lt T k (i + 1) (v * 16 + d) r h
      have h2 := az_hd_lt hd
      have h3 : (v * 16 + d + 1) * 16 ^ k ≤ (v * 16 + 16) * 16 ^ k := Nat.mul_le_mul_right _ (by omega)
      have h4 : (v * 16 + 16) * 16 ^ k = (v + 1) * 16 ^ (k + 1) := by
        rw [Nat.pow_succ, show v * 16 + 16 = (v + 1) * 16 by omega, Nat.mul_assoc, Nat.mul_comm 16 (16 ^ k)]
      omega
theorem az_hx_lt {T : Nat → Nat} {fr to v : Nat} (h : az_hx T fr to = some v) : v < 65536 := by
  by_cases q : to ≤ fr ∨ fr + 4 < to
  · rw [az_hx_n q] at h; cases h
  · rw [az_hx_s (by omega) (by omega)] at h
    have h1 := az_hxF_lt T _ _ _ _ h
    have h2 : 16 ^ (to - fr) ≤ 16 ^ 4 := Nat.pow_le_pow_right (by decide) (by omega)
    omega
def az_rv (T : Nat → Nat) (n to : Nat) : Nat → Nat → Nat → Nat → Option Nat
  | 0, _, _, V => some V
  | k + 1, i, j, V => match az_hx T i (min (az_pl T n 58 i) to) with
    | none => none
    | some v => az_rv T n to k (min (az_pl T n 58 i) to + 1) (j + 1) (az_sp V j v)
theorem az_rv_bad {T : Nat → Nat} {n to c k i j V : Nat} (h : k < c) (e : az_hx T i (min (az_pl T n 58 i) to) = none) : az_rv T n to (c - k) i j V = none := by
  rw [show c - k = (c - (k + 1)) + 1 by omega]
  show (match az_hx T i (min (az_pl T n 58 i) to) with | none => none | some v => _) = none
  rw [e]
theorem az_rv_step {T : Nat → Nat} {n to c k i j V v : Nat} (h : k < c) (e : az_hx T i (min (az_pl T n 58 i) to) = some v) : az_rv T n to (c - k) i j V = az_rv T n to (c - (k + 1)) (min (az_pl T n 58 i) to + 1) (j + 1) (az_sp V j v) := by
  rw [show c - k = (c - (k + 1)) + 1 by omega]
  show (match az_hx T i (min (az_pl T n 58 i) to) with | none => none | some v => az_rv T n to (c - (k + 1)) (min (az_pl T n 58 i) to + 1) (j + 1) (az_sp V j v)) = _
  rw [e]
theorem az_min {p t : Nat} (hp : p < 2 ^ 31) (ht : t < 2 ^ 31) : (if nI t < nI p then nI t else nI p) = nI (min p t) := by
  by_cases h : t < p
  · rw [if_pos ((nI_ltI ht hp).mpr h), Nat.min_eq_right (by omega)]
  · rw [if_neg (fun z => h ((nI_ltI ht hp).mp z)), Nat.min_eq_left (by omega)]
/-- family 6 -/
def az_six (T : Nat → Nat) (n : Nat) : Option Nat :=
  if (az_gp T n 0 < n ∧ az_cn T 0 (az_gp T n 0) + az_cn T (az_gp T n 0 + 2) n < 8) ∨ (¬ az_gp T n 0 < n ∧ az_cn T 0 (az_gp T n 0) = 8) then
    match az_rv T n (az_gp T n 0) (az_cn T 0 (az_gp T n 0)) 0 0 0 with
    | none => none
    | some V => az_rv T n n (az_cn T (az_gp T n 0 + 2) n) (az_gp T n 0 + 2) (8 - az_cn T (az_gp T n 0 + 2) n) V
  else none
theorem az_mono {u a b : Nat} (h : u % 2 ^ (16 * a) = 0) (hb : b ≤ a) : u % 2 ^ (16 * b) = 0 := by
  have h1 : 2 ^ (16 * b) ∣ 2 ^ (16 * a) := Nat.pow_dvd_pow 2 (by omega)
  exact Nat.mod_eq_zero_of_dvd (Nat.dvd_trans h1 (Nat.dvd_of_mod_eq_zero h))
/-- family 4 -/
def az_q4 (T : Nat → Nat) (n : Nat) : Nat → Nat → Nat → Option Nat
  | 0, i, v => if i = n + 1 then some v else none
  | k + 1, i, v => match az_dc T i (az_pl T n 46 i) 255 with
    | none => none
    | some d => az_q4 T n k (az_pl T n 46 i + 1) (v * 256 + d)
theorem az_q4_bad {T : Nat → Nat} {n k i v : Nat} (h : k < 4) (e : az_dc T i (az_pl T n 46 i) 255 = none) : az_q4 T n (4 - k) i v = none := by
  rw [show 4 - k = (4 - (k + 1)) + 1 by omega]
  show (match az_dc T i (az_pl T n 46 i) 255 with | none => none | some d => _) = none
  rw [e]
theorem az_q4_step {T : Nat → Nat} {n k i v d : Nat} (h : k < 4) (e : az_dc T i (az_pl T n 46 i) 255 = some d) : az_q4 T n (4 - k) i v = az_q4 T n (4 - (k + 1)) (az_pl T n 46 i + 1) (v * 256 + d) := by
  rw [show 4 - k = (4 - (k + 1)) + 1 by omega]
  show (match az_dc T i (az_pl T n 46 i) 255 with | none => none | some d => az_q4 T n (4 - (k + 1)) (az_pl T n 46 i + 1) (v * 256 + d)) = _
  rw [e]
theorem az_dcF_le (T : Nat → Nat) (most : Nat) : ∀ (k i v r : Nat), v ≤ most → az_dcF T most k i v = some r → r ≤ most
  | 0, i, v, r, hv, h => by cases h; exact hv
  | k + 1, i, v, r, hv, h => by
    change (if 48 ≤ T i ∧ T i ≤ 57 then (if most < v * 10 + (T i - 48) then none else az_dcF T most k (i + 1) (v * 10 + (T i - 48))) else none) = some r at h
    split at h
    · split at h
      · cases h
      · exact az_dcF_le T most k _ _ r (by omega) h
    · cases h
theorem az_dc_le {T : Nat → Nat} {fr to most d : Nat} (h : az_dc T fr to most = some d) : d ≤ most := by
  by_cases q : to ≤ fr ∨ (T fr = 48 ∧ 1 < to - fr)
  · rw [az_dc_n q] at h; cases h
  · rw [az_dc_s q] at h
    exact az_dcF_le T most _ _ _ _ (Nat.zero_le _) h
theorem az_p256 : ∀ {k : Nat}, k < 4 → 256 ^ k ≤ 16777216
  | 0, _ => by decide
  | 1, _ => by decide
  | 2, _ => by decide
  | 3, _ => by decide
  | _ + 4, h => by omega
theorem az_p256s {v d k : Nat} (hv : v < 256 ^ k) (hd : d ≤ 255) : v * 256 + d < 256 ^ (k + 1) := by
  have := Nat.pow_succ 256 k
  omega
/-- the text: its family and its address -/
def az_text (T : Nat → Nat) (n : Nat) : Option (Nat × Nat) := if az_pl T n 58 0 < n then (az_six T n).map (fun V => (6, V)) else (az_q4 T n 4 0 0).map (fun V => (4, V))
/-- an address of its family -/
def az_ok (u : Nat × Nat) : Prop := (u.1 = 4 ∧ u.2 < 4294967296) ∨ (u.1 = 6 ∧ u.2 < 340282366920938463463374607431768211456)
end
section
set_option maxRecDepth 100000 in
set_option maxHeartbeats 4000000 in
/-- readParts(from, to, first) -/
theorem ct_readParts (l : Launch) (dC : Nat → ClassId) (dI : Nat → Nat → Nat) (sz : Nat) (h0 ht hw a1 a2 a3 n w : Nat) (cT : ClassId) (f : Nat → Int32) (T : Nat → Nat) (hT : az_tp f T n) (hn : n ≤ 60) (fr to fs V : Nat) (hfr : fr < 2147483648) (hto : to ≤ n) (hV : V < 340282366920938463463374607431768211456) (hVz : V % 2 ^ (16 * (8 - fs)) = 0) (hcl : fs + az_cn T fr to ≤ 8) : Met l yX1_readParts wsX1_readParts ({ frames := 3, cells := 0, slots := 0, locals := 68 }) (wr_P (dC, dI) azCl [(h0, .inr (1, [.ref ht, .int (nI n), .ref hw, .int (nI w), .ref a1, .ref a2, .ref a3])), (ht, .inl (cT, 60, .inl f)), (a3, .inr (0, [.int (nI 6), .int (nI 128), .long (lN (V / 18446744073709551616)), .long (lN (V % 18446744073709551616))]))] [(cT, .byte)] sz [.ref h0, .int (nI fr), .int (nI to), .int (nI fs)]) (va_Qi (fun r u => u < 340282366920938463463374607431768211456 ∧ ((az_rv T n to (az_cn T fr to) fr fs V = none ∧ r = nI 0) ∨ (az_rv T n to (az_cn T fr to) fr fs V = some u ∧ r = nI 1 ∧ u % 2 ^ (16 * (8 - (fs + az_cn T fr to))) = 0))) (wr_B (dC, dI) azCl [(cT, .byte)] (va_A [(h0, .inr (1, [.ref ht, .int (nI n), .ref hw, .int (nI w), .ref a1, .ref a2, .ref a3])), (ht, .inl (cT, 60, .inl f)), (a3, .inr (0, [.int (nI 6), .int (nI 128), .long (lN (V / 18446744073709551616)), .long (lN (V % 18446744073709551616))]))] sz) (fun u : Nat => [(h0, .inr (1, [.ref ht, .int (nI n), .ref hw, .int (nI w), .ref a1, .ref a2, .ref a3])), (ht, .inl (cT, 60, .inl f)), (a3, .inr (0, [.int (nI 6), .int (nI 128), .long (lN (u / 18446744073709551616)), .long (lN (u % 18446744073709551616))]))])) (va_A [(h0, .inr (1, [.ref ht, .int (nI n), .ref hw, .int (nI w), .ref a1, .ref a2, .ref a3])), (ht, .inl (cT, 60, .inl f)), (a3, .inr (0, [.int (nI 6), .int (nI 128), .long (lN (V / 18446744073709551616)), .long (lN (V % 18446744073709551616))]))] sz)) 0 0 (va_A [(h0, .inr (1, [.ref ht, .int (nI n), .ref hw, .int (nI w), .ref a1, .ref a2, .ref a3])), (ht, .inl (cT, 60, .inl f)), (a3, .inr (0, [.int (nI 6), .int (nI 128), .long (lN (V / 18446744073709551616)), .long (lN (V % 18446744073709551616))]))] sz) := by
  refine Met.ofW (cc := cX1_readParts) (maxL := 9) (ret := (some .boolean)) (by decide) rfl ?_
  intro p e s m args below meth c s₁ Bd hml hv
  obtain ⟨rfl, hsz, hP, hK, hD0⟩ := hv
  have hx := Bd.exec
  have hb := Bd.bytes
  have hr := Bd.returns
  have hts := atoms_spec (ws := wsX1_readParts) Bd.pre
  have hown : s.vm.findClass RX1 = some m.cls := findClass_of_methodNamed Bd.named
  have hlocks := Bd.notSynchronized
  subst hsz
  have hD := hD0.self (sz := s.heap.size)
  generalize hAe : va_A [(h0, .inr (1, [.ref ht, .int (nI n), .ref hw, .int (nI w), .ref a1, .ref a2, .ref a3])), (ht, .inl (cT, 60, .inl f)), (a3, .inr (0, [.int (nI 6), .int (nI 128), .long (lN (V / 18446744073709551616)), .long (lN (V % 18446744073709551616))]))] s.heap.size = A at hD ⊢
  have hA : ∀ q : Nat, s.heap.size ≤ q → A q := fun q h => by rw [← hAe]; exact Or.inr h
  have hS : va_S A s.heap s.heap [] := va_S.rf
  have hP : va_P (dC, dI) azCl [(h0, .inr (1, [.ref ht, .int (nI n), .ref hw, .int (nI w), .ref a1, .ref a2, .ref a3])), (ht, .inl (cT, 60, .inl f)), (a3, .inr (0, [.int (nI 6), .int (nI 128), .long (lN (V / 18446744073709551616)), .long (lN (V % 18446744073709551616))]))] s.heap := hP
  have hiX1 : ∀ w ∈ wsX10, w ∈ wsX1_readParts := by decide +kernel
  have hf33 := hts (.fieldLink RX1 33 "AddressTexts" "spare" "LAddressTexts$Address;") (by decide +kernel)
  have hl := lv_entry ([.ref h0, .int (nI fr), .int (nI to), .int (nI fs)]) (n := 9) (Nat.le_of_ble_eq_true rfl)
  rw [lg_entry_eq]
  generalize (lg_sl ([.ref h0, .int (nI fr), .int (nI to), .int (nI fs)]) ++ List.replicate (9 - (lg_sl ([.ref h0, .int (nI fr), .int (nI to), .int (nI fs)])).length) Slot.unset).toArray = ls at hl ⊢
  have hl : lv_has ls 9 [(0, .ref h0), (1, .int (nI fr)), (2, .int (nI to)), (3, .int (nI fs))] := hl
  refine lv_aload_n hx hb dX1_readParts_0 rfl (lv_at hl 0 rfl) ?_
  refine lv_iload_n hx hb dX1_readParts_1 rfl (lv_at hl 1 rfl) ?_
  refine lv_iload_n hx hb dX1_readParts_2 rfl (lv_at hl 2 rfl) ?_
  refine rc_Vi (As := [.int (nI fr), .int (nI to)]) (rest := []) ⟨hx, hb, hml, hown, hts⟩ (ct_partsIn l dC dI h0 ht hw a1 a2 a3 n w cT f T hT hn fr to hfr hto) (cwV 2 hts gX1_readParts_X1_partsIn rfl rfl rfl (by decide +kernel) ⟨Nat.le_of_ble_eq_true rfl, Nat.le_of_ble_eq_true rfl⟩) (hP.sub [0, 1] rfl) (hK.sub [0] rfl) 0 rfl rfl rfl hl.1 rfl (Nat.le_of_ble_eq_true rfl) dX1_readParts_3 ⟨(Nat.zero_le _), (Nat.zero_le _)⟩ ?_
  refine lv_istore (lv' := [(4, .int (nI (az_cn T fr to))), (0, .ref h0), (1, .int (nI fr)), (2, .int (nI to)), (3, .int (nI fs))]) hx hb dX1_readParts_6 hl (by decide) rfl (fun ls hl => ?_)
  refine lv_iload_n hx hb dX1_readParts_8 rfl (lv_at hl 2 rfl) ?_
  refine lv_istore (lv' := [(5, .int (nI fr)), (4, .int (nI (az_cn T fr to))), (0, .ref h0), (1, .int (nI fr)), (2, .int (nI to)), (3, .int (nI fs))]) hx hb dX1_readParts_9 hl (by decide) rfl (fun ls hl => ?_)
  refine lv_iconst (v := nI 0) hx hb dX1_readParts_11 (by decide) ?_
  refine lv_istore (lv' := [(6, .int (nI 0)), (5, .int (nI fr)), (4, .int (nI (az_cn T fr to))), (0, .ref h0), (1, .int (nI fr)), (2, .int (nI to)), (3, .int (nI fs))]) hx hb dX1_readParts_12 hl (by decide) rfl (fun ls hl => ?_)
  have lp14 : ∀ (N : Nat) (k : Nat) (at_ : Nat) (v : Nat), (k ≤ az_cn T fr to) → (at_ < 2147483648) → (v < 340282366920938463463374607431768211456) → (v % 2 ^ (16 * (8 - (fs + k))) = 0) → (az_rv T n to (az_cn T fr to - k) at_ (fs + k) v = az_rv T n to (az_cn T fr to) fr fs V) → (az_cn T fr to - k) < N → ∀ (H : Heap) (locs : List Loc), va_P (dC, dI) azCl [(h0, .inr (1, [.ref ht, .int (nI n), .ref hw, .int (nI w), .ref a1, .ref a2, .ref a3])), (ht, .inl (cT, 60, .inl f)), (a3, .inr (0, [.int (nI 6), .int (nI 128), .long (lN (v / 18446744073709551616)), .long (lN (v % 18446744073709551616))]))] H → va_D A [(h0, .inr (1, [.ref ht, .int (nI n), .ref hw, .int (nI w), .ref a1, .ref a2, .ref a3])), (ht, .inl (cT, 60, .inl f)), (a3, .inr (0, [.int (nI 6), .int (nI 128), .long (lN (v / 18446744073709551616)), .long (lN (v % 18446744073709551616))]))] → va_S A s.heap H locs → ∀ (ls : Array Slot), lv_has ls 9 [(0, .ref h0), (1, .int (nI fr)), (2, .int (nI to)), (3, .int (nI fs)), (4, .int (nI (az_cn T fr to))), (5, .int (nI at_)), (6, .int (nI k))] → W p l e (headSpec wsX1_readParts ({ frames := 3, cells := 0, slots := 0, locals := 68 })).room s m ([.ref h0, .int (nI fr), .int (nI to), .int (nI fs)] : List Value).toArray below meth c H locs 0 0 (MQ below (va_Qi (fun r u => u < 340282366920938463463374607431768211456 ∧ ((az_rv T n to (az_cn T fr to) fr fs V = none ∧ r = nI 0) ∨ (az_rv T n to (az_cn T fr to) fr fs V = some u ∧ r = nI 1 ∧ u % 2 ^ (16 * (8 - (fs + az_cn T fr to))) = 0))) (wr_B (dC, dI) azCl [(cT, .byte)] A (fun u : Nat => [(h0, .inr (1, [.ref ht, .int (nI n), .ref hw, .int (nI w), .ref a1, .ref a2, .ref a3])), (ht, .inl (cT, 60, .inl f)), (a3, .inr (0, [.int (nI 6), .int (nI 128), .long (lN (u / 18446744073709551616)), .long (lN (u % 18446744073709551616))]))])) A) ([.ref h0, .int (nI fr), .int (nI to), .int (nI fs)] : List Value).toArray s 0 0 A) (F0 m 14 ls []) := by
    intro N
    induction N with
    | zero => intro k at_ v hk hat hv hvz hrv hN; exact absurd hN (Nat.not_lt_zero _)
    | succ N ih =>
      intro k at_ v hk hat hv hvz hrv hN H locs hP hD hS ls hl
      refine lv_iload hx hb dX1_readParts_14 (lv_at hl 6 rfl) ?_
      refine lv_iload hx hb dX1_readParts_16 (lv_at hl 4 rfl) ?_
      refine bn_ge (tgt := 78) hx hb dX1_readParts_18 (by decide) (by omega) (by omega) (fun c18 => ?_) (fun c18 => ?_)
      · refine lv_iconst (v := nI 1) hx hb dX1_readParts_78 (by decide) ?_
        exact wt_z hx hb hr (rfl) (v) (⟨hv, Or.inr ⟨by rw [← hrv, show az_cn T fr to - k = 0 by omega]; rfl, rfl, by rw [show fs + az_cn T fr to = fs + k by omega]; exact hvz⟩⟩) (hP.sub [0, 1, 2] rfl) hK (hD.sub [0, 1, 2] (by decide) rfl) hS dX1_readParts_79 hlocks
      · have hpl := az_pl_le (T := T) (n := n) (mk := 58) (i := at_)
        have hmin : min (az_pl T n 58 at_) to ≤ to := Nat.min_le_right _ _
        refine lv_aload_n hx hb dX1_readParts_21 rfl (lv_at hl 0 rfl) ?_
        refine lv_bipush (v := nI 58) hx hb dX1_readParts_22 (by decide) ?_
        refine lv_iload hx hb dX1_readParts_24 (lv_at hl 5 rfl) ?_
        refine rc_Vi (As := [.int (nI 58), .int (nI at_)]) (rest := []) ⟨hx, hb, hml, hown, hts⟩ (ct_placeOf l dC dI h0 ht hw a1 a2 a3 n w cT f T hT hn 58 at_ (by omega) hat) (cwV 2 hts gX1_readParts_X1_placeOf rfl rfl rfl (by decide +kernel) ⟨Nat.le_of_ble_eq_true rfl, Nat.le_of_ble_eq_true rfl⟩) (hP.sub [0, 1] rfl) (hK.sub [0] rfl) 0 rfl rfl rfl hl.1 rfl (Nat.le_of_ble_eq_true rfl) dX1_readParts_26 ⟨(Nat.zero_le _), (Nat.zero_le _)⟩ ?_
        refine lv_iload_n hx hb dX1_readParts_29 rfl (lv_at hl 2 rfl) ?_
        refine va_mmin hx hb (by rw [hml]; exact hl.1.symm) hown (hts (.methodLink RX1 113 Lib.Math.min.name) (by decide +kernel)) (hts (.static Lib.Math.min.name) (by decide +kernel)) (hts (.initialized "java/lang/Math") (by decide +kernel)) (hts (.code Lib.Math.min.name Lib.Math.min.code 2 (some .int)) (by decide +kernel)) (Nat.le_of_ble_eq_true rfl) (Nat.le_of_ble_eq_true rfl) (Nat.zero_le _) (Nat.zero_le _) dX1_readParts_30 ?_
        refine tp_i (nI (min (az_pl T n 58 at_) to)) (az_min (by omega) (by omega)) ?_
        refine lv_istore (lv' := [(7, .int (nI (min (az_pl T n 58 at_) to))), (0, .ref h0), (1, .int (nI fr)), (2, .int (nI to)), (3, .int (nI fs)), (4, .int (nI (az_cn T fr to))), (5, .int (nI at_)), (6, .int (nI k))]) hx hb dX1_readParts_33 hl (by decide) rfl (fun ls hl => ?_)
        refine lv_aload_n hx hb dX1_readParts_35 rfl (lv_at hl 1 rfl) ?_
        refine lv_iload hx hb dX1_readParts_36 (lv_at hl 6 rfl) ?_
        refine lv_iload hx hb dX1_readParts_38 (lv_at hl 0 rfl) ?_
        refine rc_Vi (As := [.int (nI at_), .int (nI (min (az_pl T n 58 at_) to))]) (rest := []) ⟨hx, hb, hml, hown, hts⟩ (ct_hexadecimalIn l dC dI h0 ht hw a1 a2 a3 n w cT f T hT hn at_ (min (az_pl T n 58 at_) to) hat (by omega)) (cwV 2 hts gX1_readParts_X1_hexadecimalIn rfl rfl rfl (by decide +kernel) ⟨Nat.le_of_ble_eq_true rfl, Nat.le_of_ble_eq_true rfl⟩) (hP.sub [0, 1] rfl) (hK.sub [0] rfl) 0 rfl rfl rfl hl.1 rfl (Nat.le_of_ble_eq_true rfl) dX1_readParts_40 ⟨(Nat.zero_le _), (Nat.zero_le _)⟩ ?_
        rcases hd : az_hx T at_ (min (az_pl T n 58 at_) to) with _ | pv
        · refine tp_i (-1) (rfl) ?_
          refine lv_istore (lv' := [(8, .int (-1)), (7, .int (nI (min (az_pl T n 58 at_) to))), (0, .ref h0), (1, .int (nI fr)), (2, .int (nI to)), (3, .int (nI fs)), (4, .int (nI (az_cn T fr to))), (5, .int (nI at_)), (6, .int (nI k))]) hx hb dX1_readParts_43 hl (by decide) rfl (fun ls hl => ?_)
          refine lv_iload hx hb dX1_readParts_45 (lv_at hl 0 rfl) ?_
          refine lv_iconst (v := -1) hx hb dX1_readParts_47 (by decide) ?_
          refine lv_icmp_ne (tgt := 53) hx hb dX1_readParts_48 (by decide) (fun c => absurd c (by decide)) (fun _ => ?_)
          refine lv_iconst (v := nI 0) hx hb dX1_readParts_51 (by decide) ?_
          exact wt_z hx hb hr (rfl) (v) (⟨hv, Or.inl ⟨by rw [← hrv, az_rv_bad c18 hd], rfl⟩⟩) (hP.sub [0, 1, 2] rfl) hK (hD.sub [0, 1, 2] (by decide) rfl) hS dX1_readParts_52 hlocks
        · have hpv := az_hx_lt hd
          have hsp : az_sp v (fs + k) pv < 340282366920938463463374607431768211456 ∧ az_sp v (fs + k) pv % 2 ^ (16 * (8 - (fs + (k + 1)))) = 0 := by rcases Nat.lt_or_ge (fs + k) 4 with q | q; exact (⟨(az_sp_u hv q hpv hvz).2.2.1, (az_sp_u hv q hpv hvz).2.2.2⟩); exact (⟨(az_sp_l hv q (by omega) hpv hvz).2.2.1, (az_sp_l hv q (by omega) hpv hvz).2.2.2⟩)
          refine tp_i (nI pv) (rfl) ?_
          refine lv_istore (lv' := [(8, .int (nI pv)), (7, .int (nI (min (az_pl T n 58 at_) to))), (0, .ref h0), (1, .int (nI fr)), (2, .int (nI to)), (3, .int (nI fs)), (4, .int (nI (az_cn T fr to))), (5, .int (nI at_)), (6, .int (nI k))]) hx hb dX1_readParts_43 hl (by decide) rfl (fun ls hl => ?_)
          refine lv_iload hx hb dX1_readParts_45 (lv_at hl 0 rfl) ?_
          refine lv_iconst (v := -1) hx hb dX1_readParts_47 (by decide) ?_
          refine lv_icmp_ne (tgt := 53) hx hb dX1_readParts_48 (by decide) (fun _ => ?_) (fun c => absurd c (nI_m1 (by omega)))
          refine lv_aload_n hx hb dX1_readParts_53 rfl (lv_at hl 2 rfl) ?_
          refine va_get (D := (dC, dI)) (ci := 1) (v := .ref a3) (C := RX1) (T := TX1) (N := 7) hx hb hts hiX1 hown hK hP 0 rfl rfl 6 (by decide) hf33 (fun _ h9 => h9) rfl dX1_readParts_54 ?_
          refine lv_iload_n hx hb dX1_readParts_57 rfl (lv_at hl 5 rfl) ?_
          refine lv_iload hx hb dX1_readParts_58 (lv_at hl 8 rfl) ?_
          refine lv_iadd hx hb dX1_readParts_60 ?_
          refine tp_i (nI (fs + k)) (nI_add _ _) ?_
          refine lv_iload hx hb dX1_readParts_61 (lv_at hl 0 rfl) ?_
          refine wc_Vv (As := [.int (nI (fs + k)), .int (nI pv)]) (rest := []) (wr := [(h0, .inr (1, [.ref ht, .int (nI n), .ref hw, .int (nI w), .ref a1, .ref a2, .ref a3])), (ht, .inl (cT, 60, .inl f))]) ⟨hx, hb, hml, hown, hts⟩ (ct_setPart l dC dI H.size a3 6 128 v (fs + k) pv hv (by omega) hpv hvz) (cwV 2 hts gX1_readParts_X0_setPart rfl rfl rfl (by decide +kernel) ⟨Nat.le_of_ble_eq_true rfl, Nat.le_of_ble_eq_true rfl⟩) hP hD hK hS hA [2] [0, 1] [] rfl rfl (by decide) (by decide) (by decide) rfl 0 rfl rfl rfl hl.1 rfl (Nat.le_of_ble_eq_true rfl) dX1_readParts_63 ⟨(Nat.zero_le _), (Nat.zero_le _)⟩ (fun u63 H locs hp63 hP hD hS => ?_)
          try dsimp only at hp63
          have hP : va_P (dC, dI) azCl [(h0, .inr (1, [.ref ht, .int (nI n), .ref hw, .int (nI w), .ref a1, .ref a2, .ref a3])), (ht, .inl (cT, 60, .inl f)), (a3, .inr (0, [.int (nI 6), .int (nI 128), .long (lN ((az_sp v (fs + k) pv) / 18446744073709551616)), .long (lN ((az_sp v (fs + k) pv) % 18446744073709551616))]))] H := hP
          have hD : va_D A [(h0, .inr (1, [.ref ht, .int (nI n), .ref hw, .int (nI w), .ref a1, .ref a2, .ref a3])), (ht, .inl (cT, 60, .inl f)), (a3, .inr (0, [.int (nI 6), .int (nI 128), .long (lN ((az_sp v (fs + k) pv) / 18446744073709551616)), .long (lN ((az_sp v (fs + k) pv) % 18446744073709551616))]))] := hD
          refine lv_iload hx hb dX1_readParts_66 (lv_at hl 1 rfl) ?_
          refine lv_iconst (v := nI 1) hx hb dX1_readParts_68 (by decide) ?_
          refine lv_iadd hx hb dX1_readParts_69 ?_
          refine tp_i (nI ((min (az_pl T n 58 at_) to) + 1)) (nI_add _ _) ?_
          refine lv_istore (lv' := [(5, .int (nI ((min (az_pl T n 58 at_) to) + 1))), (8, .int (nI pv)), (7, .int (nI (min (az_pl T n 58 at_) to))), (0, .ref h0), (1, .int (nI fr)), (2, .int (nI to)), (3, .int (nI fs)), (4, .int (nI (az_cn T fr to))), (6, .int (nI k))]) hx hb dX1_readParts_70 hl (by decide) rfl (fun ls hl => ?_)
          refine lv_iinc (v := nI (k + 1)) (lv' := [(6, .int (nI (k + 1))), (5, .int (nI ((min (az_pl T n 58 at_) to) + 1))), (8, .int (nI pv)), (7, .int (nI (min (az_pl T n 58 at_) to))), (0, .ref h0), (1, .int (nI fr)), (2, .int (nI to)), (3, .int (nI fs)), (4, .int (nI (az_cn T fr to)))]) hx hb dX1_readParts_72 hl (k := 8) rfl (nI_add _ 1) (by decide) rfl (fun ls hl => ?_)
          refine lv_goto (tgt := 14) hx hb dX1_readParts_75 (by decide) ?_
          exact ih (k + 1) (min (az_pl T n 58 at_) to + 1) (az_sp v (fs + k) pv) (by omega) (by omega) (hsp.1) (hsp.2) (by rw [← hrv, az_rv_step c18 hd]; rfl) (by omega) _ _ (hP.sub [0, 1, 2] rfl) (hD.sub [0, 1, 2] (by decide) rfl) hS ls (lv_sub hl [4, 5, 6, 7, 8, 1, 0] rfl)
  exact lp14 _ 0 fr V (Nat.zero_le _) (hfr) (hV) (hVz) (rfl) (Nat.lt_succ_self _) _ _ (hP.sub [0, 1, 2] rfl) (hD.sub [0, 1, 2] (by decide) rfl) hS ls (lv_sub hl [3, 4, 5, 6, 2, 1, 0] rfl)
set_option maxRecDepth 100000 in
set_option maxHeartbeats 4000000 in
/-- readSix() -/
theorem ct_readSix (l : Launch) (dC : Nat → ClassId) (dI : Nat → Nat → Nat) (sz : Nat) (h0 ht hw a1 a2 a3 n w : Nat) (cT : ClassId) (f : Nat → Int32) (T : Nat → Nat) (hT : az_tp f T n) (hn : n ≤ 60) (e1 e2 : Int32) (e3 e4 : Int64) : Met l yX1_readSix wsX1_readSix ({ frames := 4, cells := 0, slots := 0, locals := 96 }) (wr_P (dC, dI) azCl [(h0, .inr (1, [.ref ht, .int (nI n), .ref hw, .int (nI w), .ref a1, .ref a2, .ref a3])), (ht, .inl (cT, 60, .inl f)), (a3, .inr (0, [.int e1, .int e2, .long e3, .long e4]))] [(cT, .byte)] sz [.ref h0]) (va_Qi (fun r u => u < 340282366920938463463374607431768211456 ∧ ((az_six T n = none ∧ r = nI 0) ∨ (az_six T n = some u ∧ r = nI 1))) (wr_B (dC, dI) azCl [(cT, .byte)] (va_A [(h0, .inr (1, [.ref ht, .int (nI n), .ref hw, .int (nI w), .ref a1, .ref a2, .ref a3])), (ht, .inl (cT, 60, .inl f)), (a3, .inr (0, [.int e1, .int e2, .long e3, .long e4]))] sz) (fun u : Nat => [(h0, .inr (1, [.ref ht, .int (nI n), .ref hw, .int (nI w), .ref a1, .ref a2, .ref a3])), (ht, .inl (cT, 60, .inl f)), (a3, .inr (0, [.int (nI 6), .int (nI 128), .long (lN (u / 18446744073709551616)), .long (lN (u % 18446744073709551616))]))])) (va_A [(h0, .inr (1, [.ref ht, .int (nI n), .ref hw, .int (nI w), .ref a1, .ref a2, .ref a3])), (ht, .inl (cT, 60, .inl f)), (a3, .inr (0, [.int e1, .int e2, .long e3, .long e4]))] sz)) 0 0 (va_A [(h0, .inr (1, [.ref ht, .int (nI n), .ref hw, .int (nI w), .ref a1, .ref a2, .ref a3])), (ht, .inl (cT, 60, .inl f)), (a3, .inr (0, [.int e1, .int e2, .long e3, .long e4]))] sz) := by
  refine Met.ofW (cc := cX1_readSix) (maxL := 5) (ret := (some .boolean)) (by decide) rfl ?_
  intro p e s m args below meth c s₁ Bd hml hv
  obtain ⟨rfl, hsz, hP, hK, hD0⟩ := hv
  have hx := Bd.exec
  have hb := Bd.bytes
  have hr := Bd.returns
  have hts := atoms_spec (ws := wsX1_readSix) Bd.pre
  have hown : s.vm.findClass RX1 = some m.cls := findClass_of_methodNamed Bd.named
  have hlocks := Bd.notSynchronized
  subst hsz
  have hD := hD0.self (sz := s.heap.size)
  generalize hAe : va_A [(h0, .inr (1, [.ref ht, .int (nI n), .ref hw, .int (nI w), .ref a1, .ref a2, .ref a3])), (ht, .inl (cT, 60, .inl f)), (a3, .inr (0, [.int e1, .int e2, .long e3, .long e4]))] s.heap.size = A at hD ⊢
  have hA : ∀ q : Nat, s.heap.size ≤ q → A q := fun q h => by rw [← hAe]; exact Or.inr h
  have hS : va_S A s.heap s.heap [] := va_S.rf
  have hP : va_P (dC, dI) azCl [(h0, .inr (1, [.ref ht, .int (nI n), .ref hw, .int (nI w), .ref a1, .ref a2, .ref a3])), (ht, .inl (cT, 60, .inl f)), (a3, .inr (0, [.int e1, .int e2, .long e3, .long e4]))] s.heap := hP
  have hiX1 : ∀ w ∈ wsX10, w ∈ wsX1_readSix := by decide +kernel
  have hf33 := hts (.fieldLink RX1 33 "AddressTexts" "spare" "LAddressTexts$Address;") (by decide +kernel)
  have hf13 := hts (.fieldLink RX1 13 "AddressTexts" "tapeCount" "I") (by decide +kernel)
  have hl := lv_entry ([.ref h0]) (n := 5) (Nat.le_of_ble_eq_true rfl)
  rw [lg_entry_eq]
  generalize (lg_sl ([.ref h0]) ++ List.replicate (5 - (lg_sl ([.ref h0])).length) Slot.unset).toArray = ls at hl ⊢
  have hl : lv_has ls 5 [(0, .ref h0)] := hl
  refine lv_aload_n hx hb dX1_readSix_0 rfl (lv_at hl 0 rfl) ?_
  refine va_get (D := (dC, dI)) (ci := 1) (v := .ref a3) (C := RX1) (T := TX1) (N := 7) hx hb hts hiX1 hown hK hP 0 rfl rfl 6 (by decide) hf33 (fun _ h9 => h9) rfl dX1_readSix_1 ?_
  refine lv_bipush (v := nI 6) hx hb dX1_readSix_4 (by decide) ?_
  refine wc_Vv (As := [.int (nI 6)]) (rest := []) (wr := [(h0, .inr (1, [.ref ht, .int (nI n), .ref hw, .int (nI w), .ref a1, .ref a2, .ref a3])), (ht, .inl (cT, 60, .inl f))]) ⟨hx, hb, hml, hown, hts⟩ (ct_clear l dC dI s.heap.size a3 6 e1 e2 e3 e4 (by omega)) (cwV 1 hts gX1_readSix_X0_clear rfl rfl rfl (by decide +kernel) ⟨Nat.le_of_ble_eq_true rfl, Nat.le_of_ble_eq_true rfl⟩) hP hD hK hS hA [2] [0, 1] [] rfl rfl (by decide) (by decide) (by decide) rfl 0 rfl rfl rfl hl.1 rfl (Nat.le_of_ble_eq_true rfl) dX1_readSix_6 ⟨(Nat.zero_le _), (Nat.zero_le _)⟩ (fun u0 H locs hp0 hP hD hS => ?_)
  try dsimp only at hp0
  have hP : va_P (dC, dI) azCl [(h0, .inr (1, [.ref ht, .int (nI n), .ref hw, .int (nI w), .ref a1, .ref a2, .ref a3])), (ht, .inl (cT, 60, .inl f)), (a3, .inr (0, [.int (nI 6), .int (nI 128), .long (lN (0 / 18446744073709551616)), .long (lN (0 % 18446744073709551616))]))] H := hP
  have hD : va_D A [(h0, .inr (1, [.ref ht, .int (nI n), .ref hw, .int (nI w), .ref a1, .ref a2, .ref a3])), (ht, .inl (cT, 60, .inl f)), (a3, .inr (0, [.int (nI 6), .int (nI 128), .long (lN (0 / 18446744073709551616)), .long (lN (0 % 18446744073709551616))]))] := hD
  have hgl := az_gp_le (T := T) (n := n) (i := 0)
  have hca := az_cn_le (T := T) (fr := 0) (to := az_gp T n 0)
  have hcb := az_cn_le (T := T) (fr := az_gp T n 0 + 2) (to := n)
  refine lv_aload_n hx hb dX1_readSix_9 rfl (lv_at hl 0 rfl) ?_
  refine rc_Vi (As := []) (rest := []) ⟨hx, hb, hml, hown, hts⟩ (ct_placeOfGap l dC dI h0 ht hw a1 a2 a3 n w cT f T hT hn) (cwV 0 hts gX1_readSix_X1_placeOfGap rfl rfl rfl (by decide +kernel) ⟨Nat.le_of_ble_eq_true rfl, Nat.le_of_ble_eq_true rfl⟩) (hP.sub [0, 1] rfl) (hK.sub [0] rfl) 0 rfl rfl rfl hl.1 rfl (Nat.le_of_ble_eq_true rfl) dX1_readSix_10 ⟨(Nat.zero_le _), (Nat.zero_le _)⟩ ?_
  refine lv_istore_n (lv' := [(1, .int (nI (az_gp T n 0))), (0, .ref h0)]) hx hb dX1_readSix_13 rfl hl (by decide) rfl (fun ls hl => ?_)
  refine lv_aload_n hx hb dX1_readSix_14 rfl (lv_at hl 1 rfl) ?_
  refine lv_iconst (v := nI 0) hx hb dX1_readSix_15 (by decide) ?_
  refine lv_iload_n hx hb dX1_readSix_16 rfl (lv_at hl 0 rfl) ?_
  refine rc_Vi (As := [.int (nI 0), .int (nI (az_gp T n 0))]) (rest := []) ⟨hx, hb, hml, hown, hts⟩ (ct_partsIn l dC dI h0 ht hw a1 a2 a3 n w cT f T hT hn 0 (az_gp T n 0) (by omega) hgl) (cwV 2 hts gX1_readSix_X1_partsIn rfl rfl rfl (by decide +kernel) ⟨Nat.le_of_ble_eq_true rfl, Nat.le_of_ble_eq_true rfl⟩) (hP.sub [0, 1] rfl) (hK.sub [0] rfl) 0 rfl rfl rfl hl.1 rfl (Nat.le_of_ble_eq_true rfl) dX1_readSix_17 ⟨(Nat.zero_le _), (Nat.zero_le _)⟩ ?_
  refine lv_istore_n (lv' := [(2, .int (nI (az_cn T 0 (az_gp T n 0)))), (1, .int (nI (az_gp T n 0))), (0, .ref h0)]) hx hb dX1_readSix_20 rfl hl (by decide) rfl (fun ls hl => ?_)
  refine lv_aload_n hx hb dX1_readSix_21 rfl (lv_at hl 2 rfl) ?_
  refine lv_iload_n hx hb dX1_readSix_22 rfl (lv_at hl 1 rfl) ?_
  refine lv_iconst (v := nI 2) hx hb dX1_readSix_23 (by decide) ?_
  refine lv_iadd hx hb dX1_readSix_24 ?_
  refine tp_i (nI ((az_gp T n 0) + 2)) (nI_add _ _) ?_
  refine lv_aload_n hx hb dX1_readSix_25 rfl (lv_at hl 2 rfl) ?_
  refine va_get (D := (dC, dI)) (ci := 1) (v := .int (nI n)) (C := RX1) (T := TX1) (N := 7) hx hb hts hiX1 hown hK hP 0 rfl rfl 1 (by decide) hf13 (fun _ h9 => h9) rfl dX1_readSix_26 ?_
  refine rc_Vi (As := [.int (nI ((az_gp T n 0) + 2)), .int (nI n)]) (rest := []) ⟨hx, hb, hml, hown, hts⟩ (ct_partsIn l dC dI h0 ht hw a1 a2 a3 n w cT f T hT hn (az_gp T n 0 + 2) n (by omega) (Nat.le_refl _)) (cwV 2 hts gX1_readSix_X1_partsIn rfl rfl rfl (by decide +kernel) ⟨Nat.le_of_ble_eq_true rfl, Nat.le_of_ble_eq_true rfl⟩) (hP.sub [0, 1] rfl) (hK.sub [0] rfl) 0 rfl rfl rfl hl.1 rfl (Nat.le_of_ble_eq_true rfl) dX1_readSix_29 ⟨(Nat.zero_le _), (Nat.zero_le _)⟩ ?_
  refine lv_istore_n (lv' := [(3, .int (nI (az_cn T (az_gp T n 0 + 2) n))), (2, .int (nI (az_cn T 0 (az_gp T n 0)))), (1, .int (nI (az_gp T n 0))), (0, .ref h0)]) hx hb dX1_readSix_32 rfl hl (by decide) rfl (fun ls hl => ?_)
  refine lv_iload_n hx hb dX1_readSix_33 rfl (lv_at hl 2 rfl) ?_
  refine lv_aload_n hx hb dX1_readSix_34 rfl (lv_at hl 3 rfl) ?_
  refine va_get (D := (dC, dI)) (ci := 1) (v := .int (nI n)) (C := RX1) (T := TX1) (N := 7) hx hb hts hiX1 hown hK hP 0 rfl rfl 1 (by decide) hf13 (fun _ h9 => h9) rfl dX1_readSix_35 ?_
  refine bn_ge (tgt := 57) hx hb dX1_readSix_38 (by decide) (by omega) (by omega) (fun c38 => ?_) (fun c38 => ?_)
  · refine lv_iload_n hx hb dX1_readSix_57 rfl (lv_at hl 1 rfl) ?_
    refine lv_bipush (v := nI 8) hx hb dX1_readSix_58 (by decide) ?_
    refine bn_ne (tgt := 67) hx hb dX1_readSix_60 (by decide) (by omega) (by omega) (fun c60 => ?_) (fun c60 => ?_)
    · refine lv_iconst (v := nI 0) hx hb dX1_readSix_67 (by decide) ?_
      refine lv_istore (lv' := [(4, .int (nI 0)), (3, .int (nI (az_cn T (az_gp T n 0 + 2) n))), (2, .int (nI (az_cn T 0 (az_gp T n 0)))), (1, .int (nI (az_gp T n 0))), (0, .ref h0)]) hx hb dX1_readSix_68 hl (by decide) rfl (fun ls hl => ?_)
      refine lv_iload hx hb dX1_readSix_70 (lv_at hl 0 rfl) ?_
      refine lv_if_eq (tgt := 107) hx hb dX1_readSix_72 (by decide) (fun _ => ?_) (fun c => absurd c (by decide))
      refine lv_iconst (v := nI 0) hx hb dX1_readSix_107 (by decide) ?_
      exact wt_z hx hb hr (rfl) (0) (⟨by omega, Or.inl ⟨by unfold az_six; rw [if_neg (by omega)], rfl⟩⟩) (hP.sub [0, 1, 2] rfl) hK (hD.sub [0, 1, 2] (by decide) rfl) hS dX1_readSix_108 hlocks
    · refine lv_iconst (v := nI 1) hx hb dX1_readSix_63 (by decide) ?_
      refine lv_goto (tgt := 68) hx hb dX1_readSix_64 (by decide) ?_
      refine lv_istore (lv' := [(4, .int (nI 1)), (3, .int (nI (az_cn T (az_gp T n 0 + 2) n))), (2, .int (nI (az_cn T 0 (az_gp T n 0)))), (1, .int (nI (az_gp T n 0))), (0, .ref h0)]) hx hb dX1_readSix_68 hl (by decide) rfl (fun ls hl => ?_)
      refine lv_iload hx hb dX1_readSix_70 (lv_at hl 0 rfl) ?_
      refine lv_if_eq (tgt := 107) hx hb dX1_readSix_72 (by decide) (fun c => absurd c (by decide)) (fun _ => ?_)
      refine lv_aload_n hx hb dX1_readSix_75 rfl (lv_at hl 4 rfl) ?_
      refine lv_iconst (v := nI 0) hx hb dX1_readSix_76 (by decide) ?_
      refine lv_iload_n hx hb dX1_readSix_77 rfl (lv_at hl 3 rfl) ?_
      refine lv_iconst (v := nI 0) hx hb dX1_readSix_78 (by decide) ?_
      refine wc_Vi (As := [.int (nI 0), .int (nI (az_gp T n 0)), .int (nI 0)]) (rest := []) (wr := []) ⟨hx, hb, hml, hown, hts⟩ (ct_readParts l dC dI H.size h0 ht hw a1 a2 a3 n w cT f T hT hn 0 (az_gp T n 0) 0 0 (by omega) (by omega) (by omega) (by decide) (by omega)) (cwV 3 hts gX1_readSix_X1_readParts rfl rfl rfl (by decide +kernel) ⟨Nat.le_of_ble_eq_true rfl, Nat.le_of_ble_eq_true rfl⟩) hP hD hK hS hA [0, 1, 2] [] [0] rfl rfl (by decide) (by decide) (by decide) rfl 0 rfl rfl rfl hl.1 rfl (Nat.le_of_ble_eq_true rfl) dX1_readSix_79 ⟨(Nat.zero_le _), (Nat.zero_le _)⟩ (fun r1 v1 H locs hp1 hP hD hS => ?_)
      try dsimp only at hp1
      have hP : va_P (dC, dI) azCl [(h0, .inr (1, [.ref ht, .int (nI n), .ref hw, .int (nI w), .ref a1, .ref a2, .ref a3])), (ht, .inl (cT, 60, .inl f)), (a3, .inr (0, [.int (nI 6), .int (nI 128), .long (lN (v1 / 18446744073709551616)), .long (lN (v1 % 18446744073709551616))]))] H := hP
      have hD : va_D A [(h0, .inr (1, [.ref ht, .int (nI n), .ref hw, .int (nI w), .ref a1, .ref a2, .ref a3])), (ht, .inl (cT, 60, .inl f)), (a3, .inr (0, [.int (nI 6), .int (nI 128), .long (lN (v1 / 18446744073709551616)), .long (lN (v1 % 18446744073709551616))]))] := hD
      obtain ⟨hu1, ⟨ea1, er1⟩ | ⟨ea1, er1, ez1⟩⟩ := hp1
      · subst er1
        refine lv_if_eq (tgt := 107) hx hb dX1_readSix_82 (by decide) (fun _ => ?_) (fun c => absurd c (by decide))
        refine lv_iconst (v := nI 0) hx hb dX1_readSix_107 (by decide) ?_
        exact wt_z hx hb hr (rfl) (v1) (⟨hu1, Or.inl ⟨by unfold az_six; rw [if_pos (by omega), ea1], rfl⟩⟩) (hP.sub [0, 1, 2] rfl) hK (hD.sub [0, 1, 2] (by decide) rfl) hS dX1_readSix_108 hlocks
      · subst er1
        refine lv_if_eq (tgt := 107) hx hb dX1_readSix_82 (by decide) (fun c => absurd c (by decide)) (fun _ => ?_)
        refine lv_aload_n hx hb dX1_readSix_85 rfl (lv_at hl 4 rfl) ?_
        refine lv_iload_n hx hb dX1_readSix_86 rfl (lv_at hl 3 rfl) ?_
        refine lv_iconst (v := nI 2) hx hb dX1_readSix_87 (by decide) ?_
        refine lv_iadd hx hb dX1_readSix_88 ?_
        refine tp_i (nI ((az_gp T n 0) + 2)) (nI_add _ _) ?_
        refine lv_aload_n hx hb dX1_readSix_89 rfl (lv_at hl 4 rfl) ?_
        refine va_get (D := (dC, dI)) (ci := 1) (v := .int (nI n)) (C := RX1) (T := TX1) (N := 7) hx hb hts hiX1 hown hK hP 0 rfl rfl 1 (by decide) hf13 (fun _ h9 => h9) rfl dX1_readSix_90 ?_
        refine lv_bipush (v := nI 8) hx hb dX1_readSix_93 (by decide) ?_
        refine lv_iload_n hx hb dX1_readSix_95 rfl (lv_at hl 1 rfl) ?_
        have h8 : az_cn T (az_gp T n 0 + 2) n ≤ 8 := by first | omega | (rw [az_cn_0 (by omega)]; omega)
        refine lv_isub hx hb dX1_readSix_96 ?_
        refine tp_i (nI (8 - (az_cn T (az_gp T n 0 + 2) n))) (pk_sub (by omega)) ?_
        refine wc_Vi (As := [.int (nI ((az_gp T n 0) + 2)), .int (nI n), .int (nI (8 - (az_cn T (az_gp T n 0 + 2) n)))]) (rest := []) (wr := []) ⟨hx, hb, hml, hown, hts⟩ (ct_readParts l dC dI H.size h0 ht hw a1 a2 a3 n w cT f T hT hn (az_gp T n 0 + 2) n (8 - az_cn T (az_gp T n 0 + 2) n) v1 (by omega) (by omega) hu1 (az_mono ez1 (by first | omega | (rw [az_cn_0 (T := T) (fr := az_gp T n 0 + 2) (to := n) (by omega)]; omega))) (by omega)) (cwV 3 hts gX1_readSix_X1_readParts rfl rfl rfl (by decide +kernel) ⟨Nat.le_of_ble_eq_true rfl, Nat.le_of_ble_eq_true rfl⟩) hP hD hK hS hA [0, 1, 2] [] [0] rfl rfl (by decide) (by decide) (by decide) rfl 0 rfl rfl rfl hl.1 rfl (Nat.le_of_ble_eq_true rfl) dX1_readSix_97 ⟨(Nat.zero_le _), (Nat.zero_le _)⟩ (fun r2 v2 H locs hp2 hP hD hS => ?_)
        try dsimp only at hp2
        have hP : va_P (dC, dI) azCl [(h0, .inr (1, [.ref ht, .int (nI n), .ref hw, .int (nI w), .ref a1, .ref a2, .ref a3])), (ht, .inl (cT, 60, .inl f)), (a3, .inr (0, [.int (nI 6), .int (nI 128), .long (lN (v2 / 18446744073709551616)), .long (lN (v2 % 18446744073709551616))]))] H := hP
        have hD : va_D A [(h0, .inr (1, [.ref ht, .int (nI n), .ref hw, .int (nI w), .ref a1, .ref a2, .ref a3])), (ht, .inl (cT, 60, .inl f)), (a3, .inr (0, [.int (nI 6), .int (nI 128), .long (lN (v2 / 18446744073709551616)), .long (lN (v2 % 18446744073709551616))]))] := hD
        obtain ⟨hu2, ⟨ea2, er2⟩ | ⟨ea2, er2, ez2⟩⟩ := hp2
        · subst er2
          refine lv_if_eq (tgt := 107) hx hb dX1_readSix_100 (by decide) (fun _ => ?_) (fun c => absurd c (by decide))
          refine lv_iconst (v := nI 0) hx hb dX1_readSix_107 (by decide) ?_
          exact wt_z hx hb hr (rfl) (v2) (⟨hu2, Or.inl ⟨by unfold az_six; rw [if_pos (by omega), ea1]; exact ea2, rfl⟩⟩) (hP.sub [0, 1, 2] rfl) hK (hD.sub [0, 1, 2] (by decide) rfl) hS dX1_readSix_108 hlocks
        · subst er2
          refine lv_if_eq (tgt := 107) hx hb dX1_readSix_100 (by decide) (fun c => absurd c (by decide)) (fun _ => ?_)
          refine lv_iconst (v := nI 1) hx hb dX1_readSix_103 (by decide) ?_
          refine lv_goto (tgt := 108) hx hb dX1_readSix_104 (by decide) ?_
          exact wt_z hx hb hr (rfl) (v2) (⟨hu2, Or.inr ⟨by unfold az_six; rw [if_pos (by omega), ea1]; exact ea2, rfl⟩⟩) (hP.sub [0, 1, 2] rfl) hK (hD.sub [0, 1, 2] (by decide) rfl) hS dX1_readSix_108 hlocks
  · refine lv_iload_n hx hb dX1_readSix_41 rfl (lv_at hl 1 rfl) ?_
    refine lv_iload_n hx hb dX1_readSix_42 rfl (lv_at hl 0 rfl) ?_
    refine lv_iadd hx hb dX1_readSix_43 ?_
    refine tp_i (nI ((az_cn T 0 (az_gp T n 0)) + (az_cn T (az_gp T n 0 + 2) n))) (nI_add _ _) ?_
    refine lv_bipush (v := nI 8) hx hb dX1_readSix_44 (by decide) ?_
    refine bn_ge (tgt := 53) hx hb dX1_readSix_46 (by decide) (by omega) (by omega) (fun c46 => ?_) (fun c46 => ?_)
    · refine lv_iconst (v := nI 0) hx hb dX1_readSix_53 (by decide) ?_
      refine lv_goto (tgt := 68) hx hb dX1_readSix_54 (by decide) ?_
      refine lv_istore (lv' := [(4, .int (nI 0)), (3, .int (nI (az_cn T (az_gp T n 0 + 2) n))), (2, .int (nI (az_cn T 0 (az_gp T n 0)))), (1, .int (nI (az_gp T n 0))), (0, .ref h0)]) hx hb dX1_readSix_68 hl (by decide) rfl (fun ls hl => ?_)
      refine lv_iload hx hb dX1_readSix_70 (lv_at hl 0 rfl) ?_
      refine lv_if_eq (tgt := 107) hx hb dX1_readSix_72 (by decide) (fun _ => ?_) (fun c => absurd c (by decide))
      refine lv_iconst (v := nI 0) hx hb dX1_readSix_107 (by decide) ?_
      exact wt_z hx hb hr (rfl) (0) (⟨by omega, Or.inl ⟨by unfold az_six; rw [if_neg (by omega)], rfl⟩⟩) (hP.sub [0, 1, 2] rfl) hK (hD.sub [0, 1, 2] (by decide) rfl) hS dX1_readSix_108 hlocks
    · refine lv_iconst (v := nI 1) hx hb dX1_readSix_49 (by decide) ?_
      refine lv_goto (tgt := 68) hx hb dX1_readSix_50 (by decide) ?_
      refine lv_istore (lv' := [(4, .int (nI 1)), (3, .int (nI (az_cn T (az_gp T n 0 + 2) n))), (2, .int (nI (az_cn T 0 (az_gp T n 0)))), (1, .int (nI (az_gp T n 0))), (0, .ref h0)]) hx hb dX1_readSix_68 hl (by decide) rfl (fun ls hl => ?_)
      refine lv_iload hx hb dX1_readSix_70 (lv_at hl 0 rfl) ?_
      refine lv_if_eq (tgt := 107) hx hb dX1_readSix_72 (by decide) (fun c => absurd c (by decide)) (fun _ => ?_)
      refine lv_aload_n hx hb dX1_readSix_75 rfl (lv_at hl 4 rfl) ?_
      refine lv_iconst (v := nI 0) hx hb dX1_readSix_76 (by decide) ?_
      refine lv_iload_n hx hb dX1_readSix_77 rfl (lv_at hl 3 rfl) ?_
      refine lv_iconst (v := nI 0) hx hb dX1_readSix_78 (by decide) ?_
      refine wc_Vi (As := [.int (nI 0), .int (nI (az_gp T n 0)), .int (nI 0)]) (rest := []) (wr := []) ⟨hx, hb, hml, hown, hts⟩ (ct_readParts l dC dI H.size h0 ht hw a1 a2 a3 n w cT f T hT hn 0 (az_gp T n 0) 0 0 (by omega) (by omega) (by omega) (by decide) (by omega)) (cwV 3 hts gX1_readSix_X1_readParts rfl rfl rfl (by decide +kernel) ⟨Nat.le_of_ble_eq_true rfl, Nat.le_of_ble_eq_true rfl⟩) hP hD hK hS hA [0, 1, 2] [] [0] rfl rfl (by decide) (by decide) (by decide) rfl 0 rfl rfl rfl hl.1 rfl (Nat.le_of_ble_eq_true rfl) dX1_readSix_79 ⟨(Nat.zero_le _), (Nat.zero_le _)⟩ (fun r1 v1 H locs hp1 hP hD hS => ?_)
      try dsimp only at hp1
      have hP : va_P (dC, dI) azCl [(h0, .inr (1, [.ref ht, .int (nI n), .ref hw, .int (nI w), .ref a1, .ref a2, .ref a3])), (ht, .inl (cT, 60, .inl f)), (a3, .inr (0, [.int (nI 6), .int (nI 128), .long (lN (v1 / 18446744073709551616)), .long (lN (v1 % 18446744073709551616))]))] H := hP
      have hD : va_D A [(h0, .inr (1, [.ref ht, .int (nI n), .ref hw, .int (nI w), .ref a1, .ref a2, .ref a3])), (ht, .inl (cT, 60, .inl f)), (a3, .inr (0, [.int (nI 6), .int (nI 128), .long (lN (v1 / 18446744073709551616)), .long (lN (v1 % 18446744073709551616))]))] := hD
      obtain ⟨hu1, ⟨ea1, er1⟩ | ⟨ea1, er1, ez1⟩⟩ := hp1
      · subst er1
        refine lv_if_eq (tgt := 107) hx hb dX1_readSix_82 (by decide) (fun _ => ?_) (fun c => absurd c (by decide))
        refine lv_iconst (v := nI 0) hx hb dX1_readSix_107 (by decide) ?_
        exact wt_z hx hb hr (rfl) (v1) (⟨hu1, Or.inl ⟨by unfold az_six; rw [if_pos (by omega), ea1], rfl⟩⟩) (hP.sub [0, 1, 2] rfl) hK (hD.sub [0, 1, 2] (by decide) rfl) hS dX1_readSix_108 hlocks
      · subst er1
        refine lv_if_eq (tgt := 107) hx hb dX1_readSix_82 (by decide) (fun c => absurd c (by decide)) (fun _ => ?_)
        refine lv_aload_n hx hb dX1_readSix_85 rfl (lv_at hl 4 rfl) ?_
        refine lv_iload_n hx hb dX1_readSix_86 rfl (lv_at hl 3 rfl) ?_
        refine lv_iconst (v := nI 2) hx hb dX1_readSix_87 (by decide) ?_
        refine lv_iadd hx hb dX1_readSix_88 ?_
        refine tp_i (nI ((az_gp T n 0) + 2)) (nI_add _ _) ?_
        refine lv_aload_n hx hb dX1_readSix_89 rfl (lv_at hl 4 rfl) ?_
        refine va_get (D := (dC, dI)) (ci := 1) (v := .int (nI n)) (C := RX1) (T := TX1) (N := 7) hx hb hts hiX1 hown hK hP 0 rfl rfl 1 (by decide) hf13 (fun _ h9 => h9) rfl dX1_readSix_90 ?_
        refine lv_bipush (v := nI 8) hx hb dX1_readSix_93 (by decide) ?_
        refine lv_iload_n hx hb dX1_readSix_95 rfl (lv_at hl 1 rfl) ?_
        have h8 : az_cn T (az_gp T n 0 + 2) n ≤ 8 := by first | omega | (rw [az_cn_0 (by omega)]; omega)
        refine lv_isub hx hb dX1_readSix_96 ?_
        refine tp_i (nI (8 - (az_cn T (az_gp T n 0 + 2) n))) (pk_sub (by omega)) ?_
        refine wc_Vi (As := [.int (nI ((az_gp T n 0) + 2)), .int (nI n), .int (nI (8 - (az_cn T (az_gp T n 0 + 2) n)))]) (rest := []) (wr := []) ⟨hx, hb, hml, hown, hts⟩ (ct_readParts l dC dI H.size h0 ht hw a1 a2 a3 n w cT f T hT hn (az_gp T n 0 + 2) n (8 - az_cn T (az_gp T n 0 + 2) n) v1 (by omega) (by omega) hu1 (az_mono ez1 (by first | omega | (rw [az_cn_0 (T := T) (fr := az_gp T n 0 + 2) (to := n) (by omega)]; omega))) (by omega)) (cwV 3 hts gX1_readSix_X1_readParts rfl rfl rfl (by decide +kernel) ⟨Nat.le_of_ble_eq_true rfl, Nat.le_of_ble_eq_true rfl⟩) hP hD hK hS hA [0, 1, 2] [] [0] rfl rfl (by decide) (by decide) (by decide) rfl 0 rfl rfl rfl hl.1 rfl (Nat.le_of_ble_eq_true rfl) dX1_readSix_97 ⟨(Nat.zero_le _), (Nat.zero_le _)⟩ (fun r2 v2 H locs hp2 hP hD hS => ?_)
        try dsimp only at hp2
        have hP : va_P (dC, dI) azCl [(h0, .inr (1, [.ref ht, .int (nI n), .ref hw, .int (nI w), .ref a1, .ref a2, .ref a3])), (ht, .inl (cT, 60, .inl f)), (a3, .inr (0, [.int (nI 6), .int (nI 128), .long (lN (v2 / 18446744073709551616)), .long (lN (v2 % 18446744073709551616))]))] H := hP
        have hD : va_D A [(h0, .inr (1, [.ref ht, .int (nI n), .ref hw, .int (nI w), .ref a1, .ref a2, .ref a3])), (ht, .inl (cT, 60, .inl f)), (a3, .inr (0, [.int (nI 6), .int (nI 128), .long (lN (v2 / 18446744073709551616)), .long (lN (v2 % 18446744073709551616))]))] := hD
        obtain ⟨hu2, ⟨ea2, er2⟩ | ⟨ea2, er2, ez2⟩⟩ := hp2
        · subst er2
          refine lv_if_eq (tgt := 107) hx hb dX1_readSix_100 (by decide) (fun _ => ?_) (fun c => absurd c (by decide))
          refine lv_iconst (v := nI 0) hx hb dX1_readSix_107 (by decide) ?_
          exact wt_z hx hb hr (rfl) (v2) (⟨hu2, Or.inl ⟨by unfold az_six; rw [if_pos (by omega), ea1]; exact ea2, rfl⟩⟩) (hP.sub [0, 1, 2] rfl) hK (hD.sub [0, 1, 2] (by decide) rfl) hS dX1_readSix_108 hlocks
        · subst er2
          refine lv_if_eq (tgt := 107) hx hb dX1_readSix_100 (by decide) (fun c => absurd c (by decide)) (fun _ => ?_)
          refine lv_iconst (v := nI 1) hx hb dX1_readSix_103 (by decide) ?_
          refine lv_goto (tgt := 108) hx hb dX1_readSix_104 (by decide) ?_
          exact wt_z hx hb hr (rfl) (v2) (⟨hu2, Or.inr ⟨by unfold az_six; rw [if_pos (by omega), ea1]; exact ea2, rfl⟩⟩) (hP.sub [0, 1, 2] rfl) hK (hD.sub [0, 1, 2] (by decide) rfl) hS dX1_readSix_108 hlocks
set_option maxRecDepth 100000 in
set_option maxHeartbeats 4000000 in
/-- readFour() -/
theorem ct_readFour (l : Launch) (dC : Nat → ClassId) (dI : Nat → Nat → Nat) (sz : Nat) (h0 ht hw a1 a2 a3 n w : Nat) (cT : ClassId) (f : Nat → Int32) (T : Nat → Nat) (hT : az_tp f T n) (hn : n ≤ 60) (e1 e2 : Int32) (e3 e4 : Int64) : Met l yX1_readFour wsX1_readFour ({ frames := 3, cells := 0, slots := 0, locals := 70 }) (wr_P (dC, dI) azCl [(h0, .inr (1, [.ref ht, .int (nI n), .ref hw, .int (nI w), .ref a1, .ref a2, .ref a3])), (ht, .inl (cT, 60, .inl f)), (a3, .inr (0, [.int e1, .int e2, .long e3, .long e4]))] [(cT, .byte)] sz [.ref h0]) (va_Qi (fun r u => u < 4294967296 ∧ ((az_q4 T n 4 0 0 = none ∧ r = nI 0) ∨ (az_q4 T n 4 0 0 = some u ∧ r = nI 1))) (wr_B (dC, dI) azCl [(cT, .byte)] (va_A [(h0, .inr (1, [.ref ht, .int (nI n), .ref hw, .int (nI w), .ref a1, .ref a2, .ref a3])), (ht, .inl (cT, 60, .inl f)), (a3, .inr (0, [.int e1, .int e2, .long e3, .long e4]))] sz) (fun u : Nat => [(h0, .inr (1, [.ref ht, .int (nI n), .ref hw, .int (nI w), .ref a1, .ref a2, .ref a3])), (ht, .inl (cT, 60, .inl f)), (a3, .inr (0, [.int (nI 4), .int (nI 32), .long (lN (u / 18446744073709551616)), .long (lN (u % 18446744073709551616))]))])) (va_A [(h0, .inr (1, [.ref ht, .int (nI n), .ref hw, .int (nI w), .ref a1, .ref a2, .ref a3])), (ht, .inl (cT, 60, .inl f)), (a3, .inr (0, [.int e1, .int e2, .long e3, .long e4]))] sz)) 0 0 (va_A [(h0, .inr (1, [.ref ht, .int (nI n), .ref hw, .int (nI w), .ref a1, .ref a2, .ref a3])), (ht, .inl (cT, 60, .inl f)), (a3, .inr (0, [.int e1, .int e2, .long e3, .long e4]))] sz) := by
  refine Met.ofW (cc := cX1_readFour) (maxL := 5) (ret := (some .boolean)) (by decide) rfl ?_
  intro p e s m args below meth c s₁ Bd hml hv
  obtain ⟨rfl, hsz, hP, hK, hD0⟩ := hv
  have hx := Bd.exec
  have hb := Bd.bytes
  have hr := Bd.returns
  have hts := atoms_spec (ws := wsX1_readFour) Bd.pre
  have hown : s.vm.findClass RX1 = some m.cls := findClass_of_methodNamed Bd.named
  have hlocks := Bd.notSynchronized
  subst hsz
  have hD := hD0.self (sz := s.heap.size)
  generalize hAe : va_A [(h0, .inr (1, [.ref ht, .int (nI n), .ref hw, .int (nI w), .ref a1, .ref a2, .ref a3])), (ht, .inl (cT, 60, .inl f)), (a3, .inr (0, [.int e1, .int e2, .long e3, .long e4]))] s.heap.size = A at hD ⊢
  have hA : ∀ q : Nat, s.heap.size ≤ q → A q := fun q h => by rw [← hAe]; exact Or.inr h
  have hS : va_S A s.heap s.heap [] := va_S.rf
  have hP : va_P (dC, dI) azCl [(h0, .inr (1, [.ref ht, .int (nI n), .ref hw, .int (nI w), .ref a1, .ref a2, .ref a3])), (ht, .inl (cT, 60, .inl f)), (a3, .inr (0, [.int e1, .int e2, .long e3, .long e4]))] s.heap := hP
  have hiX1 : ∀ w ∈ wsX10, w ∈ wsX1_readFour := by decide +kernel
  have hiX0 : ∀ w ∈ wsX00, w ∈ wsX1_readFour := by decide +kernel
  have hf33 := hts (.fieldLink RX1 33 "AddressTexts" "spare" "LAddressTexts$Address;") (by decide +kernel)
  have hf13 := hts (.fieldLink RX1 13 "AddressTexts" "tapeCount" "I") (by decide +kernel)
  have hf66 := hts (.fieldLink RX1 66 "AddressTexts$Address" "lower" "J") (by decide +kernel)
  have hl := lv_entry ([.ref h0]) (n := 5) (Nat.le_of_ble_eq_true rfl)
  rw [lg_entry_eq]
  generalize (lg_sl ([.ref h0]) ++ List.replicate (5 - (lg_sl ([.ref h0])).length) Slot.unset).toArray = ls at hl ⊢
  have hl : lv_has ls 5 [(0, .ref h0)] := hl
  refine lv_aload_n hx hb dX1_readFour_0 rfl (lv_at hl 0 rfl) ?_
  refine va_get (D := (dC, dI)) (ci := 1) (v := .ref a3) (C := RX1) (T := TX1) (N := 7) hx hb hts hiX1 hown hK hP 0 rfl rfl 6 (by decide) hf33 (fun _ h9 => h9) rfl dX1_readFour_1 ?_
  refine lv_iconst (v := nI 4) hx hb dX1_readFour_4 (by decide) ?_
  refine wc_Vv (As := [.int (nI 4)]) (rest := []) (wr := [(h0, .inr (1, [.ref ht, .int (nI n), .ref hw, .int (nI w), .ref a1, .ref a2, .ref a3])), (ht, .inl (cT, 60, .inl f))]) ⟨hx, hb, hml, hown, hts⟩ (ct_clear l dC dI s.heap.size a3 4 e1 e2 e3 e4 (by omega)) (cwV 1 hts gX1_readFour_X0_clear rfl rfl rfl (by decide +kernel) ⟨Nat.le_of_ble_eq_true rfl, Nat.le_of_ble_eq_true rfl⟩) hP hD hK hS hA [2] [0, 1] [] rfl rfl (by decide) (by decide) (by decide) rfl 0 rfl rfl rfl hl.1 rfl (Nat.le_of_ble_eq_true rfl) dX1_readFour_5 ⟨(Nat.zero_le _), (Nat.zero_le _)⟩ (fun u0 H locs hp0 hP hD hS => ?_)
  try dsimp only at hp0
  have hP : va_P (dC, dI) azCl [(h0, .inr (1, [.ref ht, .int (nI n), .ref hw, .int (nI w), .ref a1, .ref a2, .ref a3])), (ht, .inl (cT, 60, .inl f)), (a3, .inr (0, [.int (nI 4), .int (nI 32), .long (lN (0 / 18446744073709551616)), .long (lN (0 % 18446744073709551616))]))] H := hP
  have hD : va_D A [(h0, .inr (1, [.ref ht, .int (nI n), .ref hw, .int (nI w), .ref a1, .ref a2, .ref a3])), (ht, .inl (cT, 60, .inl f)), (a3, .inr (0, [.int (nI 4), .int (nI 32), .long (lN (0 / 18446744073709551616)), .long (lN (0 % 18446744073709551616))]))] := hD
  refine lv_iconst (v := nI 0) hx hb dX1_readFour_8 (by decide) ?_
  refine lv_istore_n (lv' := [(1, .int (nI 0)), (0, .ref h0)]) hx hb dX1_readFour_9 rfl hl (by decide) rfl (fun ls hl => ?_)
  refine lv_iconst (v := nI 0) hx hb dX1_readFour_10 (by decide) ?_
  refine lv_istore_n (lv' := [(2, .int (nI 0)), (1, .int (nI 0)), (0, .ref h0)]) hx hb dX1_readFour_11 rfl hl (by decide) rfl (fun ls hl => ?_)
  have lp12 : ∀ (N : Nat) (k : Nat) (at_ : Nat) (v : Nat), (k ≤ 4) → (at_ ≤ n + 1) → (v < 256 ^ k) → (az_q4 T n (4 - k) at_ v = az_q4 T n 4 0 0) → (4 - k) < N → ∀ (H : Heap) (locs : List Loc), va_P (dC, dI) azCl [(h0, .inr (1, [.ref ht, .int (nI n), .ref hw, .int (nI w), .ref a1, .ref a2, .ref a3])), (ht, .inl (cT, 60, .inl f)), (a3, .inr (0, [.int (nI 4), .int (nI 32), .long (lN (v / 18446744073709551616)), .long (lN (v % 18446744073709551616))]))] H → va_D A [(h0, .inr (1, [.ref ht, .int (nI n), .ref hw, .int (nI w), .ref a1, .ref a2, .ref a3])), (ht, .inl (cT, 60, .inl f)), (a3, .inr (0, [.int (nI 4), .int (nI 32), .long (lN (v / 18446744073709551616)), .long (lN (v % 18446744073709551616))]))] → va_S A s.heap H locs → ∀ (ls : Array Slot), lv_has ls 5 [(0, .ref h0), (1, .int (nI at_)), (2, .int (nI k))] → W p l e (headSpec wsX1_readFour ({ frames := 3, cells := 0, slots := 0, locals := 70 })).room s m ([.ref h0] : List Value).toArray below meth c H locs 0 0 (MQ below (va_Qi (fun r u => u < 4294967296 ∧ ((az_q4 T n 4 0 0 = none ∧ r = nI 0) ∨ (az_q4 T n 4 0 0 = some u ∧ r = nI 1))) (wr_B (dC, dI) azCl [(cT, .byte)] A (fun u : Nat => [(h0, .inr (1, [.ref ht, .int (nI n), .ref hw, .int (nI w), .ref a1, .ref a2, .ref a3])), (ht, .inl (cT, 60, .inl f)), (a3, .inr (0, [.int (nI 4), .int (nI 32), .long (lN (u / 18446744073709551616)), .long (lN (u % 18446744073709551616))]))])) A) ([.ref h0] : List Value).toArray s 0 0 A) (F0 m 12 ls []) := by
    intro N
    induction N with
    | zero => intro k at_ v hk hat hv hq hN; exact absurd hN (Nat.not_lt_zero _)
    | succ N ih =>
      intro k at_ v hk hat hv hq hN H locs hP hD hS ls hl
      refine lv_iload_n hx hb dX1_readFour_12 rfl (lv_at hl 2 rfl) ?_
      refine lv_iconst (v := nI 4) hx hb dX1_readFour_13 (by decide) ?_
      refine bn_ge (tgt := 75) hx hb dX1_readFour_14 (by decide) (by omega) (by omega) (fun c14 => ?_) (fun c14 => ?_)
      · have hv32 : v < 4294967296 := by have h := hv; rw [show k = 4 by omega] at h; exact h
        refine lv_iload_n hx hb dX1_readFour_75 rfl (lv_at hl 1 rfl) ?_
        refine lv_aload_n hx hb dX1_readFour_76 rfl (lv_at hl 0 rfl) ?_
        refine va_get (D := (dC, dI)) (ci := 1) (v := .int (nI n)) (C := RX1) (T := TX1) (N := 7) hx hb hts hiX1 hown hK hP 0 rfl rfl 1 (by decide) hf13 (fun _ h9 => h9) rfl dX1_readFour_77 ?_
        refine lv_iconst (v := nI 1) hx hb dX1_readFour_80 (by decide) ?_
        refine lv_iadd hx hb dX1_readFour_81 ?_
        refine tp_i (nI (n + 1)) (nI_add _ _) ?_
        refine bn_ne (tgt := 89) hx hb dX1_readFour_82 (by decide) (by omega) (by omega) (fun c82 => ?_) (fun c82 => ?_)
        · refine lv_iconst (v := nI 0) hx hb dX1_readFour_89 (by decide) ?_
          exact wt_z hx hb hr (rfl) (v) (⟨hv32, Or.inl ⟨by rw [← hq, show 4 - k = 0 by omega]; exact if_neg c82, rfl⟩⟩) (hP.sub [0, 1, 2] rfl) hK (hD.sub [0, 1, 2] (by decide) rfl) hS dX1_readFour_90 hlocks
        · refine lv_iconst (v := nI 1) hx hb dX1_readFour_85 (by decide) ?_
          refine lv_goto (tgt := 90) hx hb dX1_readFour_86 (by decide) ?_
          exact wt_z hx hb hr (rfl) (v) (⟨hv32, Or.inr ⟨by rw [← hq, show 4 - k = 0 by omega]; exact if_pos c82, rfl⟩⟩) (hP.sub [0, 1, 2] rfl) hK (hD.sub [0, 1, 2] (by decide) rfl) hS dX1_readFour_90 hlocks
      · have hpl := az_pl_le (T := T) (n := n) (mk := 46) (i := at_)
        have hv4 : 256 ^ k ≤ 16777216 := az_p256 c14
        refine lv_aload_n hx hb dX1_readFour_17 rfl (lv_at hl 0 rfl) ?_
        refine lv_bipush (v := nI 46) hx hb dX1_readFour_18 (by decide) ?_
        refine lv_iload_n hx hb dX1_readFour_20 rfl (lv_at hl 1 rfl) ?_
        refine rc_Vi (As := [.int (nI 46), .int (nI at_)]) (rest := []) ⟨hx, hb, hml, hown, hts⟩ (ct_placeOf l dC dI h0 ht hw a1 a2 a3 n w cT f T hT hn 46 at_ (by omega) (by omega)) (cwV 2 hts gX1_readFour_X1_placeOf rfl rfl rfl (by decide +kernel) ⟨Nat.le_of_ble_eq_true rfl, Nat.le_of_ble_eq_true rfl⟩) (hP.sub [0, 1] rfl) (hK.sub [0] rfl) 0 rfl rfl rfl hl.1 rfl (Nat.le_of_ble_eq_true rfl) dX1_readFour_21 ⟨(Nat.zero_le _), (Nat.zero_le _)⟩ ?_
        refine lv_istore_n (lv' := [(3, .int (nI (az_pl T n 46 at_))), (0, .ref h0), (1, .int (nI at_)), (2, .int (nI k))]) hx hb dX1_readFour_24 rfl hl (by decide) rfl (fun ls hl => ?_)
        refine lv_aload_n hx hb dX1_readFour_25 rfl (lv_at hl 1 rfl) ?_
        refine lv_iload_n hx hb dX1_readFour_26 rfl (lv_at hl 2 rfl) ?_
        refine lv_iload_n hx hb dX1_readFour_27 rfl (lv_at hl 0 rfl) ?_
        refine lv_sipush (v := nI 255) hx hb dX1_readFour_28 (by decide) ?_
        refine rc_Vi (As := [.int (nI at_), .int (nI (az_pl T n 46 at_)), .int (nI 255)]) (rest := []) ⟨hx, hb, hml, hown, hts⟩ (ct_decimalIn l dC dI h0 ht hw a1 a2 a3 n w cT f T hT hn at_ (az_pl T n 46 at_) 255 (by omega) hpl (fun q => az_pl_ge q) (by omega)) (cwV 3 hts gX1_readFour_X1_decimalIn rfl rfl rfl (by decide +kernel) ⟨Nat.le_of_ble_eq_true rfl, Nat.le_of_ble_eq_true rfl⟩) (hP.sub [0, 1] rfl) (hK.sub [0] rfl) 0 rfl rfl rfl hl.1 rfl (Nat.le_of_ble_eq_true rfl) dX1_readFour_31 ⟨(Nat.zero_le _), (Nat.zero_le _)⟩ ?_
        rcases hd : az_dc T at_ (az_pl T n 46 at_) 255 with _ | d
        · refine tp_i (-1) (rfl) ?_
          refine lv_istore (lv' := [(4, .int (-1)), (3, .int (nI (az_pl T n 46 at_))), (0, .ref h0), (1, .int (nI at_)), (2, .int (nI k))]) hx hb dX1_readFour_34 hl (by decide) rfl (fun ls hl => ?_)
          refine lv_iload hx hb dX1_readFour_36 (lv_at hl 0 rfl) ?_
          refine lv_iconst (v := -1) hx hb dX1_readFour_38 (by decide) ?_
          refine lv_icmp_ne (tgt := 44) hx hb dX1_readFour_39 (by decide) (fun c => absurd c (by decide)) (fun _ => ?_)
          refine lv_iconst (v := nI 0) hx hb dX1_readFour_42 (by decide) ?_
          exact wt_z hx hb hr (rfl) (v) (⟨by omega, Or.inl ⟨by rw [← hq, az_q4_bad c14 hd], rfl⟩⟩) (hP.sub [0, 1, 2] rfl) hK (hD.sub [0, 1, 2] (by decide) rfl) hS dX1_readFour_43 hlocks
        · have hdl := az_dc_le hd
          refine tp_i (nI d) (rfl) ?_
          refine lv_istore (lv' := [(4, .int (nI d)), (3, .int (nI (az_pl T n 46 at_))), (0, .ref h0), (1, .int (nI at_)), (2, .int (nI k))]) hx hb dX1_readFour_34 hl (by decide) rfl (fun ls hl => ?_)
          refine lv_iload hx hb dX1_readFour_36 (lv_at hl 0 rfl) ?_
          refine lv_iconst (v := -1) hx hb dX1_readFour_38 (by decide) ?_
          refine lv_icmp_ne (tgt := 44) hx hb dX1_readFour_39 (by decide) (fun _ => ?_) (fun c => absurd c (nI_m1 (by omega)))
          refine lv_aload_n hx hb dX1_readFour_44 rfl (lv_at hl 2 rfl) ?_
          refine va_get (D := (dC, dI)) (ci := 1) (v := .ref a3) (C := RX1) (T := TX1) (N := 7) hx hb hts hiX1 hown hK hP 0 rfl rfl 6 (by decide) hf33 (fun _ h9 => h9) rfl dX1_readFour_45 ?_
          refine lv_aload_n hx hb dX1_readFour_48 rfl (lv_at hl 2 rfl) ?_
          refine va_get (D := (dC, dI)) (ci := 1) (v := .ref a3) (C := RX1) (T := TX1) (N := 7) hx hb hts hiX1 hown hK hP 0 rfl rfl 6 (by decide) hf33 (fun _ h9 => h9) rfl dX1_readFour_49 ?_
          refine va_get (D := (dC, dI)) (ci := 0) (v := .long (lN (v % 18446744073709551616))) (C := RX0) (T := TX0) (N := 4) hx hb hts hiX0 hown hK hP 2 rfl rfl 3 (by decide) hf66 (fun _ h9 => h9) rfl dX1_readFour_52 ?_
          refine lv_bipush (v := nI 8) hx hb dX1_readFour_55 (by decide) ?_
          refine lv_lshl (v := lN (v % 18446744073709551616 * 2 ^ 8)) hx hb dX1_readFour_57 (wb_shl (k := 8) _ (by omega)) ?_
          refine lv_iload hx hb dX1_readFour_58 (lv_at hl 0 rfl) ?_
          refine lv_i2l (v := lN d) hx hb dX1_readFour_60 (nI_l (by omega)) ?_
          refine lv_lor hx hb dX1_readFour_61 ?_
          refine tp_l (lN ((v * 256 + d) % 18446744073709551616)) ((g_or (k := 8) (p := 256) rfl (by omega) (by omega)).trans (congrArg lN (by omega))) ?_
          refine va_put (D := (dC, dI)) (ci := 0) (v := .long (lN ((v * 256 + d) % 18446744073709551616))) (ty := .long) (C := RX0) (T := TX0) (N := 4) hx hb hts hiX0 tyX0 tyX0_ok nmX0 hown hK hP hD hS 2 rfl rfl 3 (by decide) hf66 (fun _ h9 => h9) rfl (by decide +kernel) rfl rfl (Nat.le_of_ble_eq_true rfl) dX1_readFour_62 (fun H locs hP hD hS => ?_)
          have hP : va_P (dC, dI) azCl [(h0, .inr (1, [.ref ht, .int (nI n), .ref hw, .int (nI w), .ref a1, .ref a2, .ref a3])), (ht, .inl (cT, 60, .inl f)), (a3, .inr (0, [.int (nI 4), .int (nI 32), .long (lN (v / 18446744073709551616)), .long (lN ((v * 256 + d) % 18446744073709551616))]))] H := hP
          have hD : va_D A [(h0, .inr (1, [.ref ht, .int (nI n), .ref hw, .int (nI w), .ref a1, .ref a2, .ref a3])), (ht, .inl (cT, 60, .inl f)), (a3, .inr (0, [.int (nI 4), .int (nI 32), .long (lN (v / 18446744073709551616)), .long (lN ((v * 256 + d) % 18446744073709551616))]))] := hD
          have e65 : (v * 256 + d) / 18446744073709551616 = v / 18446744073709551616 := by omega
          have hP : va_P (dC, dI) azCl [(h0, .inr (1, [.ref ht, .int (nI n), .ref hw, .int (nI w), .ref a1, .ref a2, .ref a3])), (ht, .inl (cT, 60, .inl f)), (a3, .inr (0, [.int (nI 4), .int (nI 32), .long (lN ((v * 256 + d) / 18446744073709551616)), .long (lN ((v * 256 + d) % 18446744073709551616))]))] H := by rw [e65]; exact hP
          have hD : va_D A [(h0, .inr (1, [.ref ht, .int (nI n), .ref hw, .int (nI w), .ref a1, .ref a2, .ref a3])), (ht, .inl (cT, 60, .inl f)), (a3, .inr (0, [.int (nI 4), .int (nI 32), .long (lN ((v * 256 + d) / 18446744073709551616)), .long (lN ((v * 256 + d) % 18446744073709551616))]))] := by rw [e65]; exact hD
          refine lv_iload_n hx hb dX1_readFour_65 rfl (lv_at hl 1 rfl) ?_
          refine lv_iconst (v := nI 1) hx hb dX1_readFour_66 (by decide) ?_
          refine lv_iadd hx hb dX1_readFour_67 ?_
          refine tp_i (nI ((az_pl T n 46 at_) + 1)) (nI_add _ _) ?_
          refine lv_istore_n (lv' := [(1, .int (nI ((az_pl T n 46 at_) + 1))), (4, .int (nI d)), (3, .int (nI (az_pl T n 46 at_))), (0, .ref h0), (2, .int (nI k))]) hx hb dX1_readFour_68 rfl hl (by decide) rfl (fun ls hl => ?_)
          refine lv_iinc (v := nI (k + 1)) (lv' := [(2, .int (nI (k + 1))), (1, .int (nI ((az_pl T n 46 at_) + 1))), (4, .int (nI d)), (3, .int (nI (az_pl T n 46 at_))), (0, .ref h0)]) hx hb dX1_readFour_69 hl (k := 4) rfl (nI_add _ 1) (by decide) rfl (fun ls hl => ?_)
          refine lv_goto (tgt := 12) hx hb dX1_readFour_72 (by decide) ?_
          exact ih (k + 1) (az_pl T n 46 at_ + 1) (v * 256 + d) (by omega) (by omega) (az_p256s hv hdl) (by rw [← hq, az_q4_step c14 hd]) (by omega) _ _ (hP.sub [0, 1, 2] rfl) (hD.sub [0, 1, 2] (by decide) rfl) hS ls (lv_sub hl [4, 1, 0] rfl)
  exact lp12 _ 0 0 0 (Nat.zero_le _) (Nat.zero_le _) (by decide) (rfl) (Nat.lt_succ_self _) _ _ (hP.sub [0, 1, 2] rfl) (hD.sub [0, 1, 2] (by decide) rfl) hS ls (lv_sub hl [2, 1, 0] rfl)
set_option maxRecDepth 100000 in
set_option maxHeartbeats 4000000 in
/-- readText() -/
theorem ct_readText (l : Launch) (dC : Nat → ClassId) (dI : Nat → Nat → Nat) (sz : Nat) (h0 ht hw a1 a2 a3 n w : Nat) (cT : ClassId) (f : Nat → Int32) (T : Nat → Nat) (hT : az_tp f T n) (hn : n ≤ 60) (e1 e2 : Int32) (e3 e4 : Int64) : Met l yX1_readText wsX1_readText ({ frames := 5, cells := 0, slots := 0, locals := 120 }) (wr_P (dC, dI) azCl [(h0, .inr (1, [.ref ht, .int (nI n), .ref hw, .int (nI w), .ref a1, .ref a2, .ref a3])), (ht, .inl (cT, 60, .inl f)), (a3, .inr (0, [.int e1, .int e2, .long e3, .long e4]))] [(cT, .byte)] sz [.ref h0]) (va_Qi (fun r u => az_ok u ∧ ((az_text T n = none ∧ r = nI 0) ∨ (az_text T n = some u ∧ r = nI 1))) (wr_B (dC, dI) azCl [(cT, .byte)] (va_A [(h0, .inr (1, [.ref ht, .int (nI n), .ref hw, .int (nI w), .ref a1, .ref a2, .ref a3])), (ht, .inl (cT, 60, .inl f)), (a3, .inr (0, [.int e1, .int e2, .long e3, .long e4]))] sz) (fun u : Nat × Nat => [(h0, .inr (1, [.ref ht, .int (nI n), .ref hw, .int (nI w), .ref a1, .ref a2, .ref a3])), (ht, .inl (cT, 60, .inl f)), (a3, .inr (0, [.int (nI u.1), .int (nI (az_wl u.1)), .long (lN (u.2 / 18446744073709551616)), .long (lN (u.2 % 18446744073709551616))]))])) (va_A [(h0, .inr (1, [.ref ht, .int (nI n), .ref hw, .int (nI w), .ref a1, .ref a2, .ref a3])), (ht, .inl (cT, 60, .inl f)), (a3, .inr (0, [.int e1, .int e2, .long e3, .long e4]))] sz)) 0 0 (va_A [(h0, .inr (1, [.ref ht, .int (nI n), .ref hw, .int (nI w), .ref a1, .ref a2, .ref a3])), (ht, .inl (cT, 60, .inl f)), (a3, .inr (0, [.int e1, .int e2, .long e3, .long e4]))] sz) := by
  refine Met.ofW (cc := cX1_readText) (maxL := 1) (ret := (some .boolean)) (by decide) rfl ?_
  intro p e s m args below meth c s₁ Bd hml hv
  obtain ⟨rfl, hsz, hP, hK, hD0⟩ := hv
  have hx := Bd.exec
  have hb := Bd.bytes
  have hr := Bd.returns
  have hts := atoms_spec (ws := wsX1_readText) Bd.pre
  have hown : s.vm.findClass RX1 = some m.cls := findClass_of_methodNamed Bd.named
  have hlocks := Bd.notSynchronized
  subst hsz
  have hD := hD0.self (sz := s.heap.size)
  generalize hAe : va_A [(h0, .inr (1, [.ref ht, .int (nI n), .ref hw, .int (nI w), .ref a1, .ref a2, .ref a3])), (ht, .inl (cT, 60, .inl f)), (a3, .inr (0, [.int e1, .int e2, .long e3, .long e4]))] s.heap.size = A at hD ⊢
  have hA : ∀ q : Nat, s.heap.size ≤ q → A q := fun q h => by rw [← hAe]; exact Or.inr h
  have hS : va_S A s.heap s.heap [] := va_S.rf
  have hP : va_P (dC, dI) azCl [(h0, .inr (1, [.ref ht, .int (nI n), .ref hw, .int (nI w), .ref a1, .ref a2, .ref a3])), (ht, .inl (cT, 60, .inl f)), (a3, .inr (0, [.int e1, .int e2, .long e3, .long e4]))] s.heap := hP
  have hiX1 : ∀ w ∈ wsX10, w ∈ wsX1_readText := by decide +kernel
  have hf13 := hts (.fieldLink RX1 13 "AddressTexts" "tapeCount" "I") (by decide +kernel)
  have hl := lv_entry ([.ref h0]) (n := 1) (Nat.le_of_ble_eq_true rfl)
  rw [lg_entry_eq]
  generalize (lg_sl ([.ref h0]) ++ List.replicate (1 - (lg_sl ([.ref h0])).length) Slot.unset).toArray = ls at hl ⊢
  have hl : lv_has ls 1 [(0, .ref h0)] := hl
  have hpl := az_pl_le (T := T) (n := n) (mk := 58) (i := 0)
  refine lv_aload_n hx hb dX1_readText_0 rfl (lv_at hl 0 rfl) ?_
  refine lv_bipush (v := nI 58) hx hb dX1_readText_1 (by decide) ?_
  refine lv_iconst (v := nI 0) hx hb dX1_readText_3 (by decide) ?_
  refine rc_Vi (As := [.int (nI 58), .int (nI 0)]) (rest := []) ⟨hx, hb, hml, hown, hts⟩ (ct_placeOf l dC dI h0 ht hw a1 a2 a3 n w cT f T hT hn 58 0 (by omega) (by omega)) (cwV 2 hts gX1_readText_X1_placeOf rfl rfl rfl (by decide +kernel) ⟨Nat.le_of_ble_eq_true rfl, Nat.le_of_ble_eq_true rfl⟩) (hP.sub [0, 1] rfl) (hK.sub [0] rfl) 0 rfl rfl rfl hl.1 rfl (Nat.le_of_ble_eq_true rfl) dX1_readText_4 ⟨(Nat.zero_le _), (Nat.zero_le _)⟩ ?_
  refine lv_aload_n hx hb dX1_readText_7 rfl (lv_at hl 0 rfl) ?_
  refine va_get (D := (dC, dI)) (ci := 1) (v := .int (nI n)) (C := RX1) (T := TX1) (N := 7) hx hb hts hiX1 hown hK hP 0 rfl rfl 1 (by decide) hf13 (fun _ h9 => h9) rfl dX1_readText_8 ?_
  refine bn_ge (tgt := 21) hx hb dX1_readText_11 (by decide) (by omega) (by omega) (fun c11 => ?_) (fun c11 => ?_)
  · refine lv_aload_n hx hb dX1_readText_21 rfl (lv_at hl 0 rfl) ?_
    refine wc_Vi (As := []) (rest := []) (wr := []) ⟨hx, hb, hml, hown, hts⟩ (ct_readFour l dC dI s.heap.size h0 ht hw a1 a2 a3 n w cT f T hT hn e1 e2 e3 e4) (cwV 0 hts gX1_readText_X1_readFour rfl rfl rfl (by decide +kernel) ⟨Nat.le_of_ble_eq_true rfl, Nat.le_of_ble_eq_true rfl⟩) hP hD hK hS hA [0, 1, 2] [] [0] rfl rfl (by decide) (by decide) (by decide) rfl 0 rfl rfl rfl hl.1 rfl (Nat.le_of_ble_eq_true rfl) dX1_readText_22 ⟨(Nat.zero_le _), (Nat.zero_le _)⟩ (fun r1 v1 H locs hp1 hP hD hS => ?_)
    try dsimp only at hp1
    have hP : va_P (dC, dI) azCl [(h0, .inr (1, [.ref ht, .int (nI n), .ref hw, .int (nI w), .ref a1, .ref a2, .ref a3])), (ht, .inl (cT, 60, .inl f)), (a3, .inr (0, [.int (nI 4), .int (nI 32), .long (lN (v1 / 18446744073709551616)), .long (lN (v1 % 18446744073709551616))]))] H := hP
    have hD : va_D A [(h0, .inr (1, [.ref ht, .int (nI n), .ref hw, .int (nI w), .ref a1, .ref a2, .ref a3])), (ht, .inl (cT, 60, .inl f)), (a3, .inr (0, [.int (nI 4), .int (nI 32), .long (lN (v1 / 18446744073709551616)), .long (lN (v1 % 18446744073709551616))]))] := hD
    obtain ⟨hu, ⟨ea, er⟩ | ⟨ea, er⟩⟩ := hp1
    · subst er
      exact wt_z hx hb hr (rfl) ((4, v1)) (⟨(Or.inl ⟨rfl, hu⟩), Or.inl ⟨by unfold az_text; rw [if_neg (Nat.not_lt.mpr c11), ea]; rfl, rfl⟩⟩) (hP.sub [0, 1, 2] rfl) hK (hD.sub [0, 1, 2] (by decide) rfl) hS dX1_readText_25 hlocks
    · subst er
      exact wt_z hx hb hr (rfl) ((4, v1)) (⟨(Or.inl ⟨rfl, hu⟩), Or.inr ⟨by unfold az_text; rw [if_neg (Nat.not_lt.mpr c11), ea]; rfl, rfl⟩⟩) (hP.sub [0, 1, 2] rfl) hK (hD.sub [0, 1, 2] (by decide) rfl) hS dX1_readText_25 hlocks
  · refine lv_aload_n hx hb dX1_readText_14 rfl (lv_at hl 0 rfl) ?_
    refine wc_Vi (As := []) (rest := []) (wr := []) ⟨hx, hb, hml, hown, hts⟩ (ct_readSix l dC dI s.heap.size h0 ht hw a1 a2 a3 n w cT f T hT hn e1 e2 e3 e4) (cwV 0 hts gX1_readText_X1_readSix rfl rfl rfl (by decide +kernel) ⟨Nat.le_of_ble_eq_true rfl, Nat.le_of_ble_eq_true rfl⟩) hP hD hK hS hA [0, 1, 2] [] [0] rfl rfl (by decide) (by decide) (by decide) rfl 0 rfl rfl rfl hl.1 rfl (Nat.le_of_ble_eq_true rfl) dX1_readText_15 ⟨(Nat.zero_le _), (Nat.zero_le _)⟩ (fun r1 v1 H locs hp1 hP hD hS => ?_)
    try dsimp only at hp1
    have hP : va_P (dC, dI) azCl [(h0, .inr (1, [.ref ht, .int (nI n), .ref hw, .int (nI w), .ref a1, .ref a2, .ref a3])), (ht, .inl (cT, 60, .inl f)), (a3, .inr (0, [.int (nI 6), .int (nI 128), .long (lN (v1 / 18446744073709551616)), .long (lN (v1 % 18446744073709551616))]))] H := hP
    have hD : va_D A [(h0, .inr (1, [.ref ht, .int (nI n), .ref hw, .int (nI w), .ref a1, .ref a2, .ref a3])), (ht, .inl (cT, 60, .inl f)), (a3, .inr (0, [.int (nI 6), .int (nI 128), .long (lN (v1 / 18446744073709551616)), .long (lN (v1 % 18446744073709551616))]))] := hD
    obtain ⟨hu, ⟨ea, er⟩ | ⟨ea, er⟩⟩ := hp1
    · subst er
      refine lv_goto (tgt := 25) hx hb dX1_readText_18 (by decide) ?_
      exact wt_z hx hb hr (rfl) ((6, v1)) (⟨(Or.inr ⟨rfl, hu⟩), Or.inl ⟨by unfold az_text; rw [if_pos c11, ea]; rfl, rfl⟩⟩) (hP.sub [0, 1, 2] rfl) hK (hD.sub [0, 1, 2] (by decide) rfl) hS dX1_readText_25 hlocks
    · subst er
      refine lv_goto (tgt := 25) hx hb dX1_readText_18 (by decide) ?_
      exact wt_z hx hb hr (rfl) ((6, v1)) (⟨(Or.inr ⟨rfl, hu⟩), Or.inr ⟨by unfold az_text; rw [if_pos c11, ea]; rfl, rfl⟩⟩) (hP.sub [0, 1, 2] rfl) hK (hD.sub [0, 1, 2] (by decide) rfl) hS dX1_readText_25 hlocks
end
section
/-! what the class's public methods answer -/
theorem az_cmp0 {x y : Int64} : lg_cmp x y = 0 ↔ x = y := by
  unfold lg_cmp
  constructor
  · intro h
    split at h
    · cases h
    · split at h
      · assumption
      · cases h
  · intro h
    subst h
    simp
theorem az_cmpge {x y : Int64} : 0 ≤ lg_cmp x y ↔ y ≤ x := by
  unfold lg_cmp
  constructor
  · intro h
    split at h
    · rename_i q; exact Int64.le_of_lt q
    · split at h
      · rename_i q; rw [q]; exact Int64.le_refl _
      · exact absurd h (by decide)
  · intro h
    split
    · decide
    · split
      · decide
      · rename_i q1 q2
        exact absurd (Int64.le_antisymm (Int64.not_lt.mp q1) h) q2
/-- an address with a length of its family -/
def az_ad (f l V : Nat) : Prop := az_ok (f, V) ∧ l ≤ az_wl f
theorem az_ad_f {f l V : Nat} (h : az_ad f l V) : f = 4 ∨ f = 6 := by rcases h.1 with q | q; exact (Or.inl q.1); exact (Or.inr q.1)
theorem az_ad_6 {f l V : Nat} (h : az_ad f l V) : f ≤ 6 := by rcases az_ad_f h with q | q <;> omega
theorem az_ad_V {f l V : Nat} (h : az_ad f l V) : V < 340282366920938463463374607431768211456 := by
  rcases h.1 with q | q
  · have := q.2
    exact Nat.lt_trans this (by decide)
  · exact q.2
theorem az_ad_4 {l V : Nat} (h : az_ad 4 l V) : V < 4294967296 := by
  rcases h.1 with q | q
  · exact q.2
  · exact absurd q.1 (show ¬ (4 : Nat) = 6 by decide)
theorem az_ad_k {f l V : Nat} (h : az_ad f l V) : 128 - az_wl f + l ≤ 128 := by have := h.2; have := az_wl_le f; omega
theorem az_ad_m {f l V : Nat} (h : az_ad f l V) : 128 - (128 - az_wl f + l) = az_wl f - l := by have := h.2; have := az_wl_le f; omega
theorem az_ad_cut {f l V : Nat} (h : az_ad f l V) (m : Nat) : az_ad f l (az_cut V m) := by
  refine ⟨?_, h.2⟩
  have := az_cut_le V m
  rcases h.1 with q | q
  · exact Or.inl ⟨q.1, Nat.lt_of_le_of_lt this q.2⟩
  · exact Or.inr ⟨q.1, Nat.lt_of_le_of_lt this q.2⟩
def az_ord (f1 V1 l1 f2 V2 l2 : Nat) : Int32 := if f1 ≠ f2 then (if f1 = 4 then -1 else nI 1) else if V1 ≠ V2 then (if V1 < V2 then -1 else nI 1) else if l1 ≠ l2 then (if l1 < l2 then -1 else nI 1) else nI 0
theorem az_vlt {V U : Nat} (h : V / 18446744073709551616 ≠ U / 18446744073709551616) : V < U ↔ V / 18446744073709551616 < U / 18446744073709551616 := by omega
theorem az_vlt2 {V U : Nat} (h : V / 18446744073709551616 = U / 18446744073709551616) : V < U ↔ V % 18446744073709551616 < U % 18446744073709551616 := by omega
def az_bits (V : Nat) (x : Int32) : Int64 := if x = 0 then lN (V / 18446744073709551616) else if x = nI 1 then lN (V % 18446744073709551616) else lN 0
/-- what stands at place x of what was written -/
def az_wat (O : List Nat) (x : Int32) : Int32 := if x < 0 then -1 else if nI O.length ≤ x then -1 else nI (O.getD x.toNatClampNeg 0)
/-- the text of an address -/
def az_out (f V : Nat) : List Nat := if f = 4 then az_w4 V else az_wp V (az_lr V 8).1 ((az_lr V 8).1 + az_zr V (az_lr V 8).1) 8
def az_a20 (T : Nat → Nat) (n : Nat) (a b c d e : Int32) : Nat → Nat := az_a4 (az_a4 (az_a4 (az_a4 (az_a4 T n a) (n + 4) b) (n + 8) c) (n + 12) d) (n + 16) e
end
section
set_option maxRecDepth 100000 in
set_option maxHeartbeats 4000000 in
/-- turn() -/
theorem ct_turn (l : Launch) (dC : Nat → ClassId) (dI : Nat → Nat → Nat) (sz : Nat) (h0 ht hw a1 a2 a3 n w : Nat) : Met l yX1_turn wsX1_turn ({ frames := 0, cells := 0, slots := 0, locals := 0 }) (wr_P (dC, dI) azCl [(h0, .inr (1, [.ref ht, .int (nI n), .ref hw, .int (nI w), .ref a1, .ref a2, .ref a3]))] [] sz [.ref h0]) (va_Qv (fun _ => True) (wr_B (dC, dI) azCl [] (va_A [(h0, .inr (1, [.ref ht, .int (nI n), .ref hw, .int (nI w), .ref a1, .ref a2, .ref a3]))] sz) (fun _ : Unit => [(h0, .inr (1, [.ref ht, .int (nI n), .ref hw, .int (nI w), .ref a2, .ref a1, .ref a3]))])) (va_A [(h0, .inr (1, [.ref ht, .int (nI n), .ref hw, .int (nI w), .ref a1, .ref a2, .ref a3]))] sz)) 0 0 (va_A [(h0, .inr (1, [.ref ht, .int (nI n), .ref hw, .int (nI w), .ref a1, .ref a2, .ref a3]))] sz) := by
  refine Met.ofW (cc := cX1_turn) (maxL := 2) (ret := none) (by decide) rfl ?_
  intro p e s m args below meth c s₁ Bd hml hv
  obtain ⟨rfl, hsz, hP, hK, hD0⟩ := hv
  have hx := Bd.exec
  have hb := Bd.bytes
  have hr := Bd.returns
  have hts := atoms_spec (ws := wsX1_turn) Bd.pre
  have hown : s.vm.findClass RX1 = some m.cls := findClass_of_methodNamed Bd.named
  have hlocks := Bd.notSynchronized
  subst hsz
  have hD := hD0.self (sz := s.heap.size)
  generalize hAe : va_A [(h0, .inr (1, [.ref ht, .int (nI n), .ref hw, .int (nI w), .ref a1, .ref a2, .ref a3]))] s.heap.size = A at hD ⊢
  have hA : ∀ q : Nat, s.heap.size ≤ q → A q := fun q h => by rw [← hAe]; exact Or.inr h
  have hS : va_S A s.heap s.heap [] := va_S.rf
  have hP : va_P (dC, dI) azCl [(h0, .inr (1, [.ref ht, .int (nI n), .ref hw, .int (nI w), .ref a1, .ref a2, .ref a3]))] s.heap := hP
  have hiX1 : ∀ w ∈ wsX10, w ∈ wsX1_turn := by decide +kernel
  have hf26 := hts (.fieldLink RX1 26 "AddressTexts" "one" "LAddressTexts$Address;") (by decide +kernel)
  have hf30 := hts (.fieldLink RX1 30 "AddressTexts" "two" "LAddressTexts$Address;") (by decide +kernel)
  have hl := lv_entry ([.ref h0]) (n := 2) (Nat.le_of_ble_eq_true rfl)
  rw [lg_entry_eq]
  generalize (lg_sl ([.ref h0]) ++ List.replicate (2 - (lg_sl ([.ref h0])).length) Slot.unset).toArray = ls at hl ⊢
  have hl : lv_has ls 2 [(0, .ref h0)] := hl
  refine lv_aload_n hx hb dX1_turn_0 rfl (lv_at hl 0 rfl) ?_
  refine va_get (D := (dC, dI)) (ci := 1) (v := .ref a1) (C := RX1) (T := TX1) (N := 7) hx hb hts hiX1 hown hK hP 0 rfl rfl 4 (by decide) hf26 (fun _ h9 => h9) rfl dX1_turn_1 ?_
  refine lv_astore_n (lv' := [(1, .ref a1), (0, .ref h0)]) hx hb dX1_turn_4 rfl hl (by decide) rfl (fun ls hl => ?_)
  refine lv_aload_n hx hb dX1_turn_5 rfl (lv_at hl 1 rfl) ?_
  refine lv_aload_n hx hb dX1_turn_6 rfl (lv_at hl 1 rfl) ?_
  refine va_get (D := (dC, dI)) (ci := 1) (v := .ref a2) (C := RX1) (T := TX1) (N := 7) hx hb hts hiX1 hown hK hP 0 rfl rfl 5 (by decide) hf30 (fun _ h9 => h9) rfl dX1_turn_7 ?_
  refine va_put (D := (dC, dI)) (ci := 1) (v := .ref a2) (ty := .object "AddressTexts$Address") (C := RX1) (T := TX1) (N := 7) hx hb hts hiX1 tyX1 tyX1_ok nmX1 hown hK hP hD hS 0 rfl rfl 4 (by decide) hf26 (fun _ h9 => h9) rfl (by decide +kernel) rfl rfl (Nat.le_of_ble_eq_true rfl) dX1_turn_10 (fun H locs hP hD hS => ?_)
  have hP : va_P (dC, dI) azCl [(h0, .inr (1, [.ref ht, .int (nI n), .ref hw, .int (nI w), .ref a2, .ref a2, .ref a3]))] H := hP
  have hD : va_D A [(h0, .inr (1, [.ref ht, .int (nI n), .ref hw, .int (nI w), .ref a2, .ref a2, .ref a3]))] := hD
  refine lv_aload_n hx hb dX1_turn_13 rfl (lv_at hl 1 rfl) ?_
  refine lv_aload_n hx hb dX1_turn_14 rfl (lv_at hl 0 rfl) ?_
  refine va_put (D := (dC, dI)) (ci := 1) (v := .ref a1) (ty := .object "AddressTexts$Address") (C := RX1) (T := TX1) (N := 7) hx hb hts hiX1 tyX1 tyX1_ok nmX1 hown hK hP hD hS 0 rfl rfl 5 (by decide) hf30 (fun _ h9 => h9) rfl (by decide +kernel) rfl rfl (Nat.le_of_ble_eq_true rfl) dX1_turn_15 (fun H locs hP hD hS => ?_)
  have hP : va_P (dC, dI) azCl [(h0, .inr (1, [.ref ht, .int (nI n), .ref hw, .int (nI w), .ref a2, .ref a1, .ref a3]))] H := hP
  have hD : va_D A [(h0, .inr (1, [.ref ht, .int (nI n), .ref hw, .int (nI w), .ref a2, .ref a1, .ref a3]))] := hD
  exact wt_v hx hb hr (()) (trivial) (hP.sub [0] rfl) hK (hD.sub [0] (by decide) rfl) hS dX1_turn_18 hlocks
set_option maxRecDepth 100000 in
set_option maxHeartbeats 4000000 in
/-- end(x) -/
theorem ct_end (l : Launch) (dC : Nat → ClassId) (dI : Nat → Nat → Nat) (sz : Nat) (h0 ht hw a1 a2 a3 n w : Nat) (x : Int32) (hn : n ≤ 60) : Met l yX1_end wsX1_end ({ frames := 0, cells := 0, slots := 0, locals := 0 }) (wr_P (dC, dI) azCl [(h0, .inr (1, [.ref ht, .int (nI n), .ref hw, .int (nI w), .ref a1, .ref a2, .ref a3]))] [] sz [.ref h0, .int x]) (va_Qi (fun r u => u ≤ n ∧ (((x < 0 ∨ ¬ x ≤ nI n) ∧ r = nI 0 ∧ u = n) ∨ (¬ x < 0 ∧ x ≤ nI n ∧ r = nI 1 ∧ x = nI u))) (wr_B (dC, dI) azCl [] (va_A [(h0, .inr (1, [.ref ht, .int (nI n), .ref hw, .int (nI w), .ref a1, .ref a2, .ref a3]))] sz) (fun u : Nat => [(h0, .inr (1, [.ref ht, .int (nI u), .ref hw, .int (nI w), .ref a1, .ref a2, .ref a3]))])) (va_A [(h0, .inr (1, [.ref ht, .int (nI n), .ref hw, .int (nI w), .ref a1, .ref a2, .ref a3]))] sz)) 0 0 (va_A [(h0, .inr (1, [.ref ht, .int (nI n), .ref hw, .int (nI w), .ref a1, .ref a2, .ref a3]))] sz) := by
  refine Met.ofW (cc := cX1_end) (maxL := 2) (ret := (some .boolean)) (by decide) rfl ?_
  intro p e s m args below meth c s₁ Bd hml hv
  obtain ⟨rfl, hsz, hP, hK, hD0⟩ := hv
  have hx := Bd.exec
  have hb := Bd.bytes
  have hr := Bd.returns
  have hts := atoms_spec (ws := wsX1_end) Bd.pre
  have hown : s.vm.findClass RX1 = some m.cls := findClass_of_methodNamed Bd.named
  have hlocks := Bd.notSynchronized
  subst hsz
  have hD := hD0.self (sz := s.heap.size)
  generalize hAe : va_A [(h0, .inr (1, [.ref ht, .int (nI n), .ref hw, .int (nI w), .ref a1, .ref a2, .ref a3]))] s.heap.size = A at hD ⊢
  have hA : ∀ q : Nat, s.heap.size ≤ q → A q := fun q h => by rw [← hAe]; exact Or.inr h
  have hS : va_S A s.heap s.heap [] := va_S.rf
  have hP : va_P (dC, dI) azCl [(h0, .inr (1, [.ref ht, .int (nI n), .ref hw, .int (nI w), .ref a1, .ref a2, .ref a3]))] s.heap := hP
  have hiX1 : ∀ w ∈ wsX10, w ∈ wsX1_end := by decide +kernel
  have hf13 := hts (.fieldLink RX1 13 "AddressTexts" "tapeCount" "I") (by decide +kernel)
  have hl := lv_entry ([.ref h0, .int x]) (n := 2) (Nat.le_of_ble_eq_true rfl)
  rw [lg_entry_eq]
  generalize (lg_sl ([.ref h0, .int x]) ++ List.replicate (2 - (lg_sl ([.ref h0, .int x])).length) Slot.unset).toArray = ls at hl ⊢
  have hl : lv_has ls 2 [(0, .ref h0), (1, .int x)] := hl
  refine lv_iload_n hx hb dX1_end_0 rfl (lv_at hl 1 rfl) ?_
  refine lv_if_lt (tgt := 12) hx hb dX1_end_1 (by decide) (fun c1 => ?_) (fun c1 => ?_)
  · refine lv_iconst (v := nI 0) hx hb dX1_end_12 (by decide) ?_
    exact wt_z hx hb hr (rfl) (n) (⟨by omega, Or.inl ⟨by first | exact Or.inl c1 | exact Or.inr c9, rfl, rfl⟩⟩) (hP.sub [0] rfl) hK (hD.sub [0] (by decide) rfl) hS dX1_end_13 hlocks
  · refine lv_iload_n hx hb dX1_end_4 rfl (lv_at hl 1 rfl) ?_
    refine lv_aload_n hx hb dX1_end_5 rfl (lv_at hl 0 rfl) ?_
    refine va_get (D := (dC, dI)) (ci := 1) (v := .int (nI n)) (C := RX1) (T := TX1) (N := 7) hx hb hts hiX1 hown hK hP 0 rfl rfl 1 (by decide) hf13 (fun _ h9 => h9) rfl dX1_end_6 ?_
    refine lv_icmp_le (tgt := 14) hx hb dX1_end_9 (by decide) (fun c9 => ?_) (fun c9 => ?_)
    · obtain ⟨k, hk31, rfl⟩ := nI_of c1
      have hkn : k ≤ n := (nI_leI hk31 (by omega)).mp c9
      refine lv_aload_n hx hb dX1_end_14 rfl (lv_at hl 0 rfl) ?_
      refine lv_iload_n hx hb dX1_end_15 rfl (lv_at hl 1 rfl) ?_
      refine va_put (D := (dC, dI)) (ci := 1) (v := .int (nI k)) (ty := .int) (C := RX1) (T := TX1) (N := 7) hx hb hts hiX1 tyX1 tyX1_ok nmX1 hown hK hP hD hS 0 rfl rfl 1 (by decide) hf13 (fun _ h9 => h9) rfl (by decide +kernel) rfl rfl (Nat.le_of_ble_eq_true rfl) dX1_end_16 (fun H locs hP hD hS => ?_)
      have hP : va_P (dC, dI) azCl [(h0, .inr (1, [.ref ht, .int (nI k), .ref hw, .int (nI w), .ref a1, .ref a2, .ref a3]))] H := hP
      have hD : va_D A [(h0, .inr (1, [.ref ht, .int (nI k), .ref hw, .int (nI w), .ref a1, .ref a2, .ref a3]))] := hD
      refine lv_iconst (v := nI 1) hx hb dX1_end_19 (by decide) ?_
      exact wt_z hx hb hr (rfl) (k) (⟨hkn, Or.inr ⟨c1, c9, rfl, rfl⟩⟩) (hP.sub [0] rfl) hK (hD.sub [0] (by decide) rfl) hS dX1_end_20 hlocks
    · refine lv_iconst (v := nI 0) hx hb dX1_end_12 (by decide) ?_
      exact wt_z hx hb hr (rfl) (n) (⟨by omega, Or.inl ⟨by first | exact Or.inl c1 | exact Or.inr c9, rfl, rfl⟩⟩) (hP.sub [0] rfl) hK (hD.sub [0] (by decide) rfl) hS dX1_end_13 hlocks
set_option maxRecDepth 100000 in
set_option maxHeartbeats 4000000 in
/-- feed(a, b, c, d, e) -/
theorem ct_feed (l : Launch) (dC : Nat → ClassId) (dI : Nat → Nat → Nat) (sz : Nat) (h0 ht hw a1 a2 a3 n w : Nat) (cT : ClassId) (f : Nat → Int32) (T : Nat → Nat) (hT : az_tp f T n) (hn : n ≤ 60) (a b c_ d_ e_ : Int32) : Met l yX1_feed wsX1_feed ({ frames := 2, cells := 0, slots := 0, locals := 43 }) (wr_P (dC, dI) azCl [(h0, .inr (1, [.ref ht, .int (nI n), .ref hw, .int (nI w), .ref a1, .ref a2, .ref a3])), (ht, .inl (cT, 60, .inl f))] [(cT, .byte)] sz [.ref h0, .int a, .int b, .int c_, .int d_, .int e_]) (va_Qi (fun r u => (60 < n + 20 ∧ r = nI 0 ∧ az_tp u.1 u.2.2 u.2.1 ∧ u.2.1 = n ∧ u.2.2 = T) ∨ (n + 20 ≤ 60 ∧ r = nI 1 ∧ az_tp u.1 u.2.2 u.2.1 ∧ u.2.1 = n + 20 ∧ u.2.2 = az_a20 T n a b c_ d_ e_)) (wr_B (dC, dI) azCl [(cT, .byte)] (va_A [(h0, .inr (1, [.ref ht, .int (nI n), .ref hw, .int (nI w), .ref a1, .ref a2, .ref a3])), (ht, .inl (cT, 60, .inl f))] sz) (fun u : (Nat → Int32) × Nat × (Nat → Nat) => [(h0, .inr (1, [.ref ht, .int (nI u.2.1), .ref hw, .int (nI w), .ref a1, .ref a2, .ref a3])), (ht, .inl (cT, 60, .inl u.1))])) (va_A [(h0, .inr (1, [.ref ht, .int (nI n), .ref hw, .int (nI w), .ref a1, .ref a2, .ref a3])), (ht, .inl (cT, 60, .inl f))] sz)) 0 0 (va_A [(h0, .inr (1, [.ref ht, .int (nI n), .ref hw, .int (nI w), .ref a1, .ref a2, .ref a3])), (ht, .inl (cT, 60, .inl f))] sz) := by
  refine Met.ofW (cc := cX1_feed) (maxL := 6) (ret := (some .boolean)) (by decide) rfl ?_
  intro p e s m args below meth c s₁ Bd hml hv
  obtain ⟨rfl, hsz, hP, hK, hD0⟩ := hv
  have hx := Bd.exec
  have hb := Bd.bytes
  have hr := Bd.returns
  have hts := atoms_spec (ws := wsX1_feed) Bd.pre
  have hown : s.vm.findClass RX1 = some m.cls := findClass_of_methodNamed Bd.named
  have hlocks := Bd.notSynchronized
  subst hsz
  have hD := hD0.self (sz := s.heap.size)
  generalize hAe : va_A [(h0, .inr (1, [.ref ht, .int (nI n), .ref hw, .int (nI w), .ref a1, .ref a2, .ref a3])), (ht, .inl (cT, 60, .inl f))] s.heap.size = A at hD ⊢
  have hA : ∀ q : Nat, s.heap.size ≤ q → A q := fun q h => by rw [← hAe]; exact Or.inr h
  have hS : va_S A s.heap s.heap [] := va_S.rf
  have hP : va_P (dC, dI) azCl [(h0, .inr (1, [.ref ht, .int (nI n), .ref hw, .int (nI w), .ref a1, .ref a2, .ref a3])), (ht, .inl (cT, 60, .inl f))] s.heap := hP
  have hiX1 : ∀ w ∈ wsX10, w ∈ wsX1_feed := by decide +kernel
  have hf13 := hts (.fieldLink RX1 13 "AddressTexts" "tapeCount" "I") (by decide +kernel)
  have hl := lv_entry ([.ref h0, .int a, .int b, .int c_, .int d_, .int e_]) (n := 6) (Nat.le_of_ble_eq_true rfl)
  rw [lg_entry_eq]
  generalize (lg_sl ([.ref h0, .int a, .int b, .int c_, .int d_, .int e_]) ++ List.replicate (6 - (lg_sl ([.ref h0, .int a, .int b, .int c_, .int d_, .int e_])).length) Slot.unset).toArray = ls at hl ⊢
  have hl : lv_has ls 6 [(0, .ref h0), (1, .int a), (2, .int b), (3, .int c_), (4, .int d_), (5, .int e_)] := hl
  refine lv_aload_n hx hb dX1_feed_0 rfl (lv_at hl 0 rfl) ?_
  refine va_get (D := (dC, dI)) (ci := 1) (v := .int (nI n)) (C := RX1) (T := TX1) (N := 7) hx hb hts hiX1 hown hK hP 0 rfl rfl 1 (by decide) hf13 (fun _ h9 => h9) rfl dX1_feed_1 ?_
  refine lv_bipush (v := nI 20) hx hb dX1_feed_4 (by decide) ?_
  refine lv_iadd hx hb dX1_feed_6 ?_
  refine tp_i (nI (n + 20)) (nI_add _ _) ?_
  refine lv_bipush (v := nI 60) hx hb dX1_feed_7 (by decide) ?_
  refine bn_le (tgt := 14) hx hb dX1_feed_9 (by decide) (by omega) (by omega) (fun c9 => ?_) (fun c9 => ?_)
  · refine lv_aload_n hx hb dX1_feed_14 rfl (lv_at hl 0 rfl) ?_
    refine lv_iload_n hx hb dX1_feed_15 rfl (lv_at hl 1 rfl) ?_
    refine wc_Vv (As := [.int a]) (rest := []) (wr := []) ⟨hx, hb, hml, hown, hts⟩ (ct_tapeNumber l dC dI s.heap.size h0 ht hw a1 a2 a3 n w cT f T hT a (by omega)) (cwV 1 hts gX1_feed_X1_tapeNumber rfl rfl rfl (by decide +kernel) ⟨Nat.le_of_ble_eq_true rfl, Nat.le_of_ble_eq_true rfl⟩) hP hD hK hS hA [0, 1] [] [0] rfl rfl (by decide) (by decide) (by decide) rfl 0 rfl rfl rfl hl.1 rfl (Nat.le_of_ble_eq_true rfl) dX1_feed_16 ⟨(Nat.zero_le _), (Nat.zero_le _)⟩ (fun u1 H locs hT1 hP hD hS => ?_)
    try dsimp only at hT1
    have hP : va_P (dC, dI) azCl [(h0, .inr (1, [.ref ht, .int (nI (n + 4)), .ref hw, .int (nI w), .ref a1, .ref a2, .ref a3])), (ht, .inl (cT, 60, .inl u1))] H := hP
    have hD : va_D A [(h0, .inr (1, [.ref ht, .int (nI (n + 4)), .ref hw, .int (nI w), .ref a1, .ref a2, .ref a3])), (ht, .inl (cT, 60, .inl u1))] := hD
    refine lv_aload_n hx hb dX1_feed_19 rfl (lv_at hl 0 rfl) ?_
    refine lv_iload_n hx hb dX1_feed_20 rfl (lv_at hl 2 rfl) ?_
    refine wc_Vv (As := [.int b]) (rest := []) (wr := []) ⟨hx, hb, hml, hown, hts⟩ (ct_tapeNumber l dC dI H.size h0 ht hw a1 a2 a3 (n + 4) w cT u1 (az_a4 T n a) hT1 b (by omega)) (cwV 1 hts gX1_feed_X1_tapeNumber rfl rfl rfl (by decide +kernel) ⟨Nat.le_of_ble_eq_true rfl, Nat.le_of_ble_eq_true rfl⟩) hP hD hK hS hA [0, 1] [] [0] rfl rfl (by decide) (by decide) (by decide) rfl 0 rfl rfl rfl hl.1 rfl (Nat.le_of_ble_eq_true rfl) dX1_feed_21 ⟨(Nat.zero_le _), (Nat.zero_le _)⟩ (fun u2 H locs hT2 hP hD hS => ?_)
    try dsimp only at hT2
    have hP : va_P (dC, dI) azCl [(h0, .inr (1, [.ref ht, .int (nI (n + 4 + 4)), .ref hw, .int (nI w), .ref a1, .ref a2, .ref a3])), (ht, .inl (cT, 60, .inl u2))] H := hP
    have hD : va_D A [(h0, .inr (1, [.ref ht, .int (nI (n + 4 + 4)), .ref hw, .int (nI w), .ref a1, .ref a2, .ref a3])), (ht, .inl (cT, 60, .inl u2))] := hD
    refine lv_aload_n hx hb dX1_feed_24 rfl (lv_at hl 0 rfl) ?_
    refine lv_iload_n hx hb dX1_feed_25 rfl (lv_at hl 3 rfl) ?_
    refine wc_Vv (As := [.int c_]) (rest := []) (wr := []) ⟨hx, hb, hml, hown, hts⟩ (ct_tapeNumber l dC dI H.size h0 ht hw a1 a2 a3 (n + 4 + 4) w cT u2 (az_a4 (az_a4 T n a) (n + 4) b) hT2 c_ (by omega)) (cwV 1 hts gX1_feed_X1_tapeNumber rfl rfl rfl (by decide +kernel) ⟨Nat.le_of_ble_eq_true rfl, Nat.le_of_ble_eq_true rfl⟩) hP hD hK hS hA [0, 1] [] [0] rfl rfl (by decide) (by decide) (by decide) rfl 0 rfl rfl rfl hl.1 rfl (Nat.le_of_ble_eq_true rfl) dX1_feed_26 ⟨(Nat.zero_le _), (Nat.zero_le _)⟩ (fun u3 H locs hT3 hP hD hS => ?_)
    try dsimp only at hT3
    have hP : va_P (dC, dI) azCl [(h0, .inr (1, [.ref ht, .int (nI (n + 4 + 4 + 4)), .ref hw, .int (nI w), .ref a1, .ref a2, .ref a3])), (ht, .inl (cT, 60, .inl u3))] H := hP
    have hD : va_D A [(h0, .inr (1, [.ref ht, .int (nI (n + 4 + 4 + 4)), .ref hw, .int (nI w), .ref a1, .ref a2, .ref a3])), (ht, .inl (cT, 60, .inl u3))] := hD
    refine lv_aload_n hx hb dX1_feed_29 rfl (lv_at hl 0 rfl) ?_
    refine lv_iload hx hb dX1_feed_30 (lv_at hl 4 rfl) ?_
    refine wc_Vv (As := [.int d_]) (rest := []) (wr := []) ⟨hx, hb, hml, hown, hts⟩ (ct_tapeNumber l dC dI H.size h0 ht hw a1 a2 a3 (n + 4 + 4 + 4) w cT u3 (az_a4 (az_a4 (az_a4 T n a) (n + 4) b) (n + 4 + 4) c_) hT3 d_ (by omega)) (cwV 1 hts gX1_feed_X1_tapeNumber rfl rfl rfl (by decide +kernel) ⟨Nat.le_of_ble_eq_true rfl, Nat.le_of_ble_eq_true rfl⟩) hP hD hK hS hA [0, 1] [] [0] rfl rfl (by decide) (by decide) (by decide) rfl 0 rfl rfl rfl hl.1 rfl (Nat.le_of_ble_eq_true rfl) dX1_feed_32 ⟨(Nat.zero_le _), (Nat.zero_le _)⟩ (fun u4 H locs hT4 hP hD hS => ?_)
    try dsimp only at hT4
    have hP : va_P (dC, dI) azCl [(h0, .inr (1, [.ref ht, .int (nI (n + 4 + 4 + 4 + 4)), .ref hw, .int (nI w), .ref a1, .ref a2, .ref a3])), (ht, .inl (cT, 60, .inl u4))] H := hP
    have hD : va_D A [(h0, .inr (1, [.ref ht, .int (nI (n + 4 + 4 + 4 + 4)), .ref hw, .int (nI w), .ref a1, .ref a2, .ref a3])), (ht, .inl (cT, 60, .inl u4))] := hD
    refine lv_aload_n hx hb dX1_feed_35 rfl (lv_at hl 0 rfl) ?_
    refine lv_iload hx hb dX1_feed_36 (lv_at hl 5 rfl) ?_
    refine wc_Vv (As := [.int e_]) (rest := []) (wr := []) ⟨hx, hb, hml, hown, hts⟩ (ct_tapeNumber l dC dI H.size h0 ht hw a1 a2 a3 (n + 4 + 4 + 4 + 4) w cT u4 (az_a4 (az_a4 (az_a4 (az_a4 T n a) (n + 4) b) (n + 4 + 4) c_) (n + 4 + 4 + 4) d_) hT4 e_ (by omega)) (cwV 1 hts gX1_feed_X1_tapeNumber rfl rfl rfl (by decide +kernel) ⟨Nat.le_of_ble_eq_true rfl, Nat.le_of_ble_eq_true rfl⟩) hP hD hK hS hA [0, 1] [] [0] rfl rfl (by decide) (by decide) (by decide) rfl 0 rfl rfl rfl hl.1 rfl (Nat.le_of_ble_eq_true rfl) dX1_feed_38 ⟨(Nat.zero_le _), (Nat.zero_le _)⟩ (fun u5 H locs hT5 hP hD hS => ?_)
    try dsimp only at hT5
    have hP : va_P (dC, dI) azCl [(h0, .inr (1, [.ref ht, .int (nI (n + 4 + 4 + 4 + 4 + 4)), .ref hw, .int (nI w), .ref a1, .ref a2, .ref a3])), (ht, .inl (cT, 60, .inl u5))] H := hP
    have hD : va_D A [(h0, .inr (1, [.ref ht, .int (nI (n + 4 + 4 + 4 + 4 + 4)), .ref hw, .int (nI w), .ref a1, .ref a2, .ref a3])), (ht, .inl (cT, 60, .inl u5))] := hD
    refine lv_iconst (v := nI 1) hx hb dX1_feed_41 (by decide) ?_
    exact wt_z hx hb hr (rfl) ((u5, n + 20, az_a20 T n a b c_ d_ e_)) (Or.inr ⟨by omega, rfl, hT5, rfl, rfl⟩) (hP.sub [0, 1] rfl) hK (hD.sub [0, 1] (by decide) rfl) hS dX1_feed_42 hlocks
  · refine lv_iconst (v := nI 0) hx hb dX1_feed_12 (by decide) ?_
    exact wt_z hx hb hr (rfl) ((f, n, T)) (Or.inl ⟨by omega, rfl, hT, rfl, rfl⟩) (hP.sub [0, 1] rfl) hK (hD.sub [0, 1] (by decide) rfl) hS dX1_feed_13 hlocks
set_option maxRecDepth 100000 in
set_option maxHeartbeats 4000000 in
/-- writtenAt(x) -/
theorem ct_writtenAt (l : Launch) (dC : Nat → ClassId) (dI : Nat → Nat → Nat) (h0 ht hw a1 a2 a3 n w : Nat) (cW : ClassId) (g : Nat → Int32) (O : List Nat) (hg : az_ou g O w) (hw2 : w ≤ 39) (x : Int32) : Met l yX1_writtenAt wsX1_writtenAt ({ frames := 0, cells := 0, slots := 0, locals := 0 }) (rd_P (dC, dI) azCl [(h0, .inr (1, [.ref ht, .int (nI n), .ref hw, .int (nI w), .ref a1, .ref a2, .ref a3])), (hw, .inl (cW, 39, .inl g))] [(cW, .byte)] [.ref h0, .int x]) (vp_Si (fun r => r = az_wat O x)) 0 0 (fun _ => False) := by
  refine Met.ofW (cc := cX1_writtenAt) (maxL := 2) (ret := (some .int)) (by decide) rfl ?_
  intro p e s m args below meth c s₁ Bd hml hv
  obtain ⟨rfl, hP, hK⟩ := hv
  have hx := Bd.exec
  have hb := Bd.bytes
  have hr := Bd.returns
  have hts := atoms_spec (ws := wsX1_writtenAt) Bd.pre
  have hown : s.vm.findClass RX1 = some m.cls := findClass_of_methodNamed Bd.named
  have hlocks := Bd.notSynchronized
  have hiX1 : ∀ w ∈ wsX10, w ∈ wsX1_writtenAt := by decide +kernel
  have hf20 := hts (.fieldLink RX1 20 "AddressTexts" "writtenCount" "I") (by decide +kernel)
  have hf17 := hts (.fieldLink RX1 17 "AddressTexts" "written" "[B") (by decide +kernel)
  have hl := lv_entry ([.ref h0, .int x]) (n := 2) (Nat.le_of_ble_eq_true rfl)
  rw [lg_entry_eq]
  generalize (lg_sl ([.ref h0, .int x]) ++ List.replicate (2 - (lg_sl ([.ref h0, .int x])).length) Slot.unset).toArray = ls at hl ⊢
  have hl : lv_has ls 2 [(0, .ref h0), (1, .int x)] := hl
  obtain ⟨hO, hOj⟩ := hg
  refine lv_iload_n hx hb dX1_writtenAt_0 rfl (lv_at hl 1 rfl) ?_
  refine lv_if_lt (tgt := 25) hx hb dX1_writtenAt_1 (by decide) (fun c1 => ?_) (fun c1 => ?_)
  · refine lv_iconst (v := -1) hx hb dX1_writtenAt_25 (by decide) ?_
    exact rt_i hx hb hr (by unfold az_wat; first | rw [if_pos c1] | rw [if_neg c1, hO, if_pos c9]) dX1_writtenAt_26 hlocks
  · refine lv_iload_n hx hb dX1_writtenAt_4 rfl (lv_at hl 1 rfl) ?_
    refine lv_aload_n hx hb dX1_writtenAt_5 rfl (lv_at hl 0 rfl) ?_
    refine va_get (D := (dC, dI)) (ci := 1) (v := .int (nI w)) (C := RX1) (T := TX1) (N := 7) hx hb hts hiX1 hown hK hP 0 rfl rfl 3 (by decide) hf20 (fun _ h9 => h9) rfl dX1_writtenAt_6 ?_
    refine lv_icmp_ge (tgt := 25) hx hb dX1_writtenAt_9 (by decide) (fun c9 => ?_) (fun c9 => ?_)
    · refine lv_iconst (v := -1) hx hb dX1_writtenAt_25 (by decide) ?_
      exact rt_i hx hb hr (by unfold az_wat; first | rw [if_pos c1] | rw [if_neg c1, hO, if_pos c9]) dX1_writtenAt_26 hlocks
    · obtain ⟨j, hj31, rfl⟩ := nI_of c1
      have hjw : j < w := by rcases Nat.lt_or_ge j w with q | q; exact (q); exact (absurd ((nI_leI (by omega) hj31).mpr q) c9)
      refine lv_aload_n hx hb dX1_writtenAt_12 rfl (lv_at hl 0 rfl) ?_
      refine va_get (D := (dC, dI)) (ci := 1) (v := .ref hw) (C := RX1) (T := TX1) (N := 7) hx hb hts hiX1 hown hK hP 0 rfl rfl 2 (by decide) hf17 (fun _ h9 => h9) rfl dX1_writtenAt_13 ?_
      refine lv_iload_n hx hb dX1_writtenAt_16 rfl (lv_at hl 1 rfl) ?_
      refine ld_b hx hb hK hP 1 0 rfl rfl (by omega) (by omega) dX1_writtenAt_17 ?_
      refine lv_sipush (v := nI 255) hx hb dX1_writtenAt_18 (by decide) ?_
      refine lv_iand hx hb dX1_writtenAt_21 ?_
      refine tp_i (nI (O.getD j 0)) (by rw [(hOj j hjw).1]; exact (pk_andN (by have := (hOj j hjw).2; omega) 8 (by decide)).trans (congrArg nI (by have := (hOj j hjw).2; omega))) ?_
      refine lv_goto (tgt := 26) hx hb dX1_writtenAt_22 (by decide) ?_
      exact rt_i hx hb hr (by unfold az_wat; rw [if_neg c1, hO, if_neg c9, nI_clamp hj31]) dX1_writtenAt_26 hlocks
set_option maxRecDepth 100000 in
set_option maxHeartbeats 4000000 in
/-- bits(x) -/
theorem ct_bits (l : Launch) (dC : Nat → ClassId) (dI : Nat → Nat → Nat) (h0 ht hw a1 a2 a3 n w : Nat) (f1 l1 V1 : Nat) (x : Int32) : Met l yX1_bits wsX1_bits ({ frames := 0, cells := 0, slots := 0, locals := 0 }) (rd_P (dC, dI) azCl [(h0, .inr (1, [.ref ht, .int (nI n), .ref hw, .int (nI w), .ref a1, .ref a2, .ref a3])), (a1, .inr (0, [.int (nI f1), .int (nI l1), .long (lN (V1 / 18446744073709551616)), .long (lN (V1 % 18446744073709551616))]))] [] [.ref h0, .int x]) (vp_Sl (fun r => r = az_bits V1 x)) 0 0 (fun _ => False) := by
  refine Met.ofW (cc := cX1_bits) (maxL := 2) (ret := (some .long)) (by decide) rfl ?_
  intro p e s m args below meth c s₁ Bd hml hv
  obtain ⟨rfl, hP, hK⟩ := hv
  have hx := Bd.exec
  have hb := Bd.bytes
  have hr := Bd.returns
  have hts := atoms_spec (ws := wsX1_bits) Bd.pre
  have hown : s.vm.findClass RX1 = some m.cls := findClass_of_methodNamed Bd.named
  have hlocks := Bd.notSynchronized
  have hiX1 : ∀ w ∈ wsX10, w ∈ wsX1_bits := by decide +kernel
  have hiX0 : ∀ w ∈ wsX00, w ∈ wsX1_bits := by decide +kernel
  have hf26 := hts (.fieldLink RX1 26 "AddressTexts" "one" "LAddressTexts$Address;") (by decide +kernel)
  have hf66 := hts (.fieldLink RX1 66 "AddressTexts$Address" "lower" "J") (by decide +kernel)
  have hf58 := hts (.fieldLink RX1 58 "AddressTexts$Address" "upper" "J") (by decide +kernel)
  have hl := lv_entry ([.ref h0, .int x]) (n := 2) (Nat.le_of_ble_eq_true rfl)
  rw [lg_entry_eq]
  generalize (lg_sl ([.ref h0, .int x]) ++ List.replicate (2 - (lg_sl ([.ref h0, .int x])).length) Slot.unset).toArray = ls at hl ⊢
  have hl : lv_has ls 2 [(0, .ref h0), (1, .int x)] := hl
  refine lv_iload_n hx hb dX1_bits_0 rfl (lv_at hl 1 rfl) ?_
  refine lv_if_ne (tgt := 12) hx hb dX1_bits_1 (by decide) (fun c1 => ?_) (fun c1 => ?_)
  · refine lv_iload_n hx hb dX1_bits_12 rfl (lv_at hl 1 rfl) ?_
    refine lv_iconst (v := nI 1) hx hb dX1_bits_13 (by decide) ?_
    refine lv_icmp_ne (tgt := 27) hx hb dX1_bits_14 (by decide) (fun c14 => ?_) (fun c14 => ?_)
    · refine lv_lconst (v := lN 0) hx hb dX1_bits_27 (by decide) ?_
      exact rt_l hx hb hr (by unfold az_bits; first | rw [if_neg c1, if_pos c14] | rw [if_neg c1, if_neg c14]) dX1_bits_28 hlocks
    · refine lv_aload_n hx hb dX1_bits_17 rfl (lv_at hl 0 rfl) ?_
      refine va_get (D := (dC, dI)) (ci := 1) (v := .ref a1) (C := RX1) (T := TX1) (N := 7) hx hb hts hiX1 hown hK hP 0 rfl rfl 4 (by decide) hf26 (fun _ h9 => h9) rfl dX1_bits_18 ?_
      refine va_get (D := (dC, dI)) (ci := 0) (v := .long (lN (V1 % 18446744073709551616))) (C := RX0) (T := TX0) (N := 4) hx hb hts hiX0 hown hK hP 1 rfl rfl 3 (by decide) hf66 (fun _ h9 => h9) rfl dX1_bits_21 ?_
      refine lv_goto (tgt := 28) hx hb dX1_bits_24 (by decide) ?_
      exact rt_l hx hb hr (by unfold az_bits; first | rw [if_neg c1, if_pos c14] | rw [if_neg c1, if_neg c14]) dX1_bits_28 hlocks
  · refine lv_aload_n hx hb dX1_bits_4 rfl (lv_at hl 0 rfl) ?_
    refine va_get (D := (dC, dI)) (ci := 1) (v := .ref a1) (C := RX1) (T := TX1) (N := 7) hx hb hts hiX1 hown hK hP 0 rfl rfl 4 (by decide) hf26 (fun _ h9 => h9) rfl dX1_bits_5 ?_
    refine va_get (D := (dC, dI)) (ci := 0) (v := .long (lN (V1 / 18446744073709551616))) (C := RX0) (T := TX0) (N := 4) hx hb hts hiX0 hown hK hP 1 rfl rfl 2 (by decide) hf58 (fun _ h9 => h9) rfl dX1_bits_8 ?_
    exact rt_l hx hb hr (by unfold az_bits; rw [if_pos c1]) dX1_bits_11 hlocks
set_option maxRecDepth 100000 in
set_option maxHeartbeats 4000000 in
/-- cut() -/
theorem ct_cut (l : Launch) (dC : Nat → ClassId) (dI : Nat → Nat → Nat) (sz : Nat) (h0 ht hw a1 a2 a3 n w : Nat) (f1 l1 V1 : Nat) (h1 : az_ad f1 l1 V1) : Met l yX1_cut wsX1_cut ({ frames := 3, cells := 0, slots := 0, locals := 60 }) (wr_P (dC, dI) azCl [(h0, .inr (1, [.ref ht, .int (nI n), .ref hw, .int (nI w), .ref a1, .ref a2, .ref a3])), (a1, .inr (0, [.int (nI f1), .int (nI l1), .long (lN (V1 / 18446744073709551616)), .long (lN (V1 % 18446744073709551616))]))] [] sz [.ref h0]) (va_Qi (fun r _ => r = az_b (¬ az_cut V1 (az_wl f1 - l1) = V1)) (wr_B (dC, dI) azCl [] (va_A [(h0, .inr (1, [.ref ht, .int (nI n), .ref hw, .int (nI w), .ref a1, .ref a2, .ref a3])), (a1, .inr (0, [.int (nI f1), .int (nI l1), .long (lN (V1 / 18446744073709551616)), .long (lN (V1 % 18446744073709551616))]))] sz) (fun _ : Unit => [(h0, .inr (1, [.ref ht, .int (nI n), .ref hw, .int (nI w), .ref a1, .ref a2, .ref a3])), (a1, .inr (0, [.int (nI f1), .int (nI l1), .long (lN ((az_cut V1 (az_wl f1 - l1)) / 18446744073709551616)), .long (lN ((az_cut V1 (az_wl f1 - l1)) % 18446744073709551616))]))])) (va_A [(h0, .inr (1, [.ref ht, .int (nI n), .ref hw, .int (nI w), .ref a1, .ref a2, .ref a3])), (a1, .inr (0, [.int (nI f1), .int (nI l1), .long (lN (V1 / 18446744073709551616)), .long (lN (V1 % 18446744073709551616))]))] sz)) 0 0 (va_A [(h0, .inr (1, [.ref ht, .int (nI n), .ref hw, .int (nI w), .ref a1, .ref a2, .ref a3])), (a1, .inr (0, [.int (nI f1), .int (nI l1), .long (lN (V1 / 18446744073709551616)), .long (lN (V1 % 18446744073709551616))]))] sz) := by
  refine Met.ofW (cc := cX1_cut) (maxL := 6) (ret := (some .boolean)) (by decide) rfl ?_
  intro p e s m args below meth c s₁ Bd hml hv
  obtain ⟨rfl, hsz, hP, hK, hD0⟩ := hv
  have hx := Bd.exec
  have hb := Bd.bytes
  have hr := Bd.returns
  have hts := atoms_spec (ws := wsX1_cut) Bd.pre
  have hown : s.vm.findClass RX1 = some m.cls := findClass_of_methodNamed Bd.named
  have hlocks := Bd.notSynchronized
  subst hsz
  have hD := hD0.self (sz := s.heap.size)
  generalize hAe : va_A [(h0, .inr (1, [.ref ht, .int (nI n), .ref hw, .int (nI w), .ref a1, .ref a2, .ref a3])), (a1, .inr (0, [.int (nI f1), .int (nI l1), .long (lN (V1 / 18446744073709551616)), .long (lN (V1 % 18446744073709551616))]))] s.heap.size = A at hD ⊢
  have hA : ∀ q : Nat, s.heap.size ≤ q → A q := fun q h => by rw [← hAe]; exact Or.inr h
  have hS : va_S A s.heap s.heap [] := va_S.rf
  have hP : va_P (dC, dI) azCl [(h0, .inr (1, [.ref ht, .int (nI n), .ref hw, .int (nI w), .ref a1, .ref a2, .ref a3])), (a1, .inr (0, [.int (nI f1), .int (nI l1), .long (lN (V1 / 18446744073709551616)), .long (lN (V1 % 18446744073709551616))]))] s.heap := hP
  have hiX1 : ∀ w ∈ wsX10, w ∈ wsX1_cut := by decide +kernel
  have hiX0 : ∀ w ∈ wsX00, w ∈ wsX1_cut := by decide +kernel
  have hf26 := hts (.fieldLink RX1 26 "AddressTexts" "one" "LAddressTexts$Address;") (by decide +kernel)
  have hf58 := hts (.fieldLink RX1 58 "AddressTexts$Address" "upper" "J") (by decide +kernel)
  have hf66 := hts (.fieldLink RX1 66 "AddressTexts$Address" "lower" "J") (by decide +kernel)
  have hl := lv_entry ([.ref h0]) (n := 6) (Nat.le_of_ble_eq_true rfl)
  rw [lg_entry_eq]
  generalize (lg_sl ([.ref h0]) ++ List.replicate (6 - (lg_sl ([.ref h0])).length) Slot.unset).toArray = ls at hl ⊢
  have hl : lv_has ls 6 [(0, .ref h0)] := hl
  have hV := az_ad_V h1
  have hk := az_ad_k h1
  have hm := az_ad_m h1
  have hcl := az_cut_le V1 (az_wl f1 - l1)
  refine lv_aload_n hx hb dX1_cut_0 rfl (lv_at hl 0 rfl) ?_
  refine va_get (D := (dC, dI)) (ci := 1) (v := .ref a1) (C := RX1) (T := TX1) (N := 7) hx hb hts hiX1 hown hK hP 0 rfl rfl 4 (by decide) hf26 (fun _ h9 => h9) rfl dX1_cut_1 ?_
  refine va_get (D := (dC, dI)) (ci := 0) (v := .long (lN (V1 / 18446744073709551616))) (C := RX0) (T := TX0) (N := 4) hx hb hts hiX0 hown hK hP 1 rfl rfl 2 (by decide) hf58 (fun _ h9 => h9) rfl dX1_cut_4 ?_
  refine lv_aload_n hx hb dX1_cut_7 rfl (lv_at hl 0 rfl) ?_
  refine va_get (D := (dC, dI)) (ci := 1) (v := .ref a1) (C := RX1) (T := TX1) (N := 7) hx hb hts hiX1 hown hK hP 0 rfl rfl 4 (by decide) hf26 (fun _ h9 => h9) rfl dX1_cut_8 ?_
  refine rc_Vl (As := []) (rest := [.long (lN (V1 / 18446744073709551616))]) ⟨hx, hb, hml, hown, hts⟩ (ct_upperMask l dC dI a1 f1 l1 (lN (V1 / 18446744073709551616)) (lN (V1 % 18446744073709551616)) (az_ad_6 h1)) (cwV 0 hts gX1_cut_X0_upperMask rfl rfl rfl (by decide +kernel) ⟨Nat.le_of_ble_eq_true rfl, Nat.le_of_ble_eq_true rfl⟩) (hP.sub [1] rfl) (hK.sub [] rfl) 0 rfl rfl rfl hl.1 rfl (Nat.le_of_ble_eq_true rfl) dX1_cut_11 ⟨(Nat.zero_le _), (Nat.zero_le _)⟩ ?_
  refine lv_land hx hb dX1_cut_14 ?_
  refine tp_l (lN (az_cut V1 (az_wl f1 - l1) / 18446744073709551616)) (by rw [az_cut_u hV hk, hm]) ?_
  refine lv_lstore_n (lv' := [(1, .long (lN (az_cut V1 (az_wl f1 - l1) / 18446744073709551616))), (0, .ref h0)]) hx hb dX1_cut_15 rfl hl (by decide) rfl (fun ls hl => ?_)
  refine lv_aload_n hx hb dX1_cut_16 rfl (lv_at hl 1 rfl) ?_
  refine va_get (D := (dC, dI)) (ci := 1) (v := .ref a1) (C := RX1) (T := TX1) (N := 7) hx hb hts hiX1 hown hK hP 0 rfl rfl 4 (by decide) hf26 (fun _ h9 => h9) rfl dX1_cut_17 ?_
  refine va_get (D := (dC, dI)) (ci := 0) (v := .long (lN (V1 % 18446744073709551616))) (C := RX0) (T := TX0) (N := 4) hx hb hts hiX0 hown hK hP 1 rfl rfl 3 (by decide) hf66 (fun _ h9 => h9) rfl dX1_cut_20 ?_
  refine lv_aload_n hx hb dX1_cut_23 rfl (lv_at hl 1 rfl) ?_
  refine va_get (D := (dC, dI)) (ci := 1) (v := .ref a1) (C := RX1) (T := TX1) (N := 7) hx hb hts hiX1 hown hK hP 0 rfl rfl 4 (by decide) hf26 (fun _ h9 => h9) rfl dX1_cut_24 ?_
  refine rc_Vl (As := []) (rest := [.long (lN (V1 % 18446744073709551616))]) ⟨hx, hb, hml, hown, hts⟩ (ct_lowerMask l dC dI a1 f1 l1 (lN (V1 / 18446744073709551616)) (lN (V1 % 18446744073709551616)) (az_ad_6 h1)) (cwV 0 hts gX1_cut_X0_lowerMask rfl rfl rfl (by decide +kernel) ⟨Nat.le_of_ble_eq_true rfl, Nat.le_of_ble_eq_true rfl⟩) (hP.sub [1] rfl) (hK.sub [] rfl) 0 rfl rfl rfl hl.1 rfl (Nat.le_of_ble_eq_true rfl) dX1_cut_27 ⟨(Nat.zero_le _), (Nat.zero_le _)⟩ ?_
  refine lv_land hx hb dX1_cut_30 ?_
  refine tp_l (lN (az_cut V1 (az_wl f1 - l1) % 18446744073709551616)) (by rw [az_cut_l hk, hm]) ?_
  refine lv_lstore_n (lv' := [(3, .long (lN (az_cut V1 (az_wl f1 - l1) % 18446744073709551616))), (1, .long (lN (az_cut V1 (az_wl f1 - l1) / 18446744073709551616))), (0, .ref h0)]) hx hb dX1_cut_31 rfl hl (by decide) rfl (fun ls hl => ?_)
  refine lv_lload_n hx hb dX1_cut_32 rfl (lv_at hl 1 rfl) ?_
  refine lv_aload_n hx hb dX1_cut_33 rfl (lv_at hl 2 rfl) ?_
  refine va_get (D := (dC, dI)) (ci := 1) (v := .ref a1) (C := RX1) (T := TX1) (N := 7) hx hb hts hiX1 hown hK hP 0 rfl rfl 4 (by decide) hf26 (fun _ h9 => h9) rfl dX1_cut_34 ?_
  refine va_get (D := (dC, dI)) (ci := 0) (v := .long (lN (V1 / 18446744073709551616))) (C := RX0) (T := TX0) (N := 4) hx hb hts hiX0 hown hK hP 1 rfl rfl 2 (by decide) hf58 (fun _ h9 => h9) rfl dX1_cut_37 ?_
  refine W.lcmp hx hb dX1_cut_40 ?_
  refine lv_if_ne (tgt := 56) hx hb dX1_cut_41 (by decide) (fun c41 => ?_) (fun c41 => ?_)
  · have d41 : ¬ az_cut V1 (az_wl f1 - l1) / 18446744073709551616 = V1 / 18446744073709551616 := fun q => c41 (az_cmp0.mpr (by rw [q]))
    refine lv_iconst (v := nI 1) hx hb dX1_cut_56 (by decide) ?_
    refine lv_goto (tgt := 61) hx hb dX1_cut_57 (by decide) ?_
    refine lv_istore (lv' := [(5, .int (nI 1)), (3, .long (lN (az_cut V1 (az_wl f1 - l1) % 18446744073709551616))), (1, .long (lN (az_cut V1 (az_wl f1 - l1) / 18446744073709551616))), (0, .ref h0)]) hx hb dX1_cut_61 hl (by decide) rfl (fun ls hl => ?_)
    refine lv_aload_n hx hb dX1_cut_63 rfl (lv_at hl 3 rfl) ?_
    refine va_get (D := (dC, dI)) (ci := 1) (v := .ref a1) (C := RX1) (T := TX1) (N := 7) hx hb hts hiX1 hown hK hP 0 rfl rfl 4 (by decide) hf26 (fun _ h9 => h9) rfl dX1_cut_64 ?_
    refine lv_lload_n hx hb dX1_cut_67 rfl (lv_at hl 2 rfl) ?_
    refine va_put (D := (dC, dI)) (ci := 0) (v := .long (lN (az_cut V1 (az_wl f1 - l1) / 18446744073709551616))) (ty := .long) (C := RX0) (T := TX0) (N := 4) hx hb hts hiX0 tyX0 tyX0_ok nmX0 hown hK hP hD hS 1 rfl rfl 2 (by decide) hf58 (fun _ h9 => h9) rfl (by decide +kernel) rfl rfl (Nat.le_of_ble_eq_true rfl) dX1_cut_68 (fun H locs hP hD hS => ?_)
    have hP : va_P (dC, dI) azCl [(h0, .inr (1, [.ref ht, .int (nI n), .ref hw, .int (nI w), .ref a1, .ref a2, .ref a3])), (a1, .inr (0, [.int (nI f1), .int (nI l1), .long (lN (az_cut V1 (az_wl f1 - l1) / 18446744073709551616)), .long (lN (V1 % 18446744073709551616))]))] H := hP
    have hD : va_D A [(h0, .inr (1, [.ref ht, .int (nI n), .ref hw, .int (nI w), .ref a1, .ref a2, .ref a3])), (a1, .inr (0, [.int (nI f1), .int (nI l1), .long (lN (az_cut V1 (az_wl f1 - l1) / 18446744073709551616)), .long (lN (V1 % 18446744073709551616))]))] := hD
    refine lv_aload_n hx hb dX1_cut_71 rfl (lv_at hl 3 rfl) ?_
    refine va_get (D := (dC, dI)) (ci := 1) (v := .ref a1) (C := RX1) (T := TX1) (N := 7) hx hb hts hiX1 hown hK hP 0 rfl rfl 4 (by decide) hf26 (fun _ h9 => h9) rfl dX1_cut_72 ?_
    refine lv_lload_n hx hb dX1_cut_75 rfl (lv_at hl 1 rfl) ?_
    refine va_put (D := (dC, dI)) (ci := 0) (v := .long (lN (az_cut V1 (az_wl f1 - l1) % 18446744073709551616))) (ty := .long) (C := RX0) (T := TX0) (N := 4) hx hb hts hiX0 tyX0 tyX0_ok nmX0 hown hK hP hD hS 1 rfl rfl 3 (by decide) hf66 (fun _ h9 => h9) rfl (by decide +kernel) rfl rfl (Nat.le_of_ble_eq_true rfl) dX1_cut_76 (fun H locs hP hD hS => ?_)
    have hP : va_P (dC, dI) azCl [(h0, .inr (1, [.ref ht, .int (nI n), .ref hw, .int (nI w), .ref a1, .ref a2, .ref a3])), (a1, .inr (0, [.int (nI f1), .int (nI l1), .long (lN (az_cut V1 (az_wl f1 - l1) / 18446744073709551616)), .long (lN (az_cut V1 (az_wl f1 - l1) % 18446744073709551616))]))] H := hP
    have hD : va_D A [(h0, .inr (1, [.ref ht, .int (nI n), .ref hw, .int (nI w), .ref a1, .ref a2, .ref a3])), (a1, .inr (0, [.int (nI f1), .int (nI l1), .long (lN (az_cut V1 (az_wl f1 - l1) / 18446744073709551616)), .long (lN (az_cut V1 (az_wl f1 - l1) % 18446744073709551616))]))] := hD
    refine lv_iload hx hb dX1_cut_79 (lv_at hl 0 rfl) ?_
    exact wt_z hx hb hr (rfl) (()) ((az_b_t (p := ¬ az_cut V1 (az_wl f1 - l1) = V1) (fun q => by first | exact d41 (by rw [q]) | exact d53 (by rw [q]))).symm) (hP.sub [0, 1] rfl) hK (hD.sub [0, 1] (by decide) rfl) hS dX1_cut_81 hlocks
  · have d41 : az_cut V1 (az_wl f1 - l1) / 18446744073709551616 = V1 / 18446744073709551616 := (az_lN_eq (by omega) (by omega)).mp (az_cmp0.mp c41)
    refine lv_lload_n hx hb dX1_cut_44 rfl (lv_at hl 0 rfl) ?_
    refine lv_aload_n hx hb dX1_cut_45 rfl (lv_at hl 2 rfl) ?_
    refine va_get (D := (dC, dI)) (ci := 1) (v := .ref a1) (C := RX1) (T := TX1) (N := 7) hx hb hts hiX1 hown hK hP 0 rfl rfl 4 (by decide) hf26 (fun _ h9 => h9) rfl dX1_cut_46 ?_
    refine va_get (D := (dC, dI)) (ci := 0) (v := .long (lN (V1 % 18446744073709551616))) (C := RX0) (T := TX0) (N := 4) hx hb hts hiX0 hown hK hP 1 rfl rfl 3 (by decide) hf66 (fun _ h9 => h9) rfl dX1_cut_49 ?_
    refine W.lcmp hx hb dX1_cut_52 ?_
    refine lv_if_eq (tgt := 60) hx hb dX1_cut_53 (by decide) (fun c53 => ?_) (fun c53 => ?_)
    · have d53 : az_cut V1 (az_wl f1 - l1) % 18446744073709551616 = V1 % 18446744073709551616 := (az_lN_eq (Nat.mod_lt _ (by decide)) (Nat.mod_lt _ (by decide))).mp (az_cmp0.mp c53)
      refine lv_iconst (v := nI 0) hx hb dX1_cut_60 (by decide) ?_
      refine lv_istore (lv' := [(5, .int (nI 0)), (3, .long (lN (az_cut V1 (az_wl f1 - l1) % 18446744073709551616))), (1, .long (lN (az_cut V1 (az_wl f1 - l1) / 18446744073709551616))), (0, .ref h0)]) hx hb dX1_cut_61 hl (by decide) rfl (fun ls hl => ?_)
      refine lv_aload_n hx hb dX1_cut_63 rfl (lv_at hl 3 rfl) ?_
      refine va_get (D := (dC, dI)) (ci := 1) (v := .ref a1) (C := RX1) (T := TX1) (N := 7) hx hb hts hiX1 hown hK hP 0 rfl rfl 4 (by decide) hf26 (fun _ h9 => h9) rfl dX1_cut_64 ?_
      refine lv_lload_n hx hb dX1_cut_67 rfl (lv_at hl 2 rfl) ?_
      refine va_put (D := (dC, dI)) (ci := 0) (v := .long (lN (az_cut V1 (az_wl f1 - l1) / 18446744073709551616))) (ty := .long) (C := RX0) (T := TX0) (N := 4) hx hb hts hiX0 tyX0 tyX0_ok nmX0 hown hK hP hD hS 1 rfl rfl 2 (by decide) hf58 (fun _ h9 => h9) rfl (by decide +kernel) rfl rfl (Nat.le_of_ble_eq_true rfl) dX1_cut_68 (fun H locs hP hD hS => ?_)
      have hP : va_P (dC, dI) azCl [(h0, .inr (1, [.ref ht, .int (nI n), .ref hw, .int (nI w), .ref a1, .ref a2, .ref a3])), (a1, .inr (0, [.int (nI f1), .int (nI l1), .long (lN (az_cut V1 (az_wl f1 - l1) / 18446744073709551616)), .long (lN (V1 % 18446744073709551616))]))] H := hP
      have hD : va_D A [(h0, .inr (1, [.ref ht, .int (nI n), .ref hw, .int (nI w), .ref a1, .ref a2, .ref a3])), (a1, .inr (0, [.int (nI f1), .int (nI l1), .long (lN (az_cut V1 (az_wl f1 - l1) / 18446744073709551616)), .long (lN (V1 % 18446744073709551616))]))] := hD
      refine lv_aload_n hx hb dX1_cut_71 rfl (lv_at hl 3 rfl) ?_
      refine va_get (D := (dC, dI)) (ci := 1) (v := .ref a1) (C := RX1) (T := TX1) (N := 7) hx hb hts hiX1 hown hK hP 0 rfl rfl 4 (by decide) hf26 (fun _ h9 => h9) rfl dX1_cut_72 ?_
      refine lv_lload_n hx hb dX1_cut_75 rfl (lv_at hl 1 rfl) ?_
      refine va_put (D := (dC, dI)) (ci := 0) (v := .long (lN (az_cut V1 (az_wl f1 - l1) % 18446744073709551616))) (ty := .long) (C := RX0) (T := TX0) (N := 4) hx hb hts hiX0 tyX0 tyX0_ok nmX0 hown hK hP hD hS 1 rfl rfl 3 (by decide) hf66 (fun _ h9 => h9) rfl (by decide +kernel) rfl rfl (Nat.le_of_ble_eq_true rfl) dX1_cut_76 (fun H locs hP hD hS => ?_)
      have hP : va_P (dC, dI) azCl [(h0, .inr (1, [.ref ht, .int (nI n), .ref hw, .int (nI w), .ref a1, .ref a2, .ref a3])), (a1, .inr (0, [.int (nI f1), .int (nI l1), .long (lN (az_cut V1 (az_wl f1 - l1) / 18446744073709551616)), .long (lN (az_cut V1 (az_wl f1 - l1) % 18446744073709551616))]))] H := hP
      have hD : va_D A [(h0, .inr (1, [.ref ht, .int (nI n), .ref hw, .int (nI w), .ref a1, .ref a2, .ref a3])), (a1, .inr (0, [.int (nI f1), .int (nI l1), .long (lN (az_cut V1 (az_wl f1 - l1) / 18446744073709551616)), .long (lN (az_cut V1 (az_wl f1 - l1) % 18446744073709551616))]))] := hD
      refine lv_iload hx hb dX1_cut_79 (lv_at hl 0 rfl) ?_
      exact wt_z hx hb hr (rfl) (()) ((az_b_f (p := ¬ az_cut V1 (az_wl f1 - l1) = V1) (fun q => q (az_halves d41 d53))).symm) (hP.sub [0, 1] rfl) hK (hD.sub [0, 1] (by decide) rfl) hS dX1_cut_81 hlocks
    · have d53 : ¬ az_cut V1 (az_wl f1 - l1) % 18446744073709551616 = V1 % 18446744073709551616 := fun q => c53 (az_cmp0.mpr (by rw [q]))
      refine lv_iconst (v := nI 1) hx hb dX1_cut_56 (by decide) ?_
      refine lv_goto (tgt := 61) hx hb dX1_cut_57 (by decide) ?_
      refine lv_istore (lv' := [(5, .int (nI 1)), (3, .long (lN (az_cut V1 (az_wl f1 - l1) % 18446744073709551616))), (1, .long (lN (az_cut V1 (az_wl f1 - l1) / 18446744073709551616))), (0, .ref h0)]) hx hb dX1_cut_61 hl (by decide) rfl (fun ls hl => ?_)
      refine lv_aload_n hx hb dX1_cut_63 rfl (lv_at hl 3 rfl) ?_
      refine va_get (D := (dC, dI)) (ci := 1) (v := .ref a1) (C := RX1) (T := TX1) (N := 7) hx hb hts hiX1 hown hK hP 0 rfl rfl 4 (by decide) hf26 (fun _ h9 => h9) rfl dX1_cut_64 ?_
      refine lv_lload_n hx hb dX1_cut_67 rfl (lv_at hl 2 rfl) ?_
      refine va_put (D := (dC, dI)) (ci := 0) (v := .long (lN (az_cut V1 (az_wl f1 - l1) / 18446744073709551616))) (ty := .long) (C := RX0) (T := TX0) (N := 4) hx hb hts hiX0 tyX0 tyX0_ok nmX0 hown hK hP hD hS 1 rfl rfl 2 (by decide) hf58 (fun _ h9 => h9) rfl (by decide +kernel) rfl rfl (Nat.le_of_ble_eq_true rfl) dX1_cut_68 (fun H locs hP hD hS => ?_)
      have hP : va_P (dC, dI) azCl [(h0, .inr (1, [.ref ht, .int (nI n), .ref hw, .int (nI w), .ref a1, .ref a2, .ref a3])), (a1, .inr (0, [.int (nI f1), .int (nI l1), .long (lN (az_cut V1 (az_wl f1 - l1) / 18446744073709551616)), .long (lN (V1 % 18446744073709551616))]))] H := hP
      have hD : va_D A [(h0, .inr (1, [.ref ht, .int (nI n), .ref hw, .int (nI w), .ref a1, .ref a2, .ref a3])), (a1, .inr (0, [.int (nI f1), .int (nI l1), .long (lN (az_cut V1 (az_wl f1 - l1) / 18446744073709551616)), .long (lN (V1 % 18446744073709551616))]))] := hD
      refine lv_aload_n hx hb dX1_cut_71 rfl (lv_at hl 3 rfl) ?_
      refine va_get (D := (dC, dI)) (ci := 1) (v := .ref a1) (C := RX1) (T := TX1) (N := 7) hx hb hts hiX1 hown hK hP 0 rfl rfl 4 (by decide) hf26 (fun _ h9 => h9) rfl dX1_cut_72 ?_
      refine lv_lload_n hx hb dX1_cut_75 rfl (lv_at hl 1 rfl) ?_
      refine va_put (D := (dC, dI)) (ci := 0) (v := .long (lN (az_cut V1 (az_wl f1 - l1) % 18446744073709551616))) (ty := .long) (C := RX0) (T := TX0) (N := 4) hx hb hts hiX0 tyX0 tyX0_ok nmX0 hown hK hP hD hS 1 rfl rfl 3 (by decide) hf66 (fun _ h9 => h9) rfl (by decide +kernel) rfl rfl (Nat.le_of_ble_eq_true rfl) dX1_cut_76 (fun H locs hP hD hS => ?_)
      have hP : va_P (dC, dI) azCl [(h0, .inr (1, [.ref ht, .int (nI n), .ref hw, .int (nI w), .ref a1, .ref a2, .ref a3])), (a1, .inr (0, [.int (nI f1), .int (nI l1), .long (lN (az_cut V1 (az_wl f1 - l1) / 18446744073709551616)), .long (lN (az_cut V1 (az_wl f1 - l1) % 18446744073709551616))]))] H := hP
      have hD : va_D A [(h0, .inr (1, [.ref ht, .int (nI n), .ref hw, .int (nI w), .ref a1, .ref a2, .ref a3])), (a1, .inr (0, [.int (nI f1), .int (nI l1), .long (lN (az_cut V1 (az_wl f1 - l1) / 18446744073709551616)), .long (lN (az_cut V1 (az_wl f1 - l1) % 18446744073709551616))]))] := hD
      refine lv_iload hx hb dX1_cut_79 (lv_at hl 0 rfl) ?_
      exact wt_z hx hb hr (rfl) (()) ((az_b_t (p := ¬ az_cut V1 (az_wl f1 - l1) = V1) (fun q => by first | exact d41 (by rw [q]) | exact d53 (by rw [q]))).symm) (hP.sub [0, 1] rfl) hK (hD.sub [0, 1] (by decide) rfl) hS dX1_cut_81 hlocks
set_option maxRecDepth 100000 in
set_option maxHeartbeats 4000000 in
/-- covers() -/
theorem ct_covers (l : Launch) (dC : Nat → ClassId) (dI : Nat → Nat → Nat) (h0 ht hw a1 a2 a3 n w : Nat) (f1 l1 V1 f2 l2 V2 : Nat) (h1 : az_ad f1 l1 V1) (h2 : az_ad f2 l2 V2) : Met l yX1_covers wsX1_covers ({ frames := 3, cells := 0, slots := 0, locals := 60 }) (rd_P (dC, dI) azCl [(h0, .inr (1, [.ref ht, .int (nI n), .ref hw, .int (nI w), .ref a1, .ref a2, .ref a3])), (a1, .inr (0, [.int (nI f1), .int (nI l1), .long (lN (V1 / 18446744073709551616)), .long (lN (V1 % 18446744073709551616))])), (a2, .inr (0, [.int (nI f2), .int (nI l2), .long (lN (V2 / 18446744073709551616)), .long (lN (V2 % 18446744073709551616))]))] [] [.ref h0]) (vp_Si (fun r => r = az_b (f1 = f2 ∧ l1 ≤ l2 ∧ az_cut V1 (az_wl f1 - l1) = az_cut V2 (az_wl f1 - l1)))) 0 0 (fun _ => False) := by
  refine Met.ofW (cc := cX1_covers) (maxL := 1) (ret := (some .boolean)) (by decide) rfl ?_
  intro p e s m args below meth c s₁ Bd hml hv
  obtain ⟨rfl, hP, hK⟩ := hv
  have hx := Bd.exec
  have hb := Bd.bytes
  have hr := Bd.returns
  have hts := atoms_spec (ws := wsX1_covers) Bd.pre
  have hown : s.vm.findClass RX1 = some m.cls := findClass_of_methodNamed Bd.named
  have hlocks := Bd.notSynchronized
  have hiX1 : ∀ w ∈ wsX10, w ∈ wsX1_covers := by decide +kernel
  have hiX0 : ∀ w ∈ wsX00, w ∈ wsX1_covers := by decide +kernel
  have hf26 := hts (.fieldLink RX1 26 "AddressTexts" "one" "LAddressTexts$Address;") (by decide +kernel)
  have hf44 := hts (.fieldLink RX1 44 "AddressTexts$Address" "family" "I") (by decide +kernel)
  have hf30 := hts (.fieldLink RX1 30 "AddressTexts" "two" "LAddressTexts$Address;") (by decide +kernel)
  have hf55 := hts (.fieldLink RX1 55 "AddressTexts$Address" "prefixLength" "I") (by decide +kernel)
  have hf58 := hts (.fieldLink RX1 58 "AddressTexts$Address" "upper" "J") (by decide +kernel)
  have hf66 := hts (.fieldLink RX1 66 "AddressTexts$Address" "lower" "J") (by decide +kernel)
  have hl := lv_entry ([.ref h0]) (n := 1) (Nat.le_of_ble_eq_true rfl)
  rw [lg_entry_eq]
  generalize (lg_sl ([.ref h0]) ++ List.replicate (1 - (lg_sl ([.ref h0])).length) Slot.unset).toArray = ls at hl ⊢
  have hl : lv_has ls 1 [(0, .ref h0)] := hl
  have hV := az_ad_V h1
  have hU := az_ad_V h2
  have hk := az_ad_k h1
  have hm := az_ad_m h1
  have hf1 := az_ad_6 h1
  have hf2 := az_ad_6 h2
  have hl1 := h1.2
  have hl2 := h2.2
  have hw1 := az_wl_le f1
  have hw2 := az_wl_le f2
  refine lv_aload_n hx hb dX1_covers_0 rfl (lv_at hl 0 rfl) ?_
  refine va_get (D := (dC, dI)) (ci := 1) (v := .ref a1) (C := RX1) (T := TX1) (N := 7) hx hb hts hiX1 hown hK hP 0 rfl rfl 4 (by decide) hf26 (fun _ h9 => h9) rfl dX1_covers_1 ?_
  refine va_get (D := (dC, dI)) (ci := 0) (v := .int (nI f1)) (C := RX0) (T := TX0) (N := 4) hx hb hts hiX0 hown hK hP 1 rfl rfl 0 (by decide) hf44 (fun _ h9 => h9) rfl dX1_covers_4 ?_
  refine lv_aload_n hx hb dX1_covers_7 rfl (lv_at hl 0 rfl) ?_
  refine va_get (D := (dC, dI)) (ci := 1) (v := .ref a2) (C := RX1) (T := TX1) (N := 7) hx hb hts hiX1 hown hK hP 0 rfl rfl 5 (by decide) hf30 (fun _ h9 => h9) rfl dX1_covers_8 ?_
  refine va_get (D := (dC, dI)) (ci := 0) (v := .int (nI f2)) (C := RX0) (T := TX0) (N := 4) hx hb hts hiX0 hown hK hP 2 rfl rfl 0 (by decide) hf44 (fun _ h9 => h9) rfl dX1_covers_11 ?_
  refine bn_ne (tgt := 94) hx hb dX1_covers_14 (by decide) (by omega) (by omega) (fun c14 => ?_) (fun c14 => ?_)
  · refine lv_iconst (v := nI 0) hx hb dX1_covers_94 (by decide) ?_
    exact rt_z hx hb hr (rfl) ((az_b_f (fun q => by first | exact c14 q.1 | exact absurd q.2.1 (by omega) | exact d59 (by rw [q.2.2]) | exact d87 (by rw [q.2.2]))).symm) dX1_covers_95 hlocks
  · refine lv_aload_n hx hb dX1_covers_17 rfl (lv_at hl 0 rfl) ?_
    refine va_get (D := (dC, dI)) (ci := 1) (v := .ref a1) (C := RX1) (T := TX1) (N := 7) hx hb hts hiX1 hown hK hP 0 rfl rfl 4 (by decide) hf26 (fun _ h9 => h9) rfl dX1_covers_18 ?_
    refine va_get (D := (dC, dI)) (ci := 0) (v := .int (nI l1)) (C := RX0) (T := TX0) (N := 4) hx hb hts hiX0 hown hK hP 1 rfl rfl 1 (by decide) hf55 (fun _ h9 => h9) rfl dX1_covers_21 ?_
    refine lv_aload_n hx hb dX1_covers_24 rfl (lv_at hl 0 rfl) ?_
    refine va_get (D := (dC, dI)) (ci := 1) (v := .ref a2) (C := RX1) (T := TX1) (N := 7) hx hb hts hiX1 hown hK hP 0 rfl rfl 5 (by decide) hf30 (fun _ h9 => h9) rfl dX1_covers_25 ?_
    refine va_get (D := (dC, dI)) (ci := 0) (v := .int (nI l2)) (C := RX0) (T := TX0) (N := 4) hx hb hts hiX0 hown hK hP 2 rfl rfl 1 (by decide) hf55 (fun _ h9 => h9) rfl dX1_covers_28 ?_
    refine bn_gt (tgt := 94) hx hb dX1_covers_31 (by decide) (by omega) (by omega) (fun c31 => ?_) (fun c31 => ?_)
    · refine lv_iconst (v := nI 0) hx hb dX1_covers_94 (by decide) ?_
      exact rt_z hx hb hr (rfl) ((az_b_f (fun q => by first | exact c14 q.1 | exact absurd q.2.1 (by omega) | exact d59 (by rw [q.2.2]) | exact d87 (by rw [q.2.2]))).symm) dX1_covers_95 hlocks
    · refine lv_aload_n hx hb dX1_covers_34 rfl (lv_at hl 0 rfl) ?_
      refine va_get (D := (dC, dI)) (ci := 1) (v := .ref a1) (C := RX1) (T := TX1) (N := 7) hx hb hts hiX1 hown hK hP 0 rfl rfl 4 (by decide) hf26 (fun _ h9 => h9) rfl dX1_covers_35 ?_
      refine va_get (D := (dC, dI)) (ci := 0) (v := .long (lN (V1 / 18446744073709551616))) (C := RX0) (T := TX0) (N := 4) hx hb hts hiX0 hown hK hP 1 rfl rfl 2 (by decide) hf58 (fun _ h9 => h9) rfl dX1_covers_38 ?_
      refine lv_aload_n hx hb dX1_covers_41 rfl (lv_at hl 0 rfl) ?_
      refine va_get (D := (dC, dI)) (ci := 1) (v := .ref a2) (C := RX1) (T := TX1) (N := 7) hx hb hts hiX1 hown hK hP 0 rfl rfl 5 (by decide) hf30 (fun _ h9 => h9) rfl dX1_covers_42 ?_
      refine va_get (D := (dC, dI)) (ci := 0) (v := .long (lN (V2 / 18446744073709551616))) (C := RX0) (T := TX0) (N := 4) hx hb hts hiX0 hown hK hP 2 rfl rfl 2 (by decide) hf58 (fun _ h9 => h9) rfl dX1_covers_45 ?_
      refine lv_lxor hx hb dX1_covers_48 ?_
      refine lv_aload_n hx hb dX1_covers_49 rfl (lv_at hl 0 rfl) ?_
      refine va_get (D := (dC, dI)) (ci := 1) (v := .ref a1) (C := RX1) (T := TX1) (N := 7) hx hb hts hiX1 hown hK hP 0 rfl rfl 4 (by decide) hf26 (fun _ h9 => h9) rfl dX1_covers_50 ?_
      refine rc_Vl (As := []) (rest := [.long ((lN (V1 / 18446744073709551616)) ^^^ (lN (V2 / 18446744073709551616)))]) ⟨hx, hb, hml, hown, hts⟩ (ct_upperMask l dC dI a1 f1 l1 (lN (V1 / 18446744073709551616)) (lN (V1 % 18446744073709551616)) (az_ad_6 h1)) (cwV 0 hts gX1_covers_X0_upperMask rfl rfl rfl (by decide +kernel) ⟨Nat.le_of_ble_eq_true rfl, Nat.le_of_ble_eq_true rfl⟩) (hP.sub [1] rfl) (hK.sub [] rfl) 0 rfl rfl rfl hl.1 rfl (Nat.le_of_ble_eq_true rfl) dX1_covers_53 ⟨(Nat.zero_le _), (Nat.zero_le _)⟩ ?_
      refine lv_land hx hb dX1_covers_56 ?_
      refine lv_lconst (v := lN 0) hx hb dX1_covers_57 (by decide) ?_
      refine W.lcmp hx hb dX1_covers_58 ?_
      refine lv_if_ne (tgt := 94) hx hb dX1_covers_59 (by decide) (fun c59 => ?_) (fun c59 => ?_)
      · have d59 : ¬ az_cut V1 (az_wl f1 - l1) / 18446744073709551616 = az_cut V2 (az_wl f1 - l1) / 18446744073709551616 := fun q => c59 (az_cmp0.mpr ((az_cov_u hV hU hk).mpr (by rw [hm]; exact q)))
        refine lv_iconst (v := nI 0) hx hb dX1_covers_94 (by decide) ?_
        exact rt_z hx hb hr (rfl) ((az_b_f (fun q => by first | exact c14 q.1 | exact absurd q.2.1 (by omega) | exact d59 (by rw [q.2.2]) | exact d87 (by rw [q.2.2]))).symm) dX1_covers_95 hlocks
      · have d59 : az_cut V1 (az_wl f1 - l1) / 18446744073709551616 = az_cut V2 (az_wl f1 - l1) / 18446744073709551616 := by have h := (az_cov_u hV hU hk).mp (az_cmp0.mp c59); rw [hm] at h; exact h
        refine lv_aload_n hx hb dX1_covers_62 rfl (lv_at hl 0 rfl) ?_
        refine va_get (D := (dC, dI)) (ci := 1) (v := .ref a1) (C := RX1) (T := TX1) (N := 7) hx hb hts hiX1 hown hK hP 0 rfl rfl 4 (by decide) hf26 (fun _ h9 => h9) rfl dX1_covers_63 ?_
        refine va_get (D := (dC, dI)) (ci := 0) (v := .long (lN (V1 % 18446744073709551616))) (C := RX0) (T := TX0) (N := 4) hx hb hts hiX0 hown hK hP 1 rfl rfl 3 (by decide) hf66 (fun _ h9 => h9) rfl dX1_covers_66 ?_
        refine lv_aload_n hx hb dX1_covers_69 rfl (lv_at hl 0 rfl) ?_
        refine va_get (D := (dC, dI)) (ci := 1) (v := .ref a2) (C := RX1) (T := TX1) (N := 7) hx hb hts hiX1 hown hK hP 0 rfl rfl 5 (by decide) hf30 (fun _ h9 => h9) rfl dX1_covers_70 ?_
        refine va_get (D := (dC, dI)) (ci := 0) (v := .long (lN (V2 % 18446744073709551616))) (C := RX0) (T := TX0) (N := 4) hx hb hts hiX0 hown hK hP 2 rfl rfl 3 (by decide) hf66 (fun _ h9 => h9) rfl dX1_covers_73 ?_
        refine lv_lxor hx hb dX1_covers_76 ?_
        refine lv_aload_n hx hb dX1_covers_77 rfl (lv_at hl 0 rfl) ?_
        refine va_get (D := (dC, dI)) (ci := 1) (v := .ref a1) (C := RX1) (T := TX1) (N := 7) hx hb hts hiX1 hown hK hP 0 rfl rfl 4 (by decide) hf26 (fun _ h9 => h9) rfl dX1_covers_78 ?_
        refine rc_Vl (As := []) (rest := [.long ((lN (V1 % 18446744073709551616)) ^^^ (lN (V2 % 18446744073709551616)))]) ⟨hx, hb, hml, hown, hts⟩ (ct_lowerMask l dC dI a1 f1 l1 (lN (V1 / 18446744073709551616)) (lN (V1 % 18446744073709551616)) (az_ad_6 h1)) (cwV 0 hts gX1_covers_X0_lowerMask rfl rfl rfl (by decide +kernel) ⟨Nat.le_of_ble_eq_true rfl, Nat.le_of_ble_eq_true rfl⟩) (hP.sub [1] rfl) (hK.sub [] rfl) 0 rfl rfl rfl hl.1 rfl (Nat.le_of_ble_eq_true rfl) dX1_covers_81 ⟨(Nat.zero_le _), (Nat.zero_le _)⟩ ?_
        refine lv_land hx hb dX1_covers_84 ?_
        refine lv_lconst (v := lN 0) hx hb dX1_covers_85 (by decide) ?_
        refine W.lcmp hx hb dX1_covers_86 ?_
        refine lv_if_ne (tgt := 94) hx hb dX1_covers_87 (by decide) (fun c87 => ?_) (fun c87 => ?_)
        · have d87 : ¬ az_cut V1 (az_wl f1 - l1) % 18446744073709551616 = az_cut V2 (az_wl f1 - l1) % 18446744073709551616 := fun q => c87 (az_cmp0.mpr ((az_cov_l hk).mpr (by rw [hm]; exact q)))
          refine lv_iconst (v := nI 0) hx hb dX1_covers_94 (by decide) ?_
          exact rt_z hx hb hr (rfl) ((az_b_f (fun q => by first | exact c14 q.1 | exact absurd q.2.1 (by omega) | exact d59 (by rw [q.2.2]) | exact d87 (by rw [q.2.2]))).symm) dX1_covers_95 hlocks
        · have d87 : az_cut V1 (az_wl f1 - l1) % 18446744073709551616 = az_cut V2 (az_wl f1 - l1) % 18446744073709551616 := by have h := (az_cov_l hk).mp (az_cmp0.mp c87); rw [hm] at h; exact h
          refine lv_iconst (v := nI 1) hx hb dX1_covers_90 (by decide) ?_
          refine lv_goto (tgt := 95) hx hb dX1_covers_91 (by decide) ?_
          exact rt_z hx hb hr (rfl) ((az_b_t ⟨c14, c31, az_halves d59 d87⟩).symm) dX1_covers_95 hlocks
set_option maxRecDepth 100000 in
set_option maxHeartbeats 4000000 in
/-- isBelow(a, b) -/
theorem ct_isBelow (l : Launch) (a b : Nat) (ha : a < 18446744073709551616) (hb2 : b < 18446744073709551616) : Met l yX1_isBelow wsX1_isBelow ({ frames := 0, cells := 0, slots := 0, locals := 0 }) (va_Pc [.long (lN a), .long (lN b)] (fun _ => True)) (vp_Si (fun r => r = az_b (a < b))) 0 0 (fun _ => False) := by
  refine Met.ofW (cc := cX1_isBelow) (maxL := 4) (ret := (some .boolean)) (by decide) rfl ?_
  intro p e s m args below meth c s₁ Bd hml hv
  obtain ⟨rfl, -⟩ := hv
  have hx := Bd.exec
  have hb := Bd.bytes
  have hr := Bd.returns
  have hts := atoms_spec (ws := wsX1_isBelow) Bd.pre
  have hown : s.vm.findClass RX1 = some m.cls := findClass_of_methodNamed Bd.named
  have hlocks := Bd.notSynchronized
  have hl := lv_entry ([.long (lN a), .long (lN b)]) (n := 4) (Nat.le_of_ble_eq_true rfl)
  rw [lg_entry_eq]
  generalize (lg_sl ([.long (lN a), .long (lN b)]) ++ List.replicate (4 - (lg_sl ([.long (lN a), .long (lN b)])).length) Slot.unset).toArray = ls at hl ⊢
  have hl : lv_has ls 4 [(0, .long (lN a)), (2, .long (lN b))] := hl
  refine lv_lload_n hx hb dX1_isBelow_0 rfl (lv_at hl 0 rfl) ?_
  refine lv_ldc2 (v := -9223372036854775808) hx hb hown (hts (.constantLong RX1 149 (-9223372036854775808)) (by decide +kernel)) dX1_isBelow_1 ?_
  refine lv_lxor hx hb dX1_isBelow_4 ?_
  refine lv_lload_n hx hb dX1_isBelow_5 rfl (lv_at hl 1 rfl) ?_
  refine lv_ldc2 (v := -9223372036854775808) hx hb hown (hts (.constantLong RX1 149 (-9223372036854775808)) (by decide +kernel)) dX1_isBelow_6 ?_
  refine lv_lxor hx hb dX1_isBelow_9 ?_
  refine W.lcmp hx hb dX1_isBelow_10 ?_
  refine lv_if_ge (tgt := 18) hx hb dX1_isBelow_11 (by decide) (fun c11 => ?_) (fun c11 => ?_)
  · have d11 : b ≤ a := (ultL ha hb2).mp (az_cmpge.mp c11)
    refine lv_iconst (v := nI 0) hx hb dX1_isBelow_18 (by decide) ?_
    exact rt_z hx hb hr (rfl) ((az_b_f (by omega)).symm) dX1_isBelow_19 hlocks
  · have d11 : ¬ b ≤ a := fun q => c11 (az_cmpge.mpr ((ultL ha hb2).mpr q))
    refine lv_iconst (v := nI 1) hx hb dX1_isBelow_14 (by decide) ?_
    refine lv_goto (tgt := 19) hx hb dX1_isBelow_15 (by decide) ?_
    exact rt_z hx hb hr (rfl) ((az_b_t (by omega)).symm) dX1_isBelow_19 hlocks
set_option maxRecDepth 100000 in
set_option maxHeartbeats 4000000 in
/-- order() -/
theorem ct_order (l : Launch) (dC : Nat → ClassId) (dI : Nat → Nat → Nat) (h0 ht hw a1 a2 a3 n w : Nat) (f1 l1 V1 f2 l2 V2 : Nat) (h1 : az_ad f1 l1 V1) (h2 : az_ad f2 l2 V2) : Met l yX1_order wsX1_order ({ frames := 1, cells := 0, slots := 0, locals := 23 }) (rd_P (dC, dI) azCl [(h0, .inr (1, [.ref ht, .int (nI n), .ref hw, .int (nI w), .ref a1, .ref a2, .ref a3])), (a1, .inr (0, [.int (nI f1), .int (nI l1), .long (lN (V1 / 18446744073709551616)), .long (lN (V1 % 18446744073709551616))])), (a2, .inr (0, [.int (nI f2), .int (nI l2), .long (lN (V2 / 18446744073709551616)), .long (lN (V2 % 18446744073709551616))]))] [] [.ref h0]) (vp_Si (fun r => r = az_ord f1 V1 l1 f2 V2 l2)) 0 0 (fun _ => False) := by
  refine Met.ofW (cc := cX1_order) (maxL := 1) (ret := (some .int)) (by decide) rfl ?_
  intro p e s m args below meth c s₁ Bd hml hv
  obtain ⟨rfl, hP, hK⟩ := hv
  have hx := Bd.exec
  have hb := Bd.bytes
  have hr := Bd.returns
  have hts := atoms_spec (ws := wsX1_order) Bd.pre
  have hown : s.vm.findClass RX1 = some m.cls := findClass_of_methodNamed Bd.named
  have hlocks := Bd.notSynchronized
  have hiX1 : ∀ w ∈ wsX10, w ∈ wsX1_order := by decide +kernel
  have hiX0 : ∀ w ∈ wsX00, w ∈ wsX1_order := by decide +kernel
  have hf26 := hts (.fieldLink RX1 26 "AddressTexts" "one" "LAddressTexts$Address;") (by decide +kernel)
  have hf44 := hts (.fieldLink RX1 44 "AddressTexts$Address" "family" "I") (by decide +kernel)
  have hf30 := hts (.fieldLink RX1 30 "AddressTexts" "two" "LAddressTexts$Address;") (by decide +kernel)
  have hf58 := hts (.fieldLink RX1 58 "AddressTexts$Address" "upper" "J") (by decide +kernel)
  have hf66 := hts (.fieldLink RX1 66 "AddressTexts$Address" "lower" "J") (by decide +kernel)
  have hf55 := hts (.fieldLink RX1 55 "AddressTexts$Address" "prefixLength" "I") (by decide +kernel)
  have hl := lv_entry ([.ref h0]) (n := 1) (Nat.le_of_ble_eq_true rfl)
  rw [lg_entry_eq]
  generalize (lg_sl ([.ref h0]) ++ List.replicate (1 - (lg_sl ([.ref h0])).length) Slot.unset).toArray = ls at hl ⊢
  have hl : lv_has ls 1 [(0, .ref h0)] := hl
  have hV := az_ad_V h1
  have hU := az_ad_V h2
  have hf1 := az_ad_6 h1
  have hf2 := az_ad_6 h2
  have hl1 := h1.2
  have hl2 := h2.2
  have hw1 := az_wl_le f1
  have hw2 := az_wl_le f2
  have hm1 := Nat.mod_lt V1 (show 0 < 18446744073709551616 by decide)
  have hm2 := Nat.mod_lt V2 (show 0 < 18446744073709551616 by decide)
  refine lv_aload_n hx hb dX1_order_0 rfl (lv_at hl 0 rfl) ?_
  refine va_get (D := (dC, dI)) (ci := 1) (v := .ref a1) (C := RX1) (T := TX1) (N := 7) hx hb hts hiX1 hown hK hP 0 rfl rfl 4 (by decide) hf26 (fun _ h9 => h9) rfl dX1_order_1 ?_
  refine va_get (D := (dC, dI)) (ci := 0) (v := .int (nI f1)) (C := RX0) (T := TX0) (N := 4) hx hb hts hiX0 hown hK hP 1 rfl rfl 0 (by decide) hf44 (fun _ h9 => h9) rfl dX1_order_4 ?_
  refine lv_aload_n hx hb dX1_order_7 rfl (lv_at hl 0 rfl) ?_
  refine va_get (D := (dC, dI)) (ci := 1) (v := .ref a2) (C := RX1) (T := TX1) (N := 7) hx hb hts hiX1 hown hK hP 0 rfl rfl 5 (by decide) hf30 (fun _ h9 => h9) rfl dX1_order_8 ?_
  refine va_get (D := (dC, dI)) (ci := 0) (v := .int (nI f2)) (C := RX0) (T := TX0) (N := 4) hx hb hts hiX0 hown hK hP 2 rfl rfl 0 (by decide) hf44 (fun _ h9 => h9) rfl dX1_order_11 ?_
  refine bn_eq (tgt := 34) hx hb dX1_order_14 (by decide) (by omega) (by omega) (fun c14 => ?_) (fun c14 => ?_)
  · refine lv_aload_n hx hb dX1_order_34 rfl (lv_at hl 0 rfl) ?_
    refine va_get (D := (dC, dI)) (ci := 1) (v := .ref a1) (C := RX1) (T := TX1) (N := 7) hx hb hts hiX1 hown hK hP 0 rfl rfl 4 (by decide) hf26 (fun _ h9 => h9) rfl dX1_order_35 ?_
    refine va_get (D := (dC, dI)) (ci := 0) (v := .long (lN (V1 / 18446744073709551616))) (C := RX0) (T := TX0) (N := 4) hx hb hts hiX0 hown hK hP 1 rfl rfl 2 (by decide) hf58 (fun _ h9 => h9) rfl dX1_order_38 ?_
    refine lv_aload_n hx hb dX1_order_41 rfl (lv_at hl 0 rfl) ?_
    refine va_get (D := (dC, dI)) (ci := 1) (v := .ref a2) (C := RX1) (T := TX1) (N := 7) hx hb hts hiX1 hown hK hP 0 rfl rfl 5 (by decide) hf30 (fun _ h9 => h9) rfl dX1_order_42 ?_
    refine va_get (D := (dC, dI)) (ci := 0) (v := .long (lN (V2 / 18446744073709551616))) (C := RX0) (T := TX0) (N := 4) hx hb hts hiX0 hown hK hP 2 rfl rfl 2 (by decide) hf58 (fun _ h9 => h9) rfl dX1_order_45 ?_
    refine W.lcmp hx hb dX1_order_48 ?_
    refine lv_if_eq (tgt := 78) hx hb dX1_order_49 (by decide) (fun c49 => ?_) (fun c49 => ?_)
    · have d49 : V1 / 18446744073709551616 = V2 / 18446744073709551616 := (az_lN_eq (by omega) (by omega)).mp (az_cmp0.mp c49)
      refine lv_aload_n hx hb dX1_order_78 rfl (lv_at hl 0 rfl) ?_
      refine va_get (D := (dC, dI)) (ci := 1) (v := .ref a1) (C := RX1) (T := TX1) (N := 7) hx hb hts hiX1 hown hK hP 0 rfl rfl 4 (by decide) hf26 (fun _ h9 => h9) rfl dX1_order_79 ?_
      refine va_get (D := (dC, dI)) (ci := 0) (v := .long (lN (V1 % 18446744073709551616))) (C := RX0) (T := TX0) (N := 4) hx hb hts hiX0 hown hK hP 1 rfl rfl 3 (by decide) hf66 (fun _ h9 => h9) rfl dX1_order_82 ?_
      refine lv_aload_n hx hb dX1_order_85 rfl (lv_at hl 0 rfl) ?_
      refine va_get (D := (dC, dI)) (ci := 1) (v := .ref a2) (C := RX1) (T := TX1) (N := 7) hx hb hts hiX1 hown hK hP 0 rfl rfl 5 (by decide) hf30 (fun _ h9 => h9) rfl dX1_order_86 ?_
      refine va_get (D := (dC, dI)) (ci := 0) (v := .long (lN (V2 % 18446744073709551616))) (C := RX0) (T := TX0) (N := 4) hx hb hts hiX0 hown hK hP 2 rfl rfl 3 (by decide) hf66 (fun _ h9 => h9) rfl dX1_order_89 ?_
      refine W.lcmp hx hb dX1_order_92 ?_
      refine lv_if_eq (tgt := 122) hx hb dX1_order_93 (by decide) (fun c93 => ?_) (fun c93 => ?_)
      · have d93 : V1 % 18446744073709551616 = V2 % 18446744073709551616 := (az_lN_eq hm1 hm2).mp (az_cmp0.mp c93)
        refine lv_aload_n hx hb dX1_order_122 rfl (lv_at hl 0 rfl) ?_
        refine va_get (D := (dC, dI)) (ci := 1) (v := .ref a1) (C := RX1) (T := TX1) (N := 7) hx hb hts hiX1 hown hK hP 0 rfl rfl 4 (by decide) hf26 (fun _ h9 => h9) rfl dX1_order_123 ?_
        refine va_get (D := (dC, dI)) (ci := 0) (v := .int (nI l1)) (C := RX0) (T := TX0) (N := 4) hx hb hts hiX0 hown hK hP 1 rfl rfl 1 (by decide) hf55 (fun _ h9 => h9) rfl dX1_order_126 ?_
        refine lv_aload_n hx hb dX1_order_129 rfl (lv_at hl 0 rfl) ?_
        refine va_get (D := (dC, dI)) (ci := 1) (v := .ref a2) (C := RX1) (T := TX1) (N := 7) hx hb hts hiX1 hown hK hP 0 rfl rfl 5 (by decide) hf30 (fun _ h9 => h9) rfl dX1_order_130 ?_
        refine va_get (D := (dC, dI)) (ci := 0) (v := .int (nI l2)) (C := RX0) (T := TX0) (N := 4) hx hb hts hiX0 hown hK hP 2 rfl rfl 1 (by decide) hf55 (fun _ h9 => h9) rfl dX1_order_133 ?_
        refine bn_eq (tgt := 162) hx hb dX1_order_136 (by decide) (by omega) (by omega) (fun c136 => ?_) (fun c136 => ?_)
        · refine lv_iconst (v := nI 0) hx hb dX1_order_162 (by decide) ?_
          exact rt_i hx hb hr (by unfold az_ord; rw [if_neg (fun q => q c14), if_neg (fun q => q (az_halves d49 d93)), if_neg (fun q => q c136)]) dX1_order_163 hlocks
        · refine lv_aload_n hx hb dX1_order_139 rfl (lv_at hl 0 rfl) ?_
          refine va_get (D := (dC, dI)) (ci := 1) (v := .ref a1) (C := RX1) (T := TX1) (N := 7) hx hb hts hiX1 hown hK hP 0 rfl rfl 4 (by decide) hf26 (fun _ h9 => h9) rfl dX1_order_140 ?_
          refine va_get (D := (dC, dI)) (ci := 0) (v := .int (nI l1)) (C := RX0) (T := TX0) (N := 4) hx hb hts hiX0 hown hK hP 1 rfl rfl 1 (by decide) hf55 (fun _ h9 => h9) rfl dX1_order_143 ?_
          refine lv_aload_n hx hb dX1_order_146 rfl (lv_at hl 0 rfl) ?_
          refine va_get (D := (dC, dI)) (ci := 1) (v := .ref a2) (C := RX1) (T := TX1) (N := 7) hx hb hts hiX1 hown hK hP 0 rfl rfl 5 (by decide) hf30 (fun _ h9 => h9) rfl dX1_order_147 ?_
          refine va_get (D := (dC, dI)) (ci := 0) (v := .int (nI l2)) (C := RX0) (T := TX0) (N := 4) hx hb hts hiX0 hown hK hP 2 rfl rfl 1 (by decide) hf55 (fun _ h9 => h9) rfl dX1_order_150 ?_
          refine bn_ge (tgt := 160) hx hb dX1_order_153 (by decide) (by omega) (by omega) (fun c153 => ?_) (fun c153 => ?_)
          · refine lv_iconst (v := nI 1) hx hb dX1_order_160 (by decide) ?_
            exact rt_i hx hb hr (by unfold az_ord; rw [if_neg (fun q => q c14), if_neg (fun q => q (az_halves d49 d93)), if_pos c136]; first | rw [if_pos c153] | rw [if_neg (Nat.not_lt.mpr c153)]) dX1_order_161 hlocks
          · refine lv_iconst (v := -1) hx hb dX1_order_156 (by decide) ?_
            refine lv_goto (tgt := 161) hx hb dX1_order_157 (by decide) ?_
            exact rt_i hx hb hr (by unfold az_ord; rw [if_neg (fun q => q c14), if_neg (fun q => q (az_halves d49 d93)), if_pos c136]; first | rw [if_pos c153] | rw [if_neg (Nat.not_lt.mpr c153)]) dX1_order_161 hlocks
      · have d93 : ¬ V1 % 18446744073709551616 = V2 % 18446744073709551616 := fun q => c93 (az_cmp0.mpr (by rw [q]))
        refine lv_aload_n hx hb dX1_order_96 rfl (lv_at hl 0 rfl) ?_
        refine va_get (D := (dC, dI)) (ci := 1) (v := .ref a1) (C := RX1) (T := TX1) (N := 7) hx hb hts hiX1 hown hK hP 0 rfl rfl 4 (by decide) hf26 (fun _ h9 => h9) rfl dX1_order_97 ?_
        refine va_get (D := (dC, dI)) (ci := 0) (v := .long (lN (V1 % 18446744073709551616))) (C := RX0) (T := TX0) (N := 4) hx hb hts hiX0 hown hK hP 1 rfl rfl 3 (by decide) hf66 (fun _ h9 => h9) rfl dX1_order_100 ?_
        refine lv_aload_n hx hb dX1_order_103 rfl (lv_at hl 0 rfl) ?_
        refine va_get (D := (dC, dI)) (ci := 1) (v := .ref a2) (C := RX1) (T := TX1) (N := 7) hx hb hts hiX1 hown hK hP 0 rfl rfl 5 (by decide) hf30 (fun _ h9 => h9) rfl dX1_order_104 ?_
        refine va_get (D := (dC, dI)) (ci := 0) (v := .long (lN (V2 % 18446744073709551616))) (C := RX0) (T := TX0) (N := 4) hx hb hts hiX0 hown hK hP 2 rfl rfl 3 (by decide) hf66 (fun _ h9 => h9) rfl dX1_order_107 ?_
        refine rc_Si (As := [.long (lN (V1 % 18446744073709551616)), .long (lN (V2 % 18446744073709551616))]) (rest := []) ⟨hx, hb, hml, hown, hts⟩ (ct_isBelow l (V1 % 18446744073709551616) (V2 % 18446744073709551616) hm1 hm2) (cwS 2 hts gX1_order_X1_isBelow rfl rfl rfl (by decide +kernel) ⟨Nat.le_of_ble_eq_true rfl, Nat.le_of_ble_eq_true rfl⟩) rfl hl.1 rfl (Nat.le_of_ble_eq_true rfl) dX1_order_110 ⟨(Nat.zero_le _), (Nat.zero_le _)⟩ ?_
        by_cases hlt : V1 % 18446744073709551616 < V2 % 18446744073709551616
        · refine tp_i (nI 1) (az_b_t hlt) ?_
          refine lv_if_eq (tgt := 120) hx hb dX1_order_113 (by decide) (fun c => absurd c (by decide)) (fun _ => ?_)
          refine lv_iconst (v := -1) hx hb dX1_order_116 (by decide) ?_
          refine lv_goto (tgt := 121) hx hb dX1_order_117 (by decide) ?_
          exact rt_i hx hb hr (by unfold az_ord; rw [if_neg (fun q => q c14), if_pos (show V1 ≠ V2 from fun q => d93 (by rw [q]))]; first | rw [if_pos ((az_vlt2 d49).mpr hlt)] | rw [if_neg (fun q => hlt ((az_vlt2 d49).mp q))]) dX1_order_121 hlocks
        · refine tp_i (nI 0) (az_b_f hlt) ?_
          refine lv_if_eq (tgt := 120) hx hb dX1_order_113 (by decide) (fun _ => ?_) (fun c => absurd c (by decide))
          refine lv_iconst (v := nI 1) hx hb dX1_order_120 (by decide) ?_
          exact rt_i hx hb hr (by unfold az_ord; rw [if_neg (fun q => q c14), if_pos (show V1 ≠ V2 from fun q => d93 (by rw [q]))]; first | rw [if_pos ((az_vlt2 d49).mpr hlt)] | rw [if_neg (fun q => hlt ((az_vlt2 d49).mp q))]) dX1_order_121 hlocks
    · have d49 : ¬ V1 / 18446744073709551616 = V2 / 18446744073709551616 := fun q => c49 (az_cmp0.mpr (by rw [q]))
      refine lv_aload_n hx hb dX1_order_52 rfl (lv_at hl 0 rfl) ?_
      refine va_get (D := (dC, dI)) (ci := 1) (v := .ref a1) (C := RX1) (T := TX1) (N := 7) hx hb hts hiX1 hown hK hP 0 rfl rfl 4 (by decide) hf26 (fun _ h9 => h9) rfl dX1_order_53 ?_
      refine va_get (D := (dC, dI)) (ci := 0) (v := .long (lN (V1 / 18446744073709551616))) (C := RX0) (T := TX0) (N := 4) hx hb hts hiX0 hown hK hP 1 rfl rfl 2 (by decide) hf58 (fun _ h9 => h9) rfl dX1_order_56 ?_
      refine lv_aload_n hx hb dX1_order_59 rfl (lv_at hl 0 rfl) ?_
      refine va_get (D := (dC, dI)) (ci := 1) (v := .ref a2) (C := RX1) (T := TX1) (N := 7) hx hb hts hiX1 hown hK hP 0 rfl rfl 5 (by decide) hf30 (fun _ h9 => h9) rfl dX1_order_60 ?_
      refine va_get (D := (dC, dI)) (ci := 0) (v := .long (lN (V2 / 18446744073709551616))) (C := RX0) (T := TX0) (N := 4) hx hb hts hiX0 hown hK hP 2 rfl rfl 2 (by decide) hf58 (fun _ h9 => h9) rfl dX1_order_63 ?_
      refine rc_Si (As := [.long (lN (V1 / 18446744073709551616)), .long (lN (V2 / 18446744073709551616))]) (rest := []) ⟨hx, hb, hml, hown, hts⟩ (ct_isBelow l (V1 / 18446744073709551616) (V2 / 18446744073709551616) (by omega) (by omega)) (cwS 2 hts gX1_order_X1_isBelow rfl rfl rfl (by decide +kernel) ⟨Nat.le_of_ble_eq_true rfl, Nat.le_of_ble_eq_true rfl⟩) rfl hl.1 rfl (Nat.le_of_ble_eq_true rfl) dX1_order_66 ⟨(Nat.zero_le _), (Nat.zero_le _)⟩ ?_
      by_cases hlt : V1 / 18446744073709551616 < V2 / 18446744073709551616
      · refine tp_i (nI 1) (az_b_t hlt) ?_
        refine lv_if_eq (tgt := 76) hx hb dX1_order_69 (by decide) (fun c => absurd c (by decide)) (fun _ => ?_)
        refine lv_iconst (v := -1) hx hb dX1_order_72 (by decide) ?_
        refine lv_goto (tgt := 77) hx hb dX1_order_73 (by decide) ?_
        exact rt_i hx hb hr (by unfold az_ord; rw [if_neg (fun q => q c14), if_pos (show V1 ≠ V2 from fun q => d49 (by rw [q]))]; first | rw [if_pos ((az_vlt d49).mpr hlt)] | rw [if_neg (fun q => hlt ((az_vlt d49).mp q))]) dX1_order_77 hlocks
      · refine tp_i (nI 0) (az_b_f hlt) ?_
        refine lv_if_eq (tgt := 76) hx hb dX1_order_69 (by decide) (fun _ => ?_) (fun c => absurd c (by decide))
        refine lv_iconst (v := nI 1) hx hb dX1_order_76 (by decide) ?_
        exact rt_i hx hb hr (by unfold az_ord; rw [if_neg (fun q => q c14), if_pos (show V1 ≠ V2 from fun q => d49 (by rw [q]))]; first | rw [if_pos ((az_vlt d49).mpr hlt)] | rw [if_neg (fun q => hlt ((az_vlt d49).mp q))]) dX1_order_77 hlocks
  · refine lv_aload_n hx hb dX1_order_17 rfl (lv_at hl 0 rfl) ?_
    refine va_get (D := (dC, dI)) (ci := 1) (v := .ref a1) (C := RX1) (T := TX1) (N := 7) hx hb hts hiX1 hown hK hP 0 rfl rfl 4 (by decide) hf26 (fun _ h9 => h9) rfl dX1_order_18 ?_
    refine va_get (D := (dC, dI)) (ci := 0) (v := .int (nI f1)) (C := RX0) (T := TX0) (N := 4) hx hb hts hiX0 hown hK hP 1 rfl rfl 0 (by decide) hf44 (fun _ h9 => h9) rfl dX1_order_21 ?_
    refine lv_iconst (v := nI 4) hx hb dX1_order_24 (by decide) ?_
    refine bn_ne (tgt := 32) hx hb dX1_order_25 (by decide) (by omega) (by omega) (fun c25 => ?_) (fun c25 => ?_)
    · refine lv_iconst (v := nI 1) hx hb dX1_order_32 (by decide) ?_
      exact rt_i hx hb hr (by unfold az_ord; rw [if_pos c14]; first | rw [if_pos c25] | rw [if_neg c25]) dX1_order_33 hlocks
    · refine lv_iconst (v := -1) hx hb dX1_order_28 (by decide) ?_
      refine lv_goto (tgt := 33) hx hb dX1_order_29 (by decide) ?_
      exact rt_i hx hb hr (by unfold az_ord; rw [if_pos c14]; first | rw [if_pos c25] | rw [if_neg c25]) dX1_order_33 hlocks
set_option maxRecDepth 100000 in
set_option maxHeartbeats 4000000 in
/-- length() -/
theorem ct_length (l : Launch) (dC : Nat → ClassId) (dI : Nat → Nat → Nat) (sz : Nat) (h0 ht hw a1 a2 a3 n w : Nat) (cT : ClassId) (f : Nat → Int32) (T : Nat → Nat) (hT : az_tp f T n) (hn : n ≤ 60) (f1 l1 V1 : Nat) (h1 : az_ad f1 l1 V1) : Met l yX1_length wsX1_length ({ frames := 3, cells := 0, slots := 0, locals := 70 }) (wr_P (dC, dI) azCl [(h0, .inr (1, [.ref ht, .int (nI n), .ref hw, .int (nI w), .ref a1, .ref a2, .ref a3])), (ht, .inl (cT, 60, .inl f)), (a1, .inr (0, [.int (nI f1), .int (nI l1), .long (lN (V1 / 18446744073709551616)), .long (lN (V1 % 18446744073709551616))]))] [(cT, .byte)] sz [.ref h0]) (va_Qi (fun r u => (az_dc T 0 n (az_wl f1) = none ∧ r = -1 ∧ u = l1) ∨ (az_dc T 0 n (az_wl f1) = some u ∧ r = nI u ∧ u ≤ az_wl f1)) (wr_B (dC, dI) azCl [(cT, .byte)] (va_A [(h0, .inr (1, [.ref ht, .int (nI n), .ref hw, .int (nI w), .ref a1, .ref a2, .ref a3])), (ht, .inl (cT, 60, .inl f)), (a1, .inr (0, [.int (nI f1), .int (nI l1), .long (lN (V1 / 18446744073709551616)), .long (lN (V1 % 18446744073709551616))]))] sz) (fun u : Nat => [(h0, .inr (1, [.ref ht, .int (nI 0), .ref hw, .int (nI w), .ref a1, .ref a2, .ref a3])), (ht, .inl (cT, 60, .inl f)), (a1, .inr (0, [.int (nI f1), .int (nI u), .long (lN (V1 / 18446744073709551616)), .long (lN (V1 % 18446744073709551616))]))])) (va_A [(h0, .inr (1, [.ref ht, .int (nI n), .ref hw, .int (nI w), .ref a1, .ref a2, .ref a3])), (ht, .inl (cT, 60, .inl f)), (a1, .inr (0, [.int (nI f1), .int (nI l1), .long (lN (V1 / 18446744073709551616)), .long (lN (V1 % 18446744073709551616))]))] sz)) 0 0 (va_A [(h0, .inr (1, [.ref ht, .int (nI n), .ref hw, .int (nI w), .ref a1, .ref a2, .ref a3])), (ht, .inl (cT, 60, .inl f)), (a1, .inr (0, [.int (nI f1), .int (nI l1), .long (lN (V1 / 18446744073709551616)), .long (lN (V1 % 18446744073709551616))]))] sz) := by
  refine Met.ofW (cc := cX1_length) (maxL := 2) (ret := (some .int)) (by decide) rfl ?_
  intro p e s m args below meth c s₁ Bd hml hv
  obtain ⟨rfl, hsz, hP, hK, hD0⟩ := hv
  have hx := Bd.exec
  have hb := Bd.bytes
  have hr := Bd.returns
  have hts := atoms_spec (ws := wsX1_length) Bd.pre
  have hown : s.vm.findClass RX1 = some m.cls := findClass_of_methodNamed Bd.named
  have hlocks := Bd.notSynchronized
  subst hsz
  have hD := hD0.self (sz := s.heap.size)
  generalize hAe : va_A [(h0, .inr (1, [.ref ht, .int (nI n), .ref hw, .int (nI w), .ref a1, .ref a2, .ref a3])), (ht, .inl (cT, 60, .inl f)), (a1, .inr (0, [.int (nI f1), .int (nI l1), .long (lN (V1 / 18446744073709551616)), .long (lN (V1 % 18446744073709551616))]))] s.heap.size = A at hD ⊢
  have hA : ∀ q : Nat, s.heap.size ≤ q → A q := fun q h => by rw [← hAe]; exact Or.inr h
  have hS : va_S A s.heap s.heap [] := va_S.rf
  have hP : va_P (dC, dI) azCl [(h0, .inr (1, [.ref ht, .int (nI n), .ref hw, .int (nI w), .ref a1, .ref a2, .ref a3])), (ht, .inl (cT, 60, .inl f)), (a1, .inr (0, [.int (nI f1), .int (nI l1), .long (lN (V1 / 18446744073709551616)), .long (lN (V1 % 18446744073709551616))]))] s.heap := hP
  have hiX1 : ∀ w ∈ wsX10, w ∈ wsX1_length := by decide +kernel
  have hiX0 : ∀ w ∈ wsX00, w ∈ wsX1_length := by decide +kernel
  have hf13 := hts (.fieldLink RX1 13 "AddressTexts" "tapeCount" "I") (by decide +kernel)
  have hf26 := hts (.fieldLink RX1 26 "AddressTexts" "one" "LAddressTexts$Address;") (by decide +kernel)
  have hf55 := hts (.fieldLink RX1 55 "AddressTexts$Address" "prefixLength" "I") (by decide +kernel)
  have hl := lv_entry ([.ref h0]) (n := 2) (Nat.le_of_ble_eq_true rfl)
  rw [lg_entry_eq]
  generalize (lg_sl ([.ref h0]) ++ List.replicate (2 - (lg_sl ([.ref h0])).length) Slot.unset).toArray = ls at hl ⊢
  have hl : lv_has ls 2 [(0, .ref h0)] := hl
  have hwl := az_wl_le f1
  refine lv_aload_n hx hb dX1_length_0 rfl (lv_at hl 0 rfl) ?_
  refine lv_iconst (v := nI 0) hx hb dX1_length_1 (by decide) ?_
  refine lv_aload_n hx hb dX1_length_2 rfl (lv_at hl 0 rfl) ?_
  refine va_get (D := (dC, dI)) (ci := 1) (v := .int (nI n)) (C := RX1) (T := TX1) (N := 7) hx hb hts hiX1 hown hK hP 0 rfl rfl 1 (by decide) hf13 (fun _ h9 => h9) rfl dX1_length_3 ?_
  refine lv_aload_n hx hb dX1_length_6 rfl (lv_at hl 0 rfl) ?_
  refine va_get (D := (dC, dI)) (ci := 1) (v := .ref a1) (C := RX1) (T := TX1) (N := 7) hx hb hts hiX1 hown hK hP 0 rfl rfl 4 (by decide) hf26 (fun _ h9 => h9) rfl dX1_length_7 ?_
  refine rc_Vi (As := []) (rest := [.int (nI n), .int (nI 0), .ref h0]) ⟨hx, hb, hml, hown, hts⟩ (ct_wholeLength l dC dI a1 f1 (nI l1) (lN (V1 / 18446744073709551616)) (lN (V1 % 18446744073709551616)) (az_ad_6 h1)) (cwV 0 hts gX1_length_X0_wholeLength rfl rfl rfl (by decide +kernel) ⟨Nat.le_of_ble_eq_true rfl, Nat.le_of_ble_eq_true rfl⟩) (hP.sub [2] rfl) (hK.sub [] rfl) 0 rfl rfl rfl hl.1 rfl (Nat.le_of_ble_eq_true rfl) dX1_length_10 ⟨(Nat.zero_le _), (Nat.zero_le _)⟩ ?_
  refine rc_Vi (As := [.int (nI 0), .int (nI n), .int (nI (az_wl f1))]) (rest := []) ⟨hx, hb, hml, hown, hts⟩ (ct_decimalIn l dC dI h0 ht hw a1 a2 a3 n w cT f T hT hn 0 n (az_wl f1) (by omega) (Nat.le_refl _) (fun q => q) (by omega)) (cwV 3 hts gX1_length_X1_decimalIn rfl rfl rfl (by decide +kernel) ⟨Nat.le_of_ble_eq_true rfl, Nat.le_of_ble_eq_true rfl⟩) (hP.sub [0, 1] rfl) (hK.sub [0] rfl) 0 rfl rfl rfl hl.1 rfl (Nat.le_of_ble_eq_true rfl) dX1_length_13 ⟨(Nat.zero_le _), (Nat.zero_le _)⟩ ?_
  rcases hd : az_dc T 0 n (az_wl f1) with _ | d
  · refine tp_i (-1) (rfl) ?_
    refine lv_istore_n (lv' := [(1, .int (-1)), (0, .ref h0)]) hx hb dX1_length_16 rfl hl (by decide) rfl (fun ls hl => ?_)
    refine lv_aload_n hx hb dX1_length_17 rfl (lv_at hl 1 rfl) ?_
    refine lv_iconst (v := nI 0) hx hb dX1_length_18 (by decide) ?_
    refine va_put (D := (dC, dI)) (ci := 1) (v := .int (nI 0)) (ty := .int) (C := RX1) (T := TX1) (N := 7) hx hb hts hiX1 tyX1 tyX1_ok nmX1 hown hK hP hD hS 0 rfl rfl 1 (by decide) hf13 (fun _ h9 => h9) rfl (by decide +kernel) rfl rfl (Nat.le_of_ble_eq_true rfl) dX1_length_19 (fun H locs hP hD hS => ?_)
    have hP : va_P (dC, dI) azCl [(h0, .inr (1, [.ref ht, .int (nI 0), .ref hw, .int (nI w), .ref a1, .ref a2, .ref a3])), (ht, .inl (cT, 60, .inl f)), (a1, .inr (0, [.int (nI f1), .int (nI l1), .long (lN (V1 / 18446744073709551616)), .long (lN (V1 % 18446744073709551616))]))] H := hP
    have hD : va_D A [(h0, .inr (1, [.ref ht, .int (nI 0), .ref hw, .int (nI w), .ref a1, .ref a2, .ref a3])), (ht, .inl (cT, 60, .inl f)), (a1, .inr (0, [.int (nI f1), .int (nI l1), .long (lN (V1 / 18446744073709551616)), .long (lN (V1 % 18446744073709551616))]))] := hD
    refine lv_iload_n hx hb dX1_length_22 rfl (lv_at hl 0 rfl) ?_
    refine lv_iconst (v := -1) hx hb dX1_length_23 (by decide) ?_
    refine lv_icmp_eq (tgt := 35) hx hb dX1_length_24 (by decide) (fun _ => ?_) (fun c => absurd c (by decide))
    refine lv_iload_n hx hb dX1_length_35 rfl (lv_at hl 0 rfl) ?_
    exact wt_i hx hb hr (l1) (Or.inl ⟨by first | rfl | exact hd, rfl, rfl⟩) (hP.sub [0, 1, 2] rfl) hK (hD.sub [0, 1, 2] (by decide) rfl) hS dX1_length_36 hlocks
  · have hdl := az_dc_le hd
    refine tp_i (nI d) (rfl) ?_
    refine lv_istore_n (lv' := [(1, .int (nI d)), (0, .ref h0)]) hx hb dX1_length_16 rfl hl (by decide) rfl (fun ls hl => ?_)
    refine lv_aload_n hx hb dX1_length_17 rfl (lv_at hl 1 rfl) ?_
    refine lv_iconst (v := nI 0) hx hb dX1_length_18 (by decide) ?_
    refine va_put (D := (dC, dI)) (ci := 1) (v := .int (nI 0)) (ty := .int) (C := RX1) (T := TX1) (N := 7) hx hb hts hiX1 tyX1 tyX1_ok nmX1 hown hK hP hD hS 0 rfl rfl 1 (by decide) hf13 (fun _ h9 => h9) rfl (by decide +kernel) rfl rfl (Nat.le_of_ble_eq_true rfl) dX1_length_19 (fun H locs hP hD hS => ?_)
    have hP : va_P (dC, dI) azCl [(h0, .inr (1, [.ref ht, .int (nI 0), .ref hw, .int (nI w), .ref a1, .ref a2, .ref a3])), (ht, .inl (cT, 60, .inl f)), (a1, .inr (0, [.int (nI f1), .int (nI l1), .long (lN (V1 / 18446744073709551616)), .long (lN (V1 % 18446744073709551616))]))] H := hP
    have hD : va_D A [(h0, .inr (1, [.ref ht, .int (nI 0), .ref hw, .int (nI w), .ref a1, .ref a2, .ref a3])), (ht, .inl (cT, 60, .inl f)), (a1, .inr (0, [.int (nI f1), .int (nI l1), .long (lN (V1 / 18446744073709551616)), .long (lN (V1 % 18446744073709551616))]))] := hD
    refine lv_iload_n hx hb dX1_length_22 rfl (lv_at hl 0 rfl) ?_
    refine lv_iconst (v := -1) hx hb dX1_length_23 (by decide) ?_
    refine lv_icmp_eq (tgt := 35) hx hb dX1_length_24 (by decide) (fun c => absurd c (nI_m1 (by omega))) (fun _ => ?_)
    refine lv_aload_n hx hb dX1_length_27 rfl (lv_at hl 1 rfl) ?_
    refine va_get (D := (dC, dI)) (ci := 1) (v := .ref a1) (C := RX1) (T := TX1) (N := 7) hx hb hts hiX1 hown hK hP 0 rfl rfl 4 (by decide) hf26 (fun _ h9 => h9) rfl dX1_length_28 ?_
    refine lv_iload_n hx hb dX1_length_31 rfl (lv_at hl 0 rfl) ?_
    refine va_put (D := (dC, dI)) (ci := 0) (v := .int (nI d)) (ty := .int) (C := RX0) (T := TX0) (N := 4) hx hb hts hiX0 tyX0 tyX0_ok nmX0 hown hK hP hD hS 2 rfl rfl 1 (by decide) hf55 (fun _ h9 => h9) rfl (by decide +kernel) rfl rfl (Nat.le_of_ble_eq_true rfl) dX1_length_32 (fun H locs hP hD hS => ?_)
    have hP : va_P (dC, dI) azCl [(h0, .inr (1, [.ref ht, .int (nI 0), .ref hw, .int (nI w), .ref a1, .ref a2, .ref a3])), (ht, .inl (cT, 60, .inl f)), (a1, .inr (0, [.int (nI f1), .int (nI d), .long (lN (V1 / 18446744073709551616)), .long (lN (V1 % 18446744073709551616))]))] H := hP
    have hD : va_D A [(h0, .inr (1, [.ref ht, .int (nI 0), .ref hw, .int (nI w), .ref a1, .ref a2, .ref a3])), (ht, .inl (cT, 60, .inl f)), (a1, .inr (0, [.int (nI f1), .int (nI d), .long (lN (V1 / 18446744073709551616)), .long (lN (V1 % 18446744073709551616))]))] := hD
    refine lv_iload_n hx hb dX1_length_35 rfl (lv_at hl 0 rfl) ?_
    exact wt_i hx hb hr (d) (Or.inr ⟨by first | rfl | exact hd, rfl, hdl⟩) (hP.sub [0, 1, 2] rfl) hK (hD.sub [0, 1, 2] (by decide) rfl) hS dX1_length_36 hlocks
set_option maxRecDepth 100000 in
set_option maxHeartbeats 4000000 in
/-- read() -/
theorem ct_read (l : Launch) (dC : Nat → ClassId) (dI : Nat → Nat → Nat) (sz : Nat) (h0 ht hw a1 a2 a3 n w : Nat) (cT : ClassId) (f : Nat → Int32) (T : Nat → Nat) (hT : az_tp f T n) (hn : n ≤ 60) (e1 e2 : Int32) (e3 e4 : Int64) : Met l yX1_read wsX1_read ({ frames := 6, cells := 0, slots := 0, locals := 140 }) (wr_P (dC, dI) azCl [(h0, .inr (1, [.ref ht, .int (nI n), .ref hw, .int (nI w), .ref a1, .ref a2, .ref a3])), (ht, .inl (cT, 60, .inl f)), (a3, .inr (0, [.int e1, .int e2, .long e3, .long e4]))] [(cT, .byte)] sz [.ref h0]) (va_Qi (fun r u => az_ok (u.2.2.2.1, u.2.2.2.2) ∧ ((az_text T n = none ∧ r = -1 ∧ u.1 = a1 ∧ u.2.1 = a2 ∧ u.2.2.1 = a3) ∨ (az_text T n = some (u.2.2.2.1, u.2.2.2.2) ∧ r = nI u.2.2.2.1 ∧ u.1 = a3 ∧ u.2.1 = a1 ∧ u.2.2.1 = a2))) (wr_B (dC, dI) azCl [(cT, .byte)] (va_A [(h0, .inr (1, [.ref ht, .int (nI n), .ref hw, .int (nI w), .ref a1, .ref a2, .ref a3])), (ht, .inl (cT, 60, .inl f)), (a3, .inr (0, [.int e1, .int e2, .long e3, .long e4]))] sz) (fun u : Nat × Nat × Nat × Nat × Nat => [(h0, .inr (1, [.ref ht, .int (nI 0), .ref hw, .int (nI w), .ref u.1, .ref u.2.1, .ref u.2.2.1])), (ht, .inl (cT, 60, .inl f)), (a3, .inr (0, [.int (nI u.2.2.2.1), .int (nI (az_wl u.2.2.2.1)), .long (lN (u.2.2.2.2 / 18446744073709551616)), .long (lN (u.2.2.2.2 % 18446744073709551616))]))])) (va_A [(h0, .inr (1, [.ref ht, .int (nI n), .ref hw, .int (nI w), .ref a1, .ref a2, .ref a3])), (ht, .inl (cT, 60, .inl f)), (a3, .inr (0, [.int e1, .int e2, .long e3, .long e4]))] sz)) 0 0 (va_A [(h0, .inr (1, [.ref ht, .int (nI n), .ref hw, .int (nI w), .ref a1, .ref a2, .ref a3])), (ht, .inl (cT, 60, .inl f)), (a3, .inr (0, [.int e1, .int e2, .long e3, .long e4]))] sz) := by
  refine Met.ofW (cc := cX1_read) (maxL := 3) (ret := (some .int)) (by decide) rfl ?_
  intro p e s m args below meth c s₁ Bd hml hv
  obtain ⟨rfl, hsz, hP, hK, hD0⟩ := hv
  have hx := Bd.exec
  have hb := Bd.bytes
  have hr := Bd.returns
  have hts := atoms_spec (ws := wsX1_read) Bd.pre
  have hown : s.vm.findClass RX1 = some m.cls := findClass_of_methodNamed Bd.named
  have hlocks := Bd.notSynchronized
  subst hsz
  have hD := hD0.self (sz := s.heap.size)
  generalize hAe : va_A [(h0, .inr (1, [.ref ht, .int (nI n), .ref hw, .int (nI w), .ref a1, .ref a2, .ref a3])), (ht, .inl (cT, 60, .inl f)), (a3, .inr (0, [.int e1, .int e2, .long e3, .long e4]))] s.heap.size = A at hD ⊢
  have hA : ∀ q : Nat, s.heap.size ≤ q → A q := fun q h => by rw [← hAe]; exact Or.inr h
  have hS : va_S A s.heap s.heap [] := va_S.rf
  have hP : va_P (dC, dI) azCl [(h0, .inr (1, [.ref ht, .int (nI n), .ref hw, .int (nI w), .ref a1, .ref a2, .ref a3])), (ht, .inl (cT, 60, .inl f)), (a3, .inr (0, [.int e1, .int e2, .long e3, .long e4]))] s.heap := hP
  have hiX1 : ∀ w ∈ wsX10, w ∈ wsX1_read := by decide +kernel
  have hiX0 : ∀ w ∈ wsX00, w ∈ wsX1_read := by decide +kernel
  have hf13 := hts (.fieldLink RX1 13 "AddressTexts" "tapeCount" "I") (by decide +kernel)
  have hf30 := hts (.fieldLink RX1 30 "AddressTexts" "two" "LAddressTexts$Address;") (by decide +kernel)
  have hf26 := hts (.fieldLink RX1 26 "AddressTexts" "one" "LAddressTexts$Address;") (by decide +kernel)
  have hf33 := hts (.fieldLink RX1 33 "AddressTexts" "spare" "LAddressTexts$Address;") (by decide +kernel)
  have hf44 := hts (.fieldLink RX1 44 "AddressTexts$Address" "family" "I") (by decide +kernel)
  have hl := lv_entry ([.ref h0]) (n := 3) (Nat.le_of_ble_eq_true rfl)
  rw [lg_entry_eq]
  generalize (lg_sl ([.ref h0]) ++ List.replicate (3 - (lg_sl ([.ref h0])).length) Slot.unset).toArray = ls at hl ⊢
  have hl : lv_has ls 3 [(0, .ref h0)] := hl
  refine lv_aload_n hx hb dX1_read_0 rfl (lv_at hl 0 rfl) ?_
  refine wc_Vi (As := []) (rest := []) (wr := []) ⟨hx, hb, hml, hown, hts⟩ (ct_readText l dC dI s.heap.size h0 ht hw a1 a2 a3 n w cT f T hT hn e1 e2 e3 e4) (cwV 0 hts gX1_read_X1_readText rfl rfl rfl (by decide +kernel) ⟨Nat.le_of_ble_eq_true rfl, Nat.le_of_ble_eq_true rfl⟩) hP hD hK hS hA [0, 1, 2] [] [0] rfl rfl (by decide) (by decide) (by decide) rfl 0 rfl rfl rfl hl.1 rfl (Nat.le_of_ble_eq_true rfl) dX1_read_1 ⟨(Nat.zero_le _), (Nat.zero_le _)⟩ (fun r1 u1 H locs hp1 hP hD hS => ?_)
  obtain ⟨fm, V⟩ := u1
  try dsimp only at hp1
  have hP : va_P (dC, dI) azCl [(h0, .inr (1, [.ref ht, .int (nI n), .ref hw, .int (nI w), .ref a1, .ref a2, .ref a3])), (ht, .inl (cT, 60, .inl f)), (a3, .inr (0, [.int (nI fm), .int (nI (az_wl fm)), .long (lN (V / 18446744073709551616)), .long (lN (V % 18446744073709551616))]))] H := hP
  have hD : va_D A [(h0, .inr (1, [.ref ht, .int (nI n), .ref hw, .int (nI w), .ref a1, .ref a2, .ref a3])), (ht, .inl (cT, 60, .inl f)), (a3, .inr (0, [.int (nI fm), .int (nI (az_wl fm)), .long (lN (V / 18446744073709551616)), .long (lN (V % 18446744073709551616))]))] := hD
  obtain ⟨hu, ⟨ea, er⟩ | ⟨ea, er⟩⟩ := hp1
  · subst er
    refine lv_istore_n (lv' := [(1, .int (nI 0)), (0, .ref h0)]) hx hb dX1_read_4 rfl hl (by decide) rfl (fun ls hl => ?_)
    refine lv_aload_n hx hb dX1_read_5 rfl (lv_at hl 1 rfl) ?_
    refine lv_iconst (v := nI 0) hx hb dX1_read_6 (by decide) ?_
    refine va_put (D := (dC, dI)) (ci := 1) (v := .int (nI 0)) (ty := .int) (C := RX1) (T := TX1) (N := 7) hx hb hts hiX1 tyX1 tyX1_ok nmX1 hown hK hP hD hS 0 rfl rfl 1 (by decide) hf13 (fun _ h9 => h9) rfl (by decide +kernel) rfl rfl (Nat.le_of_ble_eq_true rfl) dX1_read_7 (fun H locs hP hD hS => ?_)
    have hP : va_P (dC, dI) azCl [(h0, .inr (1, [.ref ht, .int (nI 0), .ref hw, .int (nI w), .ref a1, .ref a2, .ref a3])), (ht, .inl (cT, 60, .inl f)), (a3, .inr (0, [.int (nI fm), .int (nI (az_wl fm)), .long (lN (V / 18446744073709551616)), .long (lN (V % 18446744073709551616))]))] H := hP
    have hD : va_D A [(h0, .inr (1, [.ref ht, .int (nI 0), .ref hw, .int (nI w), .ref a1, .ref a2, .ref a3])), (ht, .inl (cT, 60, .inl f)), (a3, .inr (0, [.int (nI fm), .int (nI (az_wl fm)), .long (lN (V / 18446744073709551616)), .long (lN (V % 18446744073709551616))]))] := hD
    refine lv_iload_n hx hb dX1_read_10 rfl (lv_at hl 0 rfl) ?_
    refine lv_if_ne (tgt := 16) hx hb dX1_read_11 (by decide) (fun c => absurd c (by decide)) (fun _ => ?_)
    refine lv_iconst (v := -1) hx hb dX1_read_14 (by decide) ?_
    exact wt_i hx hb hr ((a1, a2, a3, fm, V)) (⟨hu, Or.inl ⟨ea, rfl, rfl, rfl, rfl⟩⟩) (hP.sub [0, 1, 2] rfl) hK (hD.sub [0, 1, 2] (by decide) rfl) hS dX1_read_15 hlocks
  · subst er
    refine lv_istore_n (lv' := [(1, .int (nI 1)), (0, .ref h0)]) hx hb dX1_read_4 rfl hl (by decide) rfl (fun ls hl => ?_)
    refine lv_aload_n hx hb dX1_read_5 rfl (lv_at hl 1 rfl) ?_
    refine lv_iconst (v := nI 0) hx hb dX1_read_6 (by decide) ?_
    refine va_put (D := (dC, dI)) (ci := 1) (v := .int (nI 0)) (ty := .int) (C := RX1) (T := TX1) (N := 7) hx hb hts hiX1 tyX1 tyX1_ok nmX1 hown hK hP hD hS 0 rfl rfl 1 (by decide) hf13 (fun _ h9 => h9) rfl (by decide +kernel) rfl rfl (Nat.le_of_ble_eq_true rfl) dX1_read_7 (fun H locs hP hD hS => ?_)
    have hP : va_P (dC, dI) azCl [(h0, .inr (1, [.ref ht, .int (nI 0), .ref hw, .int (nI w), .ref a1, .ref a2, .ref a3])), (ht, .inl (cT, 60, .inl f)), (a3, .inr (0, [.int (nI fm), .int (nI (az_wl fm)), .long (lN (V / 18446744073709551616)), .long (lN (V % 18446744073709551616))]))] H := hP
    have hD : va_D A [(h0, .inr (1, [.ref ht, .int (nI 0), .ref hw, .int (nI w), .ref a1, .ref a2, .ref a3])), (ht, .inl (cT, 60, .inl f)), (a3, .inr (0, [.int (nI fm), .int (nI (az_wl fm)), .long (lN (V / 18446744073709551616)), .long (lN (V % 18446744073709551616))]))] := hD
    refine lv_iload_n hx hb dX1_read_10 rfl (lv_at hl 0 rfl) ?_
    refine lv_if_ne (tgt := 16) hx hb dX1_read_11 (by decide) (fun _ => ?_) (fun c => absurd c (by decide))
    refine lv_aload_n hx hb dX1_read_16 rfl (lv_at hl 1 rfl) ?_
    refine va_get (D := (dC, dI)) (ci := 1) (v := .ref a2) (C := RX1) (T := TX1) (N := 7) hx hb hts hiX1 hown hK hP 0 rfl rfl 5 (by decide) hf30 (fun _ h9 => h9) rfl dX1_read_17 ?_
    refine lv_astore_n (lv' := [(2, .ref a2), (1, .int (nI 1)), (0, .ref h0)]) hx hb dX1_read_20 rfl hl (by decide) rfl (fun ls hl => ?_)
    refine lv_aload_n hx hb dX1_read_21 rfl (lv_at hl 2 rfl) ?_
    refine lv_aload_n hx hb dX1_read_22 rfl (lv_at hl 2 rfl) ?_
    refine va_get (D := (dC, dI)) (ci := 1) (v := .ref a1) (C := RX1) (T := TX1) (N := 7) hx hb hts hiX1 hown hK hP 0 rfl rfl 4 (by decide) hf26 (fun _ h9 => h9) rfl dX1_read_23 ?_
    refine va_put (D := (dC, dI)) (ci := 1) (v := .ref a1) (ty := .object "AddressTexts$Address") (C := RX1) (T := TX1) (N := 7) hx hb hts hiX1 tyX1 tyX1_ok nmX1 hown hK hP hD hS 0 rfl rfl 5 (by decide) hf30 (fun _ h9 => h9) rfl (by decide +kernel) rfl rfl (Nat.le_of_ble_eq_true rfl) dX1_read_26 (fun H locs hP hD hS => ?_)
    have hP : va_P (dC, dI) azCl [(h0, .inr (1, [.ref ht, .int (nI 0), .ref hw, .int (nI w), .ref a1, .ref a1, .ref a3])), (ht, .inl (cT, 60, .inl f)), (a3, .inr (0, [.int (nI fm), .int (nI (az_wl fm)), .long (lN (V / 18446744073709551616)), .long (lN (V % 18446744073709551616))]))] H := hP
    have hD : va_D A [(h0, .inr (1, [.ref ht, .int (nI 0), .ref hw, .int (nI w), .ref a1, .ref a1, .ref a3])), (ht, .inl (cT, 60, .inl f)), (a3, .inr (0, [.int (nI fm), .int (nI (az_wl fm)), .long (lN (V / 18446744073709551616)), .long (lN (V % 18446744073709551616))]))] := hD
    refine lv_aload_n hx hb dX1_read_29 rfl (lv_at hl 2 rfl) ?_
    refine lv_aload_n hx hb dX1_read_30 rfl (lv_at hl 2 rfl) ?_
    refine va_get (D := (dC, dI)) (ci := 1) (v := .ref a3) (C := RX1) (T := TX1) (N := 7) hx hb hts hiX1 hown hK hP 0 rfl rfl 6 (by decide) hf33 (fun _ h9 => h9) rfl dX1_read_31 ?_
    refine va_put (D := (dC, dI)) (ci := 1) (v := .ref a3) (ty := .object "AddressTexts$Address") (C := RX1) (T := TX1) (N := 7) hx hb hts hiX1 tyX1 tyX1_ok nmX1 hown hK hP hD hS 0 rfl rfl 4 (by decide) hf26 (fun _ h9 => h9) rfl (by decide +kernel) rfl rfl (Nat.le_of_ble_eq_true rfl) dX1_read_34 (fun H locs hP hD hS => ?_)
    have hP : va_P (dC, dI) azCl [(h0, .inr (1, [.ref ht, .int (nI 0), .ref hw, .int (nI w), .ref a3, .ref a1, .ref a3])), (ht, .inl (cT, 60, .inl f)), (a3, .inr (0, [.int (nI fm), .int (nI (az_wl fm)), .long (lN (V / 18446744073709551616)), .long (lN (V % 18446744073709551616))]))] H := hP
    have hD : va_D A [(h0, .inr (1, [.ref ht, .int (nI 0), .ref hw, .int (nI w), .ref a3, .ref a1, .ref a3])), (ht, .inl (cT, 60, .inl f)), (a3, .inr (0, [.int (nI fm), .int (nI (az_wl fm)), .long (lN (V / 18446744073709551616)), .long (lN (V % 18446744073709551616))]))] := hD
    refine lv_aload_n hx hb dX1_read_37 rfl (lv_at hl 2 rfl) ?_
    refine lv_aload_n hx hb dX1_read_38 rfl (lv_at hl 0 rfl) ?_
    refine va_put (D := (dC, dI)) (ci := 1) (v := .ref a2) (ty := .object "AddressTexts$Address") (C := RX1) (T := TX1) (N := 7) hx hb hts hiX1 tyX1 tyX1_ok nmX1 hown hK hP hD hS 0 rfl rfl 6 (by decide) hf33 (fun _ h9 => h9) rfl (by decide +kernel) rfl rfl (Nat.le_of_ble_eq_true rfl) dX1_read_39 (fun H locs hP hD hS => ?_)
    have hP : va_P (dC, dI) azCl [(h0, .inr (1, [.ref ht, .int (nI 0), .ref hw, .int (nI w), .ref a3, .ref a1, .ref a2])), (ht, .inl (cT, 60, .inl f)), (a3, .inr (0, [.int (nI fm), .int (nI (az_wl fm)), .long (lN (V / 18446744073709551616)), .long (lN (V % 18446744073709551616))]))] H := hP
    have hD : va_D A [(h0, .inr (1, [.ref ht, .int (nI 0), .ref hw, .int (nI w), .ref a3, .ref a1, .ref a2])), (ht, .inl (cT, 60, .inl f)), (a3, .inr (0, [.int (nI fm), .int (nI (az_wl fm)), .long (lN (V / 18446744073709551616)), .long (lN (V % 18446744073709551616))]))] := hD
    refine lv_aload_n hx hb dX1_read_42 rfl (lv_at hl 2 rfl) ?_
    refine va_get (D := (dC, dI)) (ci := 1) (v := .ref a3) (C := RX1) (T := TX1) (N := 7) hx hb hts hiX1 hown hK hP 0 rfl rfl 4 (by decide) hf26 (fun _ h9 => h9) rfl dX1_read_43 ?_
    refine va_get (D := (dC, dI)) (ci := 0) (v := .int (nI fm)) (C := RX0) (T := TX0) (N := 4) hx hb hts hiX0 hown hK hP 2 rfl rfl 0 (by decide) hf44 (fun _ h9 => h9) rfl dX1_read_46 ?_
    exact wt_i hx hb hr ((a3, a1, a2, fm, V)) (⟨hu, Or.inr ⟨ea, rfl, rfl, rfl, rfl⟩⟩) (hP.sub [0, 1, 2] rfl) hK (hD.sub [0, 1, 2] (by decide) rfl) hS dX1_read_49 hlocks
set_option maxRecDepth 100000 in
set_option maxHeartbeats 4000000 in
/-- write() -/
theorem ct_write (l : Launch) (dC : Nat → ClassId) (dI : Nat → Nat → Nat) (sz : Nat) (h0 ht hw a1 a2 a3 n w : Nat) (cW : ClassId) (g : Nat → Int32) (f1 l1 V1 : Nat) (h1 : az_ad f1 l1 V1) : Met l yX1_write wsX1_write ({ frames := 5, cells := 0, slots := 0, locals := 112 }) (wr_P (dC, dI) azCl [(h0, .inr (1, [.ref ht, .int (nI n), .ref hw, .int (nI w), .ref a1, .ref a2, .ref a3])), (hw, .inl (cW, 39, .inl g)), (a1, .inr (0, [.int (nI f1), .int (nI l1), .long (lN (V1 / 18446744073709551616)), .long (lN (V1 % 18446744073709551616))]))] [(cW, .byte)] sz [.ref h0]) (va_Qi (fun r u => r = nI u.2 ∧ az_ou u.1 (az_out f1 V1) u.2) (wr_B (dC, dI) azCl [(cW, .byte)] (va_A [(h0, .inr (1, [.ref ht, .int (nI n), .ref hw, .int (nI w), .ref a1, .ref a2, .ref a3])), (hw, .inl (cW, 39, .inl g)), (a1, .inr (0, [.int (nI f1), .int (nI l1), .long (lN (V1 / 18446744073709551616)), .long (lN (V1 % 18446744073709551616))]))] sz) (fun u : (Nat → Int32) × Nat => [(h0, .inr (1, [.ref ht, .int (nI n), .ref hw, .int (nI u.2), .ref a1, .ref a2, .ref a3])), (hw, .inl (cW, 39, .inl u.1)), (a1, .inr (0, [.int (nI f1), .int (nI l1), .long (lN (V1 / 18446744073709551616)), .long (lN (V1 % 18446744073709551616))]))])) (va_A [(h0, .inr (1, [.ref ht, .int (nI n), .ref hw, .int (nI w), .ref a1, .ref a2, .ref a3])), (hw, .inl (cW, 39, .inl g)), (a1, .inr (0, [.int (nI f1), .int (nI l1), .long (lN (V1 / 18446744073709551616)), .long (lN (V1 % 18446744073709551616))]))] sz)) 0 0 (va_A [(h0, .inr (1, [.ref ht, .int (nI n), .ref hw, .int (nI w), .ref a1, .ref a2, .ref a3])), (hw, .inl (cW, 39, .inl g)), (a1, .inr (0, [.int (nI f1), .int (nI l1), .long (lN (V1 / 18446744073709551616)), .long (lN (V1 % 18446744073709551616))]))] sz) := by
  refine Met.ofW (cc := cX1_write) (maxL := 1) (ret := (some .int)) (by decide) rfl ?_
  intro p e s m args below meth c s₁ Bd hml hv
  obtain ⟨rfl, hsz, hP, hK, hD0⟩ := hv
  have hx := Bd.exec
  have hb := Bd.bytes
  have hr := Bd.returns
  have hts := atoms_spec (ws := wsX1_write) Bd.pre
  have hown : s.vm.findClass RX1 = some m.cls := findClass_of_methodNamed Bd.named
  have hlocks := Bd.notSynchronized
  subst hsz
  have hD := hD0.self (sz := s.heap.size)
  generalize hAe : va_A [(h0, .inr (1, [.ref ht, .int (nI n), .ref hw, .int (nI w), .ref a1, .ref a2, .ref a3])), (hw, .inl (cW, 39, .inl g)), (a1, .inr (0, [.int (nI f1), .int (nI l1), .long (lN (V1 / 18446744073709551616)), .long (lN (V1 % 18446744073709551616))]))] s.heap.size = A at hD ⊢
  have hA : ∀ q : Nat, s.heap.size ≤ q → A q := fun q h => by rw [← hAe]; exact Or.inr h
  have hS : va_S A s.heap s.heap [] := va_S.rf
  have hP : va_P (dC, dI) azCl [(h0, .inr (1, [.ref ht, .int (nI n), .ref hw, .int (nI w), .ref a1, .ref a2, .ref a3])), (hw, .inl (cW, 39, .inl g)), (a1, .inr (0, [.int (nI f1), .int (nI l1), .long (lN (V1 / 18446744073709551616)), .long (lN (V1 % 18446744073709551616))]))] s.heap := hP
  have hiX1 : ∀ w ∈ wsX10, w ∈ wsX1_write := by decide +kernel
  have hiX0 : ∀ w ∈ wsX00, w ∈ wsX1_write := by decide +kernel
  have hf20 := hts (.fieldLink RX1 20 "AddressTexts" "writtenCount" "I") (by decide +kernel)
  have hf26 := hts (.fieldLink RX1 26 "AddressTexts" "one" "LAddressTexts$Address;") (by decide +kernel)
  have hf44 := hts (.fieldLink RX1 44 "AddressTexts$Address" "family" "I") (by decide +kernel)
  have hl := lv_entry ([.ref h0]) (n := 1) (Nat.le_of_ble_eq_true rfl)
  rw [lg_entry_eq]
  generalize (lg_sl ([.ref h0]) ++ List.replicate (1 - (lg_sl ([.ref h0])).length) Slot.unset).toArray = ls at hl ⊢
  have hl : lv_has ls 1 [(0, .ref h0)] := hl
  have hf1 := az_ad_6 h1
  refine lv_aload_n hx hb dX1_write_0 rfl (lv_at hl 0 rfl) ?_
  refine lv_iconst (v := nI 0) hx hb dX1_write_1 (by decide) ?_
  refine va_put (D := (dC, dI)) (ci := 1) (v := .int (nI 0)) (ty := .int) (C := RX1) (T := TX1) (N := 7) hx hb hts hiX1 tyX1 tyX1_ok nmX1 hown hK hP hD hS 0 rfl rfl 3 (by decide) hf20 (fun _ h9 => h9) rfl (by decide +kernel) rfl rfl (Nat.le_of_ble_eq_true rfl) dX1_write_2 (fun H locs hP hD hS => ?_)
  have hP : va_P (dC, dI) azCl [(h0, .inr (1, [.ref ht, .int (nI n), .ref hw, .int (nI 0), .ref a1, .ref a2, .ref a3])), (hw, .inl (cW, 39, .inl g)), (a1, .inr (0, [.int (nI f1), .int (nI l1), .long (lN (V1 / 18446744073709551616)), .long (lN (V1 % 18446744073709551616))]))] H := hP
  have hD : va_D A [(h0, .inr (1, [.ref ht, .int (nI n), .ref hw, .int (nI 0), .ref a1, .ref a2, .ref a3])), (hw, .inl (cW, 39, .inl g)), (a1, .inr (0, [.int (nI f1), .int (nI l1), .long (lN (V1 / 18446744073709551616)), .long (lN (V1 % 18446744073709551616))]))] := hD
  refine lv_aload_n hx hb dX1_write_5 rfl (lv_at hl 0 rfl) ?_
  refine va_get (D := (dC, dI)) (ci := 1) (v := .ref a1) (C := RX1) (T := TX1) (N := 7) hx hb hts hiX1 hown hK hP 0 rfl rfl 4 (by decide) hf26 (fun _ h9 => h9) rfl dX1_write_6 ?_
  refine va_get (D := (dC, dI)) (ci := 0) (v := .int (nI f1)) (C := RX0) (T := TX0) (N := 4) hx hb hts hiX0 hown hK hP 2 rfl rfl 0 (by decide) hf44 (fun _ h9 => h9) rfl dX1_write_9 ?_
  refine lv_iconst (v := nI 4) hx hb dX1_write_12 (by decide) ?_
  refine bn_ne (tgt := 23) hx hb dX1_write_13 (by decide) (by omega) (by omega) (fun c13 => ?_) (fun c13 => ?_)
  · refine lv_aload_n hx hb dX1_write_23 rfl (lv_at hl 0 rfl) ?_
    refine wc_Vv (As := []) (rest := []) (wr := []) ⟨hx, hb, hml, hown, hts⟩ (ct_writeParts l dC dI H.size h0 ht hw a1 a2 a3 n cW g f1 l1 V1 (az_ad_V h1)) (cwV 0 hts gX1_write_X1_writeParts rfl rfl rfl (by decide +kernel) ⟨Nat.le_of_ble_eq_true rfl, Nat.le_of_ble_eq_true rfl⟩) hP hD hK hS hA [0, 1, 2] [] [0] rfl rfl (by decide) (by decide) (by decide) rfl 0 rfl rfl rfl hl.1 rfl (Nat.le_of_ble_eq_true rfl) dX1_write_24 ⟨(Nat.zero_le _), (Nat.zero_le _)⟩ (fun u H locs hg1 hP hD hS => ?_)
    obtain ⟨u1, w1⟩ := u
    try dsimp only at hg1
    have hP : va_P (dC, dI) azCl [(h0, .inr (1, [.ref ht, .int (nI n), .ref hw, .int (nI w1), .ref a1, .ref a2, .ref a3])), (hw, .inl (cW, 39, .inl u1)), (a1, .inr (0, [.int (nI f1), .int (nI l1), .long (lN (V1 / 18446744073709551616)), .long (lN (V1 % 18446744073709551616))]))] H := hP
    have hD : va_D A [(h0, .inr (1, [.ref ht, .int (nI n), .ref hw, .int (nI w1), .ref a1, .ref a2, .ref a3])), (hw, .inl (cW, 39, .inl u1)), (a1, .inr (0, [.int (nI f1), .int (nI l1), .long (lN (V1 / 18446744073709551616)), .long (lN (V1 % 18446744073709551616))]))] := hD
    refine lv_aload_n hx hb dX1_write_27 rfl (lv_at hl 0 rfl) ?_
    refine va_get (D := (dC, dI)) (ci := 1) (v := .int (nI w1)) (C := RX1) (T := TX1) (N := 7) hx hb hts hiX1 hown hK hP 0 rfl rfl 3 (by decide) hf20 (fun _ h9 => h9) rfl dX1_write_28 ?_
    exact wt_i hx hb hr ((u1, w1)) (⟨rfl, by unfold az_out; first | (rw [if_pos c13]; exact hg1) | (rw [if_neg c13]; exact hg1)⟩) (hP.sub [0, 1, 2] rfl) hK (hD.sub [0, 1, 2] (by decide) rfl) hS dX1_write_31 hlocks
  · refine lv_aload_n hx hb dX1_write_16 rfl (lv_at hl 0 rfl) ?_
    refine wc_Vv (As := []) (rest := []) (wr := []) ⟨hx, hb, hml, hown, hts⟩ (ct_writeNumbers l dC dI H.size h0 ht hw a1 a2 a3 n cW g f1 l1 V1 (by subst c13; exact az_ad_4 h1)) (cwV 0 hts gX1_write_X1_writeNumbers rfl rfl rfl (by decide +kernel) ⟨Nat.le_of_ble_eq_true rfl, Nat.le_of_ble_eq_true rfl⟩) hP hD hK hS hA [0, 1, 2] [] [0] rfl rfl (by decide) (by decide) (by decide) rfl 0 rfl rfl rfl hl.1 rfl (Nat.le_of_ble_eq_true rfl) dX1_write_17 ⟨(Nat.zero_le _), (Nat.zero_le _)⟩ (fun u H locs hg1 hP hD hS => ?_)
    obtain ⟨u1, w1⟩ := u
    try dsimp only at hg1
    have hP : va_P (dC, dI) azCl [(h0, .inr (1, [.ref ht, .int (nI n), .ref hw, .int (nI w1), .ref a1, .ref a2, .ref a3])), (hw, .inl (cW, 39, .inl u1)), (a1, .inr (0, [.int (nI f1), .int (nI l1), .long (lN (V1 / 18446744073709551616)), .long (lN (V1 % 18446744073709551616))]))] H := hP
    have hD : va_D A [(h0, .inr (1, [.ref ht, .int (nI n), .ref hw, .int (nI w1), .ref a1, .ref a2, .ref a3])), (hw, .inl (cW, 39, .inl u1)), (a1, .inr (0, [.int (nI f1), .int (nI l1), .long (lN (V1 / 18446744073709551616)), .long (lN (V1 % 18446744073709551616))]))] := hD
    refine lv_goto (tgt := 27) hx hb dX1_write_20 (by decide) ?_
    refine lv_aload_n hx hb dX1_write_27 rfl (lv_at hl 0 rfl) ?_
    refine va_get (D := (dC, dI)) (ci := 1) (v := .int (nI w1)) (C := RX1) (T := TX1) (N := 7) hx hb hts hiX1 hown hK hP 0 rfl rfl 3 (by decide) hf20 (fun _ h9 => h9) rfl dX1_write_28 ?_
    exact wt_i hx hb hr ((u1, w1)) (⟨rfl, by unfold az_out; first | (rw [if_pos c13]; exact hg1) | (rw [if_neg c13]; exact hg1)⟩) (hP.sub [0, 1, 2] rfl) hK (hD.sub [0, 1, 2] (by decide) rfl) hS dX1_write_31 hlocks
end
