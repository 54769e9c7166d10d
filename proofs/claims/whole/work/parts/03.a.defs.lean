/-! ===== BEGIN printed: names, fields, word lists, decode rows ===== -/
def RX0 : String := "IntraMill$BitReader"
def TX0 : u_T := fun k => match k with
  | 0 => ("IntraMill$BitReader", "store", "LIntraMill$Store;", true)
  | 1 => ("IntraMill$BitReader", "next", "I", false)
  | 2 => ("IntraMill$BitReader", "fault", "I", false)
  | _ => ("IntraMill$BitReader", "faultPlace", "I", false)
def tyX0 : Nat → FieldType := fun k => match k with
  | 0 => .object "IntraMill$Store"
  | 1 => .int
  | 2 => .int
  | _ => .int
abbrev wsX00 : List Cond := u_ws RX0 TX0 4
theorem nmX0 : ∀ a, a < 4 → ∀ b, b < 4 → a ≠ b → (TX0 a).2.1 ≠ (TX0 b).2.1 := by decide +kernel
theorem tyX0_ok : ∀ k, k < 4 → parseFieldDescriptor (TX0 k).2.2.1 = some (tyX0 k) := by decide +kernel
abbrev cX0_init : ByteArray := prog_2_method_1_code
def yX0_init : MethodName := ⟨RX0, "<init>", "(LIntraMill$Store;)V"⟩
abbrev cX0_restart : ByteArray := prog_2_method_2_code
def yX0_restart : MethodName := ⟨RX0, "restart", "()V"⟩
abbrev cX0_fail : ByteArray := prog_2_method_3_code
def yX0_fail : MethodName := ⟨RX0, "fail", "(II)V"⟩
abbrev cX0_left : ByteArray := prog_2_method_4_code
def yX0_left : MethodName := ⟨RX0, "left", "()I"⟩
abbrev cX0_readBits : ByteArray := prog_2_method_5_code
def yX0_readBits : MethodName := ⟨RX0, "readBits", "(I)I"⟩
abbrev cX0_readNumber : ByteArray := prog_2_method_6_code
def yX0_readNumber : MethodName := ⟨RX0, "readNumber", "(II)I"⟩
abbrev cX0_countZeros : ByteArray := prog_2_method_7_code
def yX0_countZeros : MethodName := ⟨RX0, "countZeros", "()I"⟩
abbrev cX0_readLevel : ByteArray := prog_2_method_8_code
def yX0_readLevel : MethodName := ⟨RX0, "readLevel", "()I"⟩
abbrev cX0_endsClean : ByteArray := prog_2_method_9_code
def yX0_endsClean : MethodName := ⟨RX0, "endsClean", "()Z"⟩
def RX1 : String := "IntraMill$BlockMill"
def TX1 : u_T := fun k => match k with
  | 0 => ("IntraMill$BlockMill", "picture", "LIntraMill$Picture;", true)
  | 1 => ("IntraMill$BlockMill", "foretelling", "LIntraMill$Foretelling;", true)
  | 2 => ("IntraMill$BlockMill", "transform", "LIntraMill$Transform;", true)
  | _ => ("IntraMill$BlockMill", "told", "[I", true)
def tyX1 : Nat → FieldType := fun k => match k with
  | 0 => .object "IntraMill$Picture"
  | 1 => .object "IntraMill$Foretelling"
  | 2 => .object "IntraMill$Transform"
  | _ => .array .int
abbrev wsX10 : List Cond := u_ws RX1 TX1 4
theorem nmX1 : ∀ a, a < 4 → ∀ b, b < 4 → a ≠ b → (TX1 a).2.1 ≠ (TX1 b).2.1 := by decide +kernel
theorem tyX1_ok : ∀ k, k < 4 → parseFieldDescriptor (TX1 k).2.2.1 = some (tyX1 k) := by decide +kernel
abbrev cX1_init : ByteArray := prog_3_method_1_code
def yX1_init : MethodName := ⟨RX1, "<init>", "(LIntraMill$Picture;LIntraMill$Foretelling;)V"⟩
abbrev cX1_packBlock : ByteArray := prog_3_method_2_code
def yX1_packBlock : MethodName := ⟨RX1, "packBlock", "(LIntraMill$Plan;I)V"⟩
abbrev cX1_unpackBlock : ByteArray := prog_3_method_3_code
def yX1_unpackBlock : MethodName := ⟨RX1, "unpackBlock", "(LIntraMill$Plan;I)V"⟩
abbrev cX1_bestMode : ByteArray := prog_3_method_4_code
def yX1_bestMode : MethodName := ⟨RX1, "bestMode", "(II)I"⟩
abbrev cX1_foretell : ByteArray := prog_3_method_5_code
def yX1_foretell : MethodName := ⟨RX1, "foretell", "(I)V"⟩
abbrev cX1_sumOfSizes : ByteArray := prog_3_method_6_code
def yX1_sumOfSizes : MethodName := ⟨RX1, "sumOfSizes", "(II)I"⟩
abbrev cX1_lessTold : ByteArray := prog_3_method_7_code
def yX1_lessTold : MethodName := ⟨RX1, "lessTold", "(III)I"⟩
abbrev cX1_comeBack : ByteArray := prog_3_method_8_code
def yX1_comeBack : MethodName := ⟨RX1, "comeBack", "(LIntraMill$Plan;I)V"⟩
def RX2 : String := "IntraMill$Foretelling"
def TX2 : u_T := fun k => match k with
  | 0 => ("IntraMill$Foretelling", "picture", "LIntraMill$Picture;", true)
  | 1 => ("IntraMill$Foretelling", "line", "[I", true)
  | 2 => ("IntraMill$Foretelling", "above", "Z", false)
  | 3 => ("IntraMill$Foretelling", "left", "Z", false)
  | _ => ("IntraMill$Foretelling", "mean", "I", false)
def tyX2 : Nat → FieldType := fun k => match k with
  | 0 => .object "IntraMill$Picture"
  | 1 => .array .int
  | 2 => .boolean
  | 3 => .boolean
  | _ => .int
abbrev wsX20 : List Cond := u_ws RX2 TX2 5
theorem nmX2 : ∀ a, a < 5 → ∀ b, b < 5 → a ≠ b → (TX2 a).2.1 ≠ (TX2 b).2.1 := by decide +kernel
theorem tyX2_ok : ∀ k, k < 5 → parseFieldDescriptor (TX2 k).2.2.1 = some (tyX2 k) := by decide +kernel
abbrev cX2_init : ByteArray := prog_4_method_1_code
def yX2_init : MethodName := ⟨RX2, "<init>", "(LIntraMill$Picture;)V"⟩
abbrev cX2_lookAround : ByteArray := prog_4_method_2_code
def yX2_lookAround : MethodName := ⟨RX2, "lookAround", "(I)V"⟩
abbrev cX2_lookAbove : ByteArray := prog_4_method_3_code
def yX2_lookAbove : MethodName := ⟨RX2, "lookAbove", "(II)V"⟩
abbrev cX2_lookLeft : ByteArray := prog_4_method_4_code
def yX2_lookLeft : MethodName := ⟨RX2, "lookLeft", "(II)V"⟩
abbrev cX2_meanOfSides : ByteArray := prog_4_method_5_code
def yX2_meanOfSides : MethodName := ⟨RX2, "meanOfSides", "()I"⟩
abbrev cX2_sumOfSide : ByteArray := prog_4_method_6_code
def yX2_sumOfSide : MethodName := ⟨RX2, "sumOfSide", "(I)I"⟩
abbrev cX2_mayUse : ByteArray := prog_4_method_7_code
def yX2_mayUse : MethodName := ⟨RX2, "mayUse", "(I)Z"⟩
abbrev cX2_guess : ByteArray := prog_4_method_8_code
def yX2_guess : MethodName := ⟨RX2, "guess", "(III)I"⟩
abbrev cX2_steep : ByteArray := prog_4_method_9_code
def yX2_steep : MethodName := ⟨RX2, "steep", "(III)I"⟩
abbrev cX2_leaning : ByteArray := prog_4_method_10_code
def yX2_leaning : MethodName := ⟨RX2, "leaning", "(III)I"⟩
abbrev cX2_two : ByteArray := prog_4_method_11_code
def yX2_two : MethodName := ⟨RX2, "two", "(II)I"⟩
abbrev cX2_three : ByteArray := prog_4_method_12_code
def yX2_three : MethodName := ⟨RX2, "three", "(I)I"⟩
def RX3 : String := "IntraMill$Picture"
def TX3 : u_T := fun k => match k with
  | 0 => ("IntraMill$Picture", "pixels", "[I", true)
  | 1 => ("IntraMill$Picture", "across", "I", false)
  | _ => ("IntraMill$Picture", "down", "I", false)
def tyX3 : Nat → FieldType := fun k => match k with
  | 0 => .array .int
  | 1 => .int
  | _ => .int
abbrev wsX30 : List Cond := u_ws RX3 TX3 3
theorem nmX3 : ∀ a, a < 3 → ∀ b, b < 3 → a ≠ b → (TX3 a).2.1 ≠ (TX3 b).2.1 := by decide +kernel
theorem tyX3_ok : ∀ k, k < 3 → parseFieldDescriptor (TX3 k).2.2.1 = some (tyX3 k) := by decide +kernel
abbrev cX3_init : ByteArray := prog_5_method_1_code
def yX3_init : MethodName := ⟨RX3, "<init>", "()V"⟩
abbrev cX3_clear : ByteArray := prog_5_method_2_code
def yX3_clear : MethodName := ⟨RX3, "clear", "(II)V"⟩
abbrev cX3_blocks : ByteArray := prog_5_method_3_code
def yX3_blocks : MethodName := ⟨RX3, "blocks", "()I"⟩
abbrev cX3_leftOf : ByteArray := prog_5_method_4_code
def yX3_leftOf : MethodName := ⟨RX3, "leftOf", "(I)I"⟩
abbrev cX3_topOf : ByteArray := prog_5_method_5_code
def yX3_topOf : MethodName := ⟨RX3, "topOf", "(I)I"⟩
abbrev cX3_get : ByteArray := prog_5_method_6_code
def yX3_get : MethodName := ⟨RX3, "get", "(II)I"⟩
abbrev cX3_set : ByteArray := prog_5_method_7_code
def yX3_set : MethodName := ⟨RX3, "set", "(III)V"⟩
abbrev cX3_smoothEdges : ByteArray := prog_5_method_8_code
def yX3_smoothEdges : MethodName := ⟨RX3, "smoothEdges", "(I)V"⟩
abbrev cX3_smoothAcross : ByteArray := prog_5_method_9_code
def yX3_smoothAcross : MethodName := ⟨RX3, "smoothAcross", "(III)V"⟩
def RX4 : String := "IntraMill$Plan"
def TX4 : u_T := fun k => match k with
  | 0 => ("IntraMill$Plan", "modes", "[I", true)
  | 1 => ("IntraMill$Plan", "levels", "[I", true)
  | 2 => ("IntraMill$Plan", "across", "I", false)
  | 3 => ("IntraMill$Plan", "down", "I", false)
  | 4 => ("IntraMill$Plan", "qp", "I", false)
  | _ => ("IntraMill$Plan", "smooth", "Z", false)
def tyX4 : Nat → FieldType := fun k => match k with
  | 0 => .array .int
  | 1 => .array .int
  | 2 => .int
  | 3 => .int
  | 4 => .int
  | _ => .boolean
abbrev wsX40 : List Cond := u_ws RX4 TX4 6
theorem nmX4 : ∀ a, a < 6 → ∀ b, b < 6 → a ≠ b → (TX4 a).2.1 ≠ (TX4 b).2.1 := by decide +kernel
theorem tyX4_ok : ∀ k, k < 6 → parseFieldDescriptor (TX4 k).2.2.1 = some (tyX4 k) := by decide +kernel
abbrev cX4_init : ByteArray := prog_6_method_1_code
def yX4_init : MethodName := ⟨RX4, "<init>", "()V"⟩
abbrev cX4_clear : ByteArray := prog_6_method_2_code
def yX4_clear : MethodName := ⟨RX4, "clear", "(II)V"⟩
abbrev cX4_blocks : ByteArray := prog_6_method_3_code
def yX4_blocks : MethodName := ⟨RX4, "blocks", "()I"⟩
abbrev cX4_hasAbove : ByteArray := prog_6_method_4_code
def yX4_hasAbove : MethodName := ⟨RX4, "hasAbove", "(I)Z"⟩
abbrev cX4_hasLeft : ByteArray := prog_6_method_5_code
def yX4_hasLeft : MethodName := ⟨RX4, "hasLeft", "(I)Z"⟩
abbrev cX4_likelyMode : ByteArray := prog_6_method_6_code
def yX4_likelyMode : MethodName := ⟨RX4, "likelyMode", "(I)I"⟩
def RX5 : String := "IntraMill$PlanReader"
def TX5 : u_T := fun k => match k with
  | _ => ("IntraMill$PlanReader", "bits", "LIntraMill$BitReader;", true)
def tyX5 : Nat → FieldType := fun k => match k with
  | _ => .object "IntraMill$BitReader"
abbrev wsX50 : List Cond := u_ws RX5 TX5 1
theorem nmX5 : ∀ a, a < 1 → ∀ b, b < 1 → a ≠ b → (TX5 a).2.1 ≠ (TX5 b).2.1 := by decide +kernel
theorem tyX5_ok : ∀ k, k < 1 → parseFieldDescriptor (TX5 k).2.2.1 = some (tyX5 k) := by decide +kernel
abbrev cX5_init : ByteArray := prog_7_method_1_code
def yX5_init : MethodName := ⟨RX5, "<init>", "(LIntraMill$Store;)V"⟩
abbrev cX5_fault : ByteArray := prog_7_method_2_code
def yX5_fault : MethodName := ⟨RX5, "fault", "()I"⟩
abbrev cX5_faultPlace : ByteArray := prog_7_method_3_code
def yX5_faultPlace : MethodName := ⟨RX5, "faultPlace", "()I"⟩
abbrev cX5_read : ByteArray := prog_7_method_4_code
def yX5_read : MethodName := ⟨RX5, "read", "(LIntraMill$Plan;)Z"⟩
abbrev cX5_readHead : ByteArray := prog_7_method_5_code
def yX5_readHead : MethodName := ⟨RX5, "readHead", "(LIntraMill$Plan;)Z"⟩
abbrev cX5_readMode : ByteArray := prog_7_method_6_code
def yX5_readMode : MethodName := ⟨RX5, "readMode", "(LIntraMill$Plan;I)Z"⟩
abbrev cX5_readLevels : ByteArray := prog_7_method_7_code
def yX5_readLevels : MethodName := ⟨RX5, "readLevels", "(LIntraMill$Plan;I)Z"⟩
def RX6 : String := "IntraMill$PlanWriter"
def TX6 : u_T := fun k => match k with
  | 0 => ("IntraMill$PlanWriter", "store", "LIntraMill$Store;", true)
  | 1 => ("IntraMill$PlanWriter", "open", "I", false)
  | _ => ("IntraMill$PlanWriter", "openBits", "I", false)
def tyX6 : Nat → FieldType := fun k => match k with
  | 0 => .object "IntraMill$Store"
  | 1 => .int
  | _ => .int
abbrev wsX60 : List Cond := u_ws RX6 TX6 3
theorem nmX6 : ∀ a, a < 3 → ∀ b, b < 3 → a ≠ b → (TX6 a).2.1 ≠ (TX6 b).2.1 := by decide +kernel
theorem tyX6_ok : ∀ k, k < 3 → parseFieldDescriptor (TX6 k).2.2.1 = some (tyX6 k) := by decide +kernel
abbrev cX6_init : ByteArray := prog_8_method_1_code
def yX6_init : MethodName := ⟨RX6, "<init>", "(LIntraMill$Store;)V"⟩
abbrev cX6_write : ByteArray := prog_8_method_2_code
def yX6_write : MethodName := ⟨RX6, "write", "(LIntraMill$Plan;)V"⟩
abbrev cX6_writeMode : ByteArray := prog_8_method_3_code
def yX6_writeMode : MethodName := ⟨RX6, "writeMode", "(II)V"⟩
abbrev cX6_writeLevels : ByteArray := prog_8_method_4_code
def yX6_writeLevels : MethodName := ⟨RX6, "writeLevels", "([II)V"⟩
abbrev cX6_writeNumber : ByteArray := prog_8_method_5_code
def yX6_writeNumber : MethodName := ⟨RX6, "writeNumber", "(I)V"⟩
abbrev cX6_writeBits : ByteArray := prog_8_method_6_code
def yX6_writeBits : MethodName := ⟨RX6, "writeBits", "(II)V"⟩
def RX7 : String := "IntraMill$Store"
def TX7 : u_T := fun k => match k with
  | 0 => ("IntraMill$Store", "bytes", "[B", true)
  | _ => ("IntraMill$Store", "count", "I", false)
def tyX7 : Nat → FieldType := fun k => match k with
  | 0 => .array .byte
  | _ => .int
abbrev wsX70 : List Cond := u_ws RX7 TX7 2
theorem nmX7 : ∀ a, a < 2 → ∀ b, b < 2 → a ≠ b → (TX7 a).2.1 ≠ (TX7 b).2.1 := by decide +kernel
theorem tyX7_ok : ∀ k, k < 2 → parseFieldDescriptor (TX7 k).2.2.1 = some (tyX7 k) := by decide +kernel
abbrev cX7_init : ByteArray := prog_9_method_1_code
def yX7_init : MethodName := ⟨RX7, "<init>", "()V"⟩
abbrev cX7_get : ByteArray := prog_9_method_2_code
def yX7_get : MethodName := ⟨RX7, "get", "(I)I"⟩
abbrev cX7_set : ByteArray := prog_9_method_3_code
def yX7_set : MethodName := ⟨RX7, "set", "(II)V"⟩
abbrev cX7_add : ByteArray := prog_9_method_4_code
def yX7_add : MethodName := ⟨RX7, "add", "(I)V"⟩
abbrev cX7_bitAt : ByteArray := prog_9_method_5_code
def yX7_bitAt : MethodName := ⟨RX7, "bitAt", "(I)I"⟩
def RX8 : String := "IntraMill$Transform"
def TX8 : u_T := fun k => match k with
  | _ => ("IntraMill$Transform", "cells", "[I", true)
def tyX8 : Nat → FieldType := fun k => match k with
  | _ => .array .int
abbrev wsX80 : List Cond := u_ws RX8 TX8 1
theorem nmX8 : ∀ a, a < 1 → ∀ b, b < 1 → a ≠ b → (TX8 a).2.1 ≠ (TX8 b).2.1 := by decide +kernel
theorem tyX8_ok : ∀ k, k < 1 → parseFieldDescriptor (TX8 k).2.2.1 = some (tyX8 k) := by decide +kernel
abbrev cX8_init : ByteArray := prog_10_method_1_code
def yX8_init : MethodName := ⟨RX8, "<init>", "()V"⟩
abbrev cX8_back : ByteArray := prog_10_method_2_code
def yX8_back : MethodName := ⟨RX8, "back", "([III)V"⟩
abbrev cX8_backLine : ByteArray := prog_10_method_3_code
def yX8_backLine : MethodName := ⟨RX8, "backLine", "(II)V"⟩
abbrev cX8_forth : ByteArray := prog_10_method_4_code
def yX8_forth : MethodName := ⟨RX8, "forth", "([III)V"⟩
abbrev cX8_forthLine : ByteArray := prog_10_method_5_code
def yX8_forthLine : MethodName := ⟨RX8, "forthLine", "(II)V"⟩
abbrev cX8_factorOf : ByteArray := prog_10_method_6_code
def yX8_factorOf : MethodName := ⟨RX8, "factorOf", "(II)I"⟩
def RX9 : String := "IntraMill"
def TX9 : u_T := fun k => match k with
  | 0 => ("IntraMill", "picture", "LIntraMill$Picture;", true)
  | 1 => ("IntraMill", "foretelling", "LIntraMill$Foretelling;", true)
  | 2 => ("IntraMill", "mill", "LIntraMill$BlockMill;", true)
  | 3 => ("IntraMill", "store", "LIntraMill$Store;", true)
  | 4 => ("IntraMill", "writer", "LIntraMill$PlanWriter;", true)
  | 5 => ("IntraMill", "reader", "LIntraMill$PlanReader;", true)
  | 6 => ("IntraMill", "latest", "LIntraMill$Plan;", false)
  | _ => ("IntraMill", "trial", "LIntraMill$Plan;", false)
def tyX9 : Nat → FieldType := fun k => match k with
  | 0 => .object "IntraMill$Picture"
  | 1 => .object "IntraMill$Foretelling"
  | 2 => .object "IntraMill$BlockMill"
  | 3 => .object "IntraMill$Store"
  | 4 => .object "IntraMill$PlanWriter"
  | 5 => .object "IntraMill$PlanReader"
  | 6 => .object "IntraMill$Plan"
  | _ => .object "IntraMill$Plan"
abbrev wsX90 : List Cond := u_ws RX9 TX9 8
theorem nmX9 : ∀ a, a < 8 → ∀ b, b < 8 → a ≠ b → (TX9 a).2.1 ≠ (TX9 b).2.1 := by decide +kernel
theorem tyX9_ok : ∀ k, k < 8 → parseFieldDescriptor (TX9 k).2.2.1 = some (tyX9 k) := by decide +kernel
abbrev cX9_init : ByteArray := prog_1_method_1_code
def yX9_init : MethodName := ⟨RX9, "<init>", "()V"⟩
abbrev cX9_begin : ByteArray := prog_1_method_2_code
def yX9_begin : MethodName := ⟨RX9, "begin", "(II)V"⟩
abbrev cX9_put : ByteArray := prog_1_method_3_code
def yX9_put : MethodName := ⟨RX9, "put", "(III)V"⟩
abbrev cX9_pixel : ByteArray := prog_1_method_4_code
def yX9_pixel : MethodName := ⟨RX9, "pixel", "(II)I"⟩
abbrev cX9_pack : ByteArray := prog_1_method_5_code
def yX9_pack : MethodName := ⟨RX9, "pack", "(IZ)I"⟩
abbrev cX9_unpack : ByteArray := prog_1_method_6_code
def yX9_unpack : MethodName := ⟨RX9, "unpack", "()I"⟩
abbrev cX9_place : ByteArray := prog_1_method_7_code
def yX9_place : MethodName := ⟨RX9, "place", "()I"⟩
abbrev cX9_feed : ByteArray := prog_1_method_8_code
def yX9_feed : MethodName := ⟨RX9, "feed", "(I)I"⟩
abbrev cX9_end : ByteArray := prog_1_method_9_code
def yX9_end : MethodName := ⟨RX9, "end", "(I)V"⟩
abbrev cX9_alter : ByteArray := prog_1_method_10_code
def yX9_alter : MethodName := ⟨RX9, "alter", "(II)I"⟩
abbrev cX9_bits : ByteArray := prog_1_method_11_code
def yX9_bits : MethodName := ⟨RX9, "bits", "(I)I"⟩
abbrev cX9_block : ByteArray := prog_1_method_12_code
def yX9_block : MethodName := ⟨RX9, "block", "(II)I"⟩
abbrev cX9_foretold : ByteArray := prog_1_method_13_code
def yX9_foretold : MethodName := ⟨RX9, "foretold", "(IIII)I"⟩
abbrev cX9_about : ByteArray := prog_1_method_14_code
def yX9_about : MethodName := ⟨RX9, "about", "(I)I"⟩
abbrev cX9_isWithin : ByteArray := prog_1_method_15_code
def yX9_isWithin : MethodName := ⟨RX9, "isWithin", "(III)Z"⟩
abbrev cX9_hasNeeded : ByteArray := prog_1_method_16_code
def yX9_hasNeeded : MethodName := ⟨RX9, "hasNeeded", "(IZZ)Z"⟩
abbrev cX9_byteOf : ByteArray := prog_1_method_17_code
def yX9_byteOf : MethodName := ⟨RX9, "byteOf", "(II)I"⟩
abbrev cX9_bring : ByteArray := prog_1_method_18_code
def yX9_bring : MethodName := ⟨RX9, "bring", "(III)I"⟩
def RX10 : String := "IntraMillModel"
def TX10 : u_T := fun k => match k with
  | 0 => ("IntraMillModel", "across", "I", false)
  | 1 => ("IntraMillModel", "down", "I", false)
  | 2 => ("IntraMillModel", "picture", "[I", true)
  | 3 => ("IntraMillModel", "given", "[I", true)
  | 4 => ("IntraMillModel", "kept", "[I", true)
  | 5 => ("IntraMillModel", "modes", "[I", true)
  | 6 => ("IntraMillModel", "coefficients", "[I", true)
  | 7 => ("IntraMillModel", "newModes", "[I", true)
  | 8 => ("IntraMillModel", "newCoefficients", "[I", true)
  | 9 => ("IntraMillModel", "qp", "I", false)
  | 10 => ("IntraMillModel", "smoothed", "Z", false)
  | 11 => ("IntraMillModel", "bytes", "[I", true)
  | 12 => ("IntraMillModel", "size", "I", false)
  | 13 => ("IntraMillModel", "at", "I", false)
  | 14 => ("IntraMillModel", "place", "I", false)
  | 15 => ("IntraMillModel", "fault", "I", false)
  | 16 => ("IntraMillModel", "work", "[I", true)
  | _ => ("IntraMillModel", "thrown", "I", false)
def tyX10 : Nat → FieldType := fun k => match k with
  | 0 => .int
  | 1 => .int
  | 2 => .array .int
  | 3 => .array .int
  | 4 => .array .int
  | 5 => .array .int
  | 6 => .array .int
  | 7 => .array .int
  | 8 => .array .int
  | 9 => .int
  | 10 => .boolean
  | 11 => .array .int
  | 12 => .int
  | 13 => .int
  | 14 => .int
  | 15 => .int
  | 16 => .array .int
  | _ => .int
abbrev wsX100 : List Cond := u_ws RX10 TX10 18
theorem nmX10 : ∀ a, a < 18 → ∀ b, b < 18 → a ≠ b → (TX10 a).2.1 ≠ (TX10 b).2.1 := by decide +kernel
theorem tyX10_ok : ∀ k, k < 18 → parseFieldDescriptor (TX10 k).2.2.1 = some (tyX10 k) := by decide +kernel
abbrev cX10_init : ByteArray := prog_12_method_1_code
def yX10_init : MethodName := ⟨RX10, "<init>", "()V"⟩
abbrev cX10_thrown : ByteArray := prog_12_method_2_code
def yX10_thrown : MethodName := ⟨RX10, "thrown", "()I"⟩
abbrev cX10_fails : ByteArray := prog_12_method_3_code
def yX10_fails : MethodName := ⟨RX10, "fails", "(ZI)Z"⟩
abbrev cX10_within : ByteArray := prog_12_method_4_code
def yX10_within : MethodName := ⟨RX10, "within", "(III)Z"⟩
abbrev cX10_down : ByteArray := prog_12_method_5_code
def yX10_down : MethodName := ⟨RX10, "down", "(II)I"⟩
abbrev cX10_size : ByteArray := prog_12_method_6_code
def yX10_size : MethodName := ⟨RX10, "size", "(I)I"⟩
abbrev cX10_clip : ByteArray := prog_12_method_7_code
def yX10_clip : MethodName := ⟨RX10, "clip", "(I)I"⟩
abbrev cX10_begin : ByteArray := prog_12_method_8_code
def yX10_begin : MethodName := ⟨RX10, "begin", "(II)V"⟩
abbrev cX10_put : ByteArray := prog_12_method_9_code
def yX10_put : MethodName := ⟨RX10, "put", "(III)V"⟩
abbrev cX10_pixel : ByteArray := prog_12_method_10_code
def yX10_pixel : MethodName := ⟨RX10, "pixel", "(II)I"⟩
abbrev cX10_hasAbove : ByteArray := prog_12_method_11_code
def yX10_hasAbove : MethodName := ⟨RX10, "hasAbove", "(I)Z"⟩
abbrev cX10_hasLeft : ByteArray := prog_12_method_12_code
def yX10_hasLeft : MethodName := ⟨RX10, "hasLeft", "(I)Z"⟩
abbrev cX10_above : ByteArray := prog_12_method_13_code
def yX10_above : MethodName := ⟨RX10, "above", "(II)I"⟩
abbrev cX10_left : ByteArray := prog_12_method_14_code
def yX10_left : MethodName := ⟨RX10, "left", "(II)I"⟩
abbrev cX10_round : ByteArray := prog_12_method_15_code
def yX10_round : MethodName := ⟨RX10, "round", "(II)I"⟩
abbrev cX10_two : ByteArray := prog_12_method_16_code
def yX10_two : MethodName := ⟨RX10, "two", "(II)I"⟩
abbrev cX10_three : ByteArray := prog_12_method_17_code
def yX10_three : MethodName := ⟨RX10, "three", "(III)I"⟩
abbrev cX10_may : ByteArray := prog_12_method_18_code
def yX10_may : MethodName := ⟨RX10, "may", "(II)Z"⟩
abbrev cX10_mean : ByteArray := prog_12_method_19_code
def yX10_mean : MethodName := ⟨RX10, "mean", "(I)I"⟩
abbrev cX10_slanted : ByteArray := prog_12_method_20_code
def yX10_slanted : MethodName := ⟨RX10, "slanted", "(IIII)I"⟩
abbrev cX10_told : ByteArray := prog_12_method_21_code
def yX10_told : MethodName := ⟨RX10, "told", "(IIII)I"⟩
abbrev cX10_pick : ByteArray := prog_12_method_22_code
def yX10_pick : MethodName := ⟨RX10, "pick", "(IIIIIII)I"⟩
abbrev cX10_odd : ByteArray := prog_12_method_23_code
def yX10_odd : MethodName := ⟨RX10, "odd", "(II)I"⟩
abbrev cX10_backBy : ByteArray := prog_12_method_24_code
def yX10_backBy : MethodName := ⟨RX10, "backBy", "(III)I"⟩
abbrev cX10_forthBy : ByteArray := prog_12_method_25_code
def yX10_forthBy : MethodName := ⟨RX10, "forthBy", "(III)I"⟩
abbrev cX10_backLine : ByteArray := prog_12_method_26_code
def yX10_backLine : MethodName := ⟨RX10, "backLine", "(II)V"⟩
abbrev cX10_forthLine : ByteArray := prog_12_method_27_code
def yX10_forthLine : MethodName := ⟨RX10, "forthLine", "(II)V"⟩
abbrev cX10_placeOf : ByteArray := prog_12_method_28_code
def yX10_placeOf : MethodName := ⟨RX10, "placeOf", "(I)I"⟩
abbrev cX10_comesBack : ByteArray := prog_12_method_29_code
def yX10_comesBack : MethodName := ⟨RX10, "comesBack", "(II[II)V"⟩
abbrev cX10_givenAt : ByteArray := prog_12_method_30_code
def yX10_givenAt : MethodName := ⟨RX10, "givenAt", "(III)I"⟩
abbrev cX10_costOf : ByteArray := prog_12_method_31_code
def yX10_costOf : MethodName := ⟨RX10, "costOf", "(II)I"⟩
abbrev cX10_goForth : ByteArray := prog_12_method_32_code
def yX10_goForth : MethodName := ⟨RX10, "goForth", "(III)V"⟩
abbrev cX10_smooth : ByteArray := prog_12_method_33_code
def yX10_smooth : MethodName := ⟨RX10, "smooth", "(II)V"⟩
abbrev cX10_smoothAll : ByteArray := prog_12_method_34_code
def yX10_smoothAll : MethodName := ⟨RX10, "smoothAll", "()V"⟩
abbrev cX10_write : ByteArray := prog_12_method_35_code
def yX10_write : MethodName := ⟨RX10, "write", "(II)V"⟩
abbrev cX10_writeU : ByteArray := prog_12_method_36_code
def yX10_writeU : MethodName := ⟨RX10, "writeU", "(I)V"⟩
abbrev cX10_writeS : ByteArray := prog_12_method_37_code
def yX10_writeS : MethodName := ⟨RX10, "writeS", "(I)V"⟩
abbrev cX10_likely : ByteArray := prog_12_method_38_code
def yX10_likely : MethodName := ⟨RX10, "likely", "([II)I"⟩
abbrev cX10_writeBlock : ByteArray := prog_12_method_39_code
def yX10_writeBlock : MethodName := ⟨RX10, "writeBlock", "(I)V"⟩
abbrev cX10_pack : ByteArray := prog_12_method_40_code
def yX10_pack : MethodName := ⟨RX10, "pack", "(IZ)I"⟩
abbrev cX10_stop : ByteArray := prog_12_method_41_code
def yX10_stop : MethodName := ⟨RX10, "stop", "(II)I"⟩
abbrev cX10_read : ByteArray := prog_12_method_42_code
def yX10_read : MethodName := ⟨RX10, "read", "(II)I"⟩
abbrev cX10_readU : ByteArray := prog_12_method_43_code
def yX10_readU : MethodName := ⟨RX10, "readU", "()I"⟩
abbrev cX10_readBlock : ByteArray := prog_12_method_44_code
def yX10_readBlock : MethodName := ⟨RX10, "readBlock", "(I)V"⟩
abbrev cX10_header : ByteArray := prog_12_method_45_code
def yX10_header : MethodName := ⟨RX10, "header", "(I)I"⟩
abbrev cX10_readAll : ByteArray := prog_12_method_46_code
def yX10_readAll : MethodName := ⟨RX10, "readAll", "()V"⟩
abbrev cX10_unpack : ByteArray := prog_12_method_47_code
def yX10_unpack : MethodName := ⟨RX10, "unpack", "()I"⟩
abbrev cX10_place : ByteArray := prog_12_method_48_code
def yX10_place : MethodName := ⟨RX10, "place", "()I"⟩
abbrev cX10_feed : ByteArray := prog_12_method_49_code
def yX10_feed : MethodName := ⟨RX10, "feed", "(I)I"⟩
abbrev cX10_end : ByteArray := prog_12_method_50_code
def yX10_end : MethodName := ⟨RX10, "end", "(I)V"⟩
abbrev cX10_alter : ByteArray := prog_12_method_51_code
def yX10_alter : MethodName := ⟨RX10, "alter", "(II)I"⟩
abbrev cX10_bits : ByteArray := prog_12_method_52_code
def yX10_bits : MethodName := ⟨RX10, "bits", "(I)I"⟩
abbrev cX10_block : ByteArray := prog_12_method_53_code
def yX10_block : MethodName := ⟨RX10, "block", "(II)I"⟩
abbrev cX10_foretold : ByteArray := prog_12_method_54_code
def yX10_foretold : MethodName := ⟨RX10, "foretold", "(IIII)I"⟩
abbrev cX10_about : ByteArray := prog_12_method_55_code
def yX10_about : MethodName := ⟨RX10, "about", "(I)I"⟩
def RJ9 : String := "java/lang/Math"
def TJ9 : u_T := fun k => match k with
  | _ => ("", "", "", false)
def tyJ9 : Nat → FieldType := fun k => match k with
  | _ => .int
abbrev wsJ90 : List Cond := u_ws RJ9 TJ9 0
theorem nmJ9 : ∀ a, a < 0 → ∀ b, b < 0 → a ≠ b → (TJ9 a).2.1 ≠ (TJ9 b).2.1 := by decide +kernel
theorem tyJ9_ok : ∀ k, k < 0 → parseFieldDescriptor (TJ9 k).2.2.1 = some (tyJ9 k) := by decide +kernel
abbrev cJ9_abs_0f7a4 : ByteArray := prog_16_method_59_code
def yJ9_abs_0f7a4 : MethodName := ⟨RJ9, "abs", "(I)I"⟩
abbrev cJ9_min_7cf53 : ByteArray := prog_16_method_69_code
def yJ9_min_7cf53 : MethodName := ⟨RJ9, "min", "(II)I"⟩
def wsJ9_abs_0f7a4 : List Cond := .code yJ9_abs_0f7a4 cJ9_abs_0f7a4 1 (some .int) :: ([])
def wsJ9_min_7cf53 : List Cond := .code yJ9_min_7cf53 cJ9_min_7cf53 2 (some .int) :: ([])
theorem dJ9_abs_0f7a4_0 : decode cJ9_abs_0f7a4 0 = .ok (.iload_n 0, 1) := by decide +kernel
theorem dJ9_abs_0f7a4_1 : decode cJ9_abs_0f7a4 1 = .ok (.ifCond .ge 8, 3) := by decide +kernel
theorem dJ9_abs_0f7a4_4 : decode cJ9_abs_0f7a4 4 = .ok (.iload_n 0, 1) := by decide +kernel
theorem dJ9_abs_0f7a4_5 : decode cJ9_abs_0f7a4 5 = .ok (.ineg, 1) := by decide +kernel
theorem dJ9_abs_0f7a4_6 : decode cJ9_abs_0f7a4 6 = .ok (.goto 4, 3) := by decide +kernel
theorem dJ9_abs_0f7a4_9 : decode cJ9_abs_0f7a4 9 = .ok (.iload_n 0, 1) := by decide +kernel
theorem dJ9_abs_0f7a4_10 : decode cJ9_abs_0f7a4 10 = .ok (.ireturn, 1) := by decide +kernel
theorem dJ9_min_7cf53_0 : decode cJ9_min_7cf53 0 = .ok (.iload_n 0, 1) := by decide +kernel
theorem dJ9_min_7cf53_1 : decode cJ9_min_7cf53 1 = .ok (.iload_n 1, 1) := by decide +kernel
theorem dJ9_min_7cf53_2 : decode cJ9_min_7cf53 2 = .ok (.if_icmp .gt 7, 3) := by decide +kernel
theorem dJ9_min_7cf53_5 : decode cJ9_min_7cf53 5 = .ok (.iload_n 0, 1) := by decide +kernel
theorem dJ9_min_7cf53_6 : decode cJ9_min_7cf53 6 = .ok (.goto 4, 3) := by decide +kernel
theorem dJ9_min_7cf53_9 : decode cJ9_min_7cf53 9 = .ok (.iload_n 1, 1) := by decide +kernel
theorem dJ9_min_7cf53_10 : decode cJ9_min_7cf53 10 = .ok (.ireturn, 1) := by decide +kernel
abbrev vwCl : List vw_C := [(RX0, TX0, 4), (RX1, TX1, 4), (RX2, TX2, 5), (RX3, TX3, 3), (RX4, TX4, 6), (RX5, TX5, 1), (RX6, TX6, 3), (RX7, TX7, 2), (RX8, TX8, 1), (RX9, TX9, 8), (RX10, TX10, 18)]
