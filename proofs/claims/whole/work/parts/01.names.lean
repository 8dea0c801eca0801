
/-! ===== BEGIN printed: names, fields, word lists, decode rows ===== -/
def RX0 : String := "LemonMarket$Reader"
def TX0 : u_T := fun k => match k with
  | 0 => ("LemonMarket$Reader", "tape", "LLemonMarket$Tape;", true)
  | 1 => ("LemonMarket$Reader", "fault", "I", false)
  | 2 => ("LemonMarket$Reader", "faultPlace", "I", false)
  | 3 => ("LemonMarket$Reader", "lines", "I", false)
  | 4 => ("LemonMarket$Reader", "place", "I", false)
  | 5 => ("LemonMarket$Reader", "told", "I", false)
  | 6 => ("LemonMarket$Reader", "token", "I", false)
  | 7 => ("LemonMarket$Reader", "tokenPlace", "I", false)
  | _ => ("LemonMarket$Reader", "value", "I", false)
def tyX0 : Nat → FieldType := fun k => match k with
  | 0 => .object "LemonMarket$Tape"
  | 1 => .int
  | 2 => .int
  | 3 => .int
  | 4 => .int
  | 5 => .int
  | 6 => .int
  | 7 => .int
  | _ => .int
abbrev wsX00 : List Cond := u_ws RX0 TX0 9
theorem nmX0 : ∀ a, a < 9 → ∀ b, b < 9 → a ≠ b → (TX0 a).2.1 ≠ (TX0 b).2.1 := by decide +kernel
theorem tyX0_ok : ∀ k, k < 9 → parseFieldDescriptor (TX0 k).2.2.1 = some (tyX0 k) := by decide +kernel
abbrev cX0_init : ByteArray := prog_2_method_1_code
def yX0_init : MethodName := ⟨RX0, "<init>", "(LLemonMarket$Tape;)V"⟩
abbrev cX0_readInto : ByteArray := prog_2_method_2_code
def yX0_readInto : MethodName := ⟨RX0, "readInto", "(LLemonMarket$Stock;)V"⟩
abbrev cX0_takeLine : ByteArray := prog_2_method_3_code
def yX0_takeLine : MethodName := ⟨RX0, "takeLine", "(LLemonMarket$Stock;)V"⟩
abbrev cX0_takeSort : ByteArray := prog_2_method_4_code
def yX0_takeSort : MethodName := ⟨RX0, "takeSort", "(LLemonMarket$Stock;)V"⟩
abbrev cX0_takeFail : ByteArray := prog_2_method_5_code
def yX0_takeFail : MethodName := ⟨RX0, "takeFail", "(LLemonMarket$Stock;)V"⟩
abbrev cX0_takeMust : ByteArray := prog_2_method_6_code
def yX0_takeMust : MethodName := ⟨RX0, "takeMust", "(LLemonMarket$Stock;)V"⟩
abbrev cX0_takeMark : ByteArray := prog_2_method_7_code
def yX0_takeMark : MethodName := ⟨RX0, "takeMark", "(LLemonMarket$Stock;)V"⟩
abbrev cX0_takeLook : ByteArray := prog_2_method_8_code
def yX0_takeLook : MethodName := ⟨RX0, "takeLook", "(LLemonMarket$Stock;)V"⟩
abbrev cX0_takeKeen : ByteArray := prog_2_method_9_code
def yX0_takeKeen : MethodName := ⟨RX0, "takeKeen", "(LLemonMarket$Stock;)V"⟩
abbrev cX0_takeNumber : ByteArray := prog_2_method_10_code
def yX0_takeNumber : MethodName := ⟨RX0, "takeNumber", "(II)I"⟩
abbrev cX0_takeStop : ByteArray := prog_2_method_11_code
def yX0_takeStop : MethodName := ⟨RX0, "takeStop", "()V"⟩
abbrev cX0_tellOnce : ByteArray := prog_2_method_12_code
def yX0_tellOnce : MethodName := ⟨RX0, "tellOnce", "(I)V"⟩
abbrev cX0_refuse : ByteArray := prog_2_method_13_code
def yX0_refuse : MethodName := ⟨RX0, "refuse", "(I)V"⟩
abbrev cX0_readToken : ByteArray := prog_2_method_14_code
def yX0_readToken : MethodName := ⟨RX0, "readToken", "()V"⟩
abbrev cX0_nameAtHand : ByteArray := prog_2_method_15_code
def yX0_nameAtHand : MethodName := ⟨RX0, "nameAtHand", "()I"⟩
abbrev cX0_numberAtHand : ByteArray := prog_2_method_16_code
def yX0_numberAtHand : MethodName := ⟨RX0, "numberAtHand", "()I"⟩
abbrev cX0_isKnown : ByteArray := prog_2_method_17_code
def yX0_isKnown : MethodName := ⟨RX0, "isKnown", "(I)Z"⟩
abbrev cX0_endOfRun : ByteArray := prog_2_method_18_code
def yX0_endOfRun : MethodName := ⟨RX0, "endOfRun", "(III)I"⟩
def RX1 : String := "LemonMarket$Sheet"
def TX1 : u_T := fun k => match k with
  | 0 => ("LemonMarket$Sheet", "cells", "[I", true)
  | 1 => ("LemonMarket$Sheet", "size", "I", false)
  | _ => ("LemonMarket$Sheet", "lane", "I", false)
def tyX1 : Nat → FieldType := fun k => match k with
  | 0 => .array .int
  | 1 => .int
  | _ => .int
abbrev wsX10 : List Cond := u_ws RX1 TX1 3
theorem nmX1 : ∀ a, a < 3 → ∀ b, b < 3 → a ≠ b → (TX1 a).2.1 ≠ (TX1 b).2.1 := by decide +kernel
theorem tyX1_ok : ∀ k, k < 3 → parseFieldDescriptor (TX1 k).2.2.1 = some (tyX1 k) := by decide +kernel
abbrev cX1_init : ByteArray := prog_3_method_1_code
def yX1_init : MethodName := ⟨RX1, "<init>", "()V"⟩
abbrev cX1_renew : ByteArray := prog_3_method_2_code
def yX1_renew : MethodName := ⟨RX1, "renew", "(II)V"⟩
abbrev cX1_lowestBits : ByteArray := prog_3_method_3_code
def yX1_lowestBits : MethodName := ⟨RX1, "lowestBits", "(I)I"⟩
abbrev cX1_faultAt : ByteArray := prog_3_method_4_code
def yX1_faultAt : MethodName := ⟨RX1, "faultAt", "(III)I"⟩
abbrev cX1_tellsSortAt : ByteArray := prog_3_method_5_code
def yX1_tellsSortAt : MethodName := ⟨RX1, "tellsSortAt", "(I)Z"⟩
abbrev cX1_addSortAt : ByteArray := prog_3_method_6_code
def yX1_addSortAt : MethodName := ⟨RX1, "addSortAt", "(ILLemonMarket$Stock;)V"⟩
def RX2 : String := "LemonMarket$Stock"
def TX2 : u_T := fun k => match k with
  | 0 => ("LemonMarket$Stock", "many", "[I", true)
  | 1 => ("LemonMarket$Stock", "has", "[I", true)
  | 2 => ("LemonMarket$Stock", "would", "[I", true)
  | 3 => ("LemonMarket$Stock", "fail", "[I", true)
  | 4 => ("LemonMarket$Stock", "must", "[I", true)
  | 5 => ("LemonMarket$Stock", "size", "I", false)
  | 6 => ("LemonMarket$Stock", "mark", "I", false)
  | 7 => ("LemonMarket$Stock", "look", "I", false)
  | 8 => ("LemonMarket$Stock", "pay", "I", false)
  | _ => ("LemonMarket$Stock", "keen", "I", false)
def tyX2 : Nat → FieldType := fun k => match k with
  | 0 => .array .int
  | 1 => .array .int
  | 2 => .array .int
  | 3 => .array .int
  | 4 => .array .int
  | 5 => .int
  | 6 => .int
  | 7 => .int
  | 8 => .int
  | _ => .int
abbrev wsX20 : List Cond := u_ws RX2 TX2 10
theorem nmX2 : ∀ a, a < 10 → ∀ b, b < 10 → a ≠ b → (TX2 a).2.1 ≠ (TX2 b).2.1 := by decide +kernel
theorem tyX2_ok : ∀ k, k < 10 → parseFieldDescriptor (TX2 k).2.2.1 = some (tyX2 k) := by decide +kernel
abbrev cX2_init : ByteArray := prog_4_method_1_code
def yX2_init : MethodName := ⟨RX2, "<init>", "()V"⟩
abbrev cX2_clear : ByteArray := prog_4_method_2_code
def yX2_clear : MethodName := ⟨RX2, "clear", "()V"⟩
abbrev cX2_row : ByteArray := prog_4_method_3_code
def yX2_row : MethodName := ⟨RX2, "row", "(I)[I"⟩
abbrev cX2_copy : ByteArray := prog_4_method_4_code
def yX2_copy : MethodName := ⟨RX2, "copy", "(LLemonMarket$Stock;)V"⟩
abbrev cX2_add : ByteArray := prog_4_method_5_code
def yX2_add : MethodName := ⟨RX2, "add", "(IIII)V"⟩
abbrev cX2_remove : ByteArray := prog_4_method_6_code
def yX2_remove : MethodName := ⟨RX2, "remove", "(I)V"⟩
abbrev cX2_allows : ByteArray := prog_4_method_7_code
def yX2_allows : MethodName := ⟨RX2, "allows", "(III)Z"⟩
abbrev cX2_surplus : ByteArray := prog_4_method_8_code
def yX2_surplus : MethodName := ⟨RX2, "surplus", "(I)I"⟩
abbrev cX2_isGood : ByteArray := prog_4_method_9_code
def yX2_isGood : MethodName := ⟨RX2, "isGood", "(I)Z"⟩
abbrev cX2_sumOf : ByteArray := prog_4_method_10_code
def yX2_sumOf : MethodName := ⟨RX2, "sumOf", "(I)I"⟩
abbrev cX2_goodOnes : ByteArray := prog_4_method_11_code
def yX2_goodOnes : MethodName := ⟨RX2, "goodOnes", "()I"⟩
abbrev cX2_worthTrading : ByteArray := prog_4_method_12_code
def yX2_worthTrading : MethodName := ⟨RX2, "worthTrading", "()I"⟩
abbrev cX2_failingAtMost : ByteArray := prog_4_method_13_code
def yX2_failingAtMost : MethodName := ⟨RX2, "failingAtMost", "(I)I"⟩
abbrev cX2_tenthsForWarrant : ByteArray := prog_4_method_14_code
def yX2_tenthsForWarrant : MethodName := ⟨RX2, "tenthsForWarrant", "(II)I"⟩
abbrev cX2_leastForWarrant : ByteArray := prog_4_method_15_code
def yX2_leastForWarrant : MethodName := ⟨RX2, "leastForWarrant", "(II)I"⟩
abbrev cX2_comesAsHeap : ByteArray := prog_4_method_16_code
def yX2_comesAsHeap : MethodName := ⟨RX2, "comesAsHeap", "(I)Z"⟩
abbrev cX2_worst : ByteArray := prog_4_method_17_code
def yX2_worst : MethodName := ⟨RX2, "worst", "()I"⟩
def RX3 : String := "LemonMarket$Tape"
def TX3 : u_T := fun k => match k with
  | 0 => ("LemonMarket$Tape", "bytes", "[B", true)
  | _ => ("LemonMarket$Tape", "size", "I", false)
def tyX3 : Nat → FieldType := fun k => match k with
  | 0 => .array .byte
  | _ => .int
abbrev wsX30 : List Cond := u_ws RX3 TX3 2
theorem nmX3 : ∀ a, a < 2 → ∀ b, b < 2 → a ≠ b → (TX3 a).2.1 ≠ (TX3 b).2.1 := by decide +kernel
theorem tyX3_ok : ∀ k, k < 2 → parseFieldDescriptor (TX3 k).2.2.1 = some (tyX3 k) := by decide +kernel
abbrev cX3_init : ByteArray := prog_5_method_1_code
def yX3_init : MethodName := ⟨RX3, "<init>", "()V"⟩
def RX4 : String := "LemonMarket$Trade"
def TX4 : u_T := fun k => match k with
  | 0 => ("LemonMarket$Trade", "partsOf", "[I", true)
  | 1 => ("LemonMarket$Trade", "whole", "I", false)
  | 2 => ("LemonMarket$Trade", "horses", "I", false)
  | 3 => ("LemonMarket$Trade", "parts", "I", false)
  | 4 => ("LemonMarket$Trade", "tenths", "I", false)
  | 5 => ("LemonMarket$Trade", "gained", "I", false)
  | _ => ("LemonMarket$Trade", "lost", "I", false)
def tyX4 : Nat → FieldType := fun k => match k with
  | 0 => .array .int
  | 1 => .int
  | 2 => .int
  | 3 => .int
  | 4 => .int
  | 5 => .int
  | _ => .int
abbrev wsX40 : List Cond := u_ws RX4 TX4 7
theorem nmX4 : ∀ a, a < 7 → ∀ b, b < 7 → a ≠ b → (TX4 a).2.1 ≠ (TX4 b).2.1 := by decide +kernel
theorem tyX4_ok : ∀ k, k < 7 → parseFieldDescriptor (TX4 k).2.2.1 = some (tyX4 k) := by decide +kernel
abbrev cX4_init : ByteArray := prog_6_method_1_code
def yX4_init : MethodName := ⟨RX4, "<init>", "()V"⟩
abbrev cX4_make : ByteArray := prog_6_method_2_code
def yX4_make : MethodName := ⟨RX4, "make", "(LLemonMarket$Stock;III)V"⟩
abbrev cX4_isWhole : ByteArray := prog_6_method_3_code
def yX4_isWhole : MethodName := ⟨RX4, "isWhole", "(LLemonMarket$Stock;IIII)Z"⟩
abbrev cX4_partsOfOne : ByteArray := prog_6_method_4_code
def yX4_partsOfOne : MethodName := ⟨RX4, "partsOfOne", "(LLemonMarket$Stock;III)I"⟩
abbrev cX4_sum : ByteArray := prog_6_method_5_code
def yX4_sum : MethodName := ⟨RX4, "sum", "(LLemonMarket$Stock;II)V"⟩
abbrev cX4_shares : ByteArray := prog_6_method_6_code
def yX4_shares : MethodName := ⟨RX4, "shares", "()I"⟩
abbrev cX4_lackAt : ByteArray := prog_6_method_7_code
def yX4_lackAt : MethodName := ⟨RX4, "lackAt", "(I)I"⟩
abbrev cX4_holdsAt : ByteArray := prog_6_method_8_code
def yX4_holdsAt : MethodName := ⟨RX4, "holdsAt", "(I)Z"⟩
abbrev cX4_bringsAll : ByteArray := prog_6_method_9_code
def yX4_bringsAll : MethodName := ⟨RX4, "bringsAll", "(I)Z"⟩
abbrev cX4_thoughtDown : ByteArray := prog_6_method_10_code
def yX4_thoughtDown : MethodName := ⟨RX4, "thoughtDown", "()I"⟩
abbrev cX4_priceBehind : ByteArray := prog_6_method_11_code
def yX4_priceBehind : MethodName := ⟨RX4, "priceBehind", "(I)I"⟩
def RX5 : String := "LemonMarket"
def TX5 : u_T := fun k => match k with
  | 0 => ("LemonMarket", "tape", "LLemonMarket$Tape;", true)
  | 1 => ("LemonMarket", "reader", "LLemonMarket$Reader;", true)
  | 2 => ("LemonMarket", "trade", "LLemonMarket$Trade;", true)
  | 3 => ("LemonMarket", "sheets", "[LLemonMarket$Sheet;", true)
  | 4 => ("LemonMarket", "held", "LLemonMarket$Stock;", false)
  | 5 => ("LemonMarket", "spare", "LLemonMarket$Stock;", false)
  | 6 => ("LemonMarket", "textFault", "I", false)
  | _ => ("LemonMarket", "readFault", "I", false)
def tyX5 : Nat → FieldType := fun k => match k with
  | 0 => .object "LemonMarket$Tape"
  | 1 => .object "LemonMarket$Reader"
  | 2 => .object "LemonMarket$Trade"
  | 3 => .array (.object "LemonMarket$Sheet")
  | 4 => .object "LemonMarket$Stock"
  | 5 => .object "LemonMarket$Stock"
  | 6 => .int
  | _ => .int
abbrev wsX50 : List Cond := u_ws RX5 TX5 8
theorem nmX5 : ∀ a, a < 8 → ∀ b, b < 8 → a ≠ b → (TX5 a).2.1 ≠ (TX5 b).2.1 := by decide +kernel
theorem tyX5_ok : ∀ k, k < 8 → parseFieldDescriptor (TX5 k).2.2.1 = some (tyX5 k) := by decide +kernel
abbrev cX5_init : ByteArray := prog_1_method_1_code
def yX5_init : MethodName := ⟨RX5, "<init>", "()V"⟩
abbrev cX5_feed : ByteArray := prog_1_method_2_code
def yX5_feed : MethodName := ⟨RX5, "feed", "(J)I"⟩
abbrev cX5_end : ByteArray := prog_1_method_3_code
def yX5_end : MethodName := ⟨RX5, "end", "(I)I"⟩
abbrev cX5_text : ByteArray := prog_1_method_4_code
def yX5_text : MethodName := ⟨RX5, "text", "()I"⟩
abbrev cX5_fault : ByteArray := prog_1_method_5_code
def yX5_fault : MethodName := ⟨RX5, "fault", "()I"⟩
abbrev cX5_sort : ByteArray := prog_1_method_6_code
def yX5_sort : MethodName := ⟨RX5, "sort", "(III)I"⟩
abbrev cX5_set : ByteArray := prog_1_method_7_code
def yX5_set : MethodName := ⟨RX5, "set", "(III)I"⟩
abbrev cX5_of : ByteArray := prog_1_method_8_code
def yX5_of : MethodName := ⟨RX5, "of", "(II)I"⟩
abbrev cX5_rule : ByteArray := prog_1_method_9_code
def yX5_rule : MethodName := ⟨RX5, "rule", "(I)I"⟩
abbrev cX5_comes : ByteArray := prog_1_method_10_code
def yX5_comes : MethodName := ⟨RX5, "comes", "(IIII)I"⟩
abbrev cX5_sold : ByteArray := prog_1_method_11_code
def yX5_sold : MethodName := ⟨RX5, "sold", "(IIII)I"⟩
abbrev cX5_thought : ByteArray := prog_1_method_12_code
def yX5_thought : MethodName := ⟨RX5, "thought", "(IIII)I"⟩
abbrev cX5_rests : ByteArray := prog_1_method_13_code
def yX5_rests : MethodName := ⟨RX5, "rests", "(III)I"⟩
abbrev cX5_fall : ByteArray := prog_1_method_14_code
def yX5_fall : MethodName := ⟨RX5, "fall", "(IIII)I"⟩
abbrev cX5_gain : ByteArray := prog_1_method_15_code
def yX5_gain : MethodName := ⟨RX5, "gain", "(III)I"⟩
abbrev cX5_lost : ByteArray := prog_1_method_16_code
def yX5_lost : MethodName := ⟨RX5, "lost", "(III)I"⟩
abbrev cX5_best : ByteArray := prog_1_method_17_code
def yX5_best : MethodName := ⟨RX5, "best", "(III)I"⟩
abbrev cX5_all : ByteArray := prog_1_method_18_code
def yX5_all : MethodName := ⟨RX5, "all", "()I"⟩
abbrev cX5_part : ByteArray := prog_1_method_19_code
def yX5_part : MethodName := ⟨RX5, "part", "(II)I"⟩
abbrev cX5_sharp : ByteArray := prog_1_method_20_code
def yX5_sharp : MethodName := ⟨RX5, "sharp", "()I"⟩
abbrev cX5_days : ByteArray := prog_1_method_21_code
def yX5_days : MethodName := ⟨RX5, "days", "(I)I"⟩
abbrev cX5_keep : ByteArray := prog_1_method_22_code
def yX5_keep : MethodName := ⟨RX5, "keep", "(II)I"⟩
abbrev cX5_edge : ByteArray := prog_1_method_23_code
def yX5_edge : MethodName := ⟨RX5, "edge", "(I)I"⟩
abbrev cX5_spur : ByteArray := prog_1_method_24_code
def yX5_spur : MethodName := ⟨RX5, "spur", "(I)I"⟩
abbrev cX5_laws : ByteArray := prog_1_method_25_code
def yX5_laws : MethodName := ⟨RX5, "laws", "(III)I"⟩
abbrev cX5_bestLaws : ByteArray := prog_1_method_26_code
def yX5_bestLaws : MethodName := ⟨RX5, "bestLaws", "(II)I"⟩
abbrev cX5_learn : ByteArray := prog_1_method_27_code
def yX5_learn : MethodName := ⟨RX5, "learn", "(III)I"⟩
abbrev cX5_sheet : ByteArray := prog_1_method_28_code
def yX5_sheet : MethodName := ⟨RX5, "sheet", "(III)I"⟩
abbrev cX5_lay : ByteArray := prog_1_method_29_code
def yX5_lay : MethodName := ⟨RX5, "lay", "(III)I"⟩
abbrev cX5_read : ByteArray := prog_1_method_30_code
def yX5_read : MethodName := ⟨RX5, "read", "(IIII)I"⟩
abbrev cX5_torn : ByteArray := prog_1_method_31_code
def yX5_torn : MethodName := ⟨RX5, "torn", "()I"⟩
abbrev cX5_count : ByteArray := prog_1_method_32_code
def yX5_count : MethodName := ⟨RX5, "count", "(I)I"⟩
abbrev cX5_isWithin : ByteArray := prog_1_method_33_code
def yX5_isWithin : MethodName := ⟨RX5, "isWithin", "(III)Z"⟩
abbrev cX5_isSortAsTold : ByteArray := prog_1_method_34_code
def yX5_isSortAsTold : MethodName := ⟨RX5, "isSortAsTold", "(IIII)Z"⟩
abbrev cX5_isOffer : ByteArray := prog_1_method_35_code
def yX5_isOffer : MethodName := ⟨RX5, "isOffer", "(II)Z"⟩
abbrev cX5_isPrice : ByteArray := prog_1_method_36_code
def yX5_isPrice : MethodName := ⟨RX5, "isPrice", "(I)Z"⟩
abbrev cX5_isSort : ByteArray := prog_1_method_37_code
def yX5_isSort : MethodName := ⟨RX5, "isSort", "(I)Z"⟩
abbrev cX5_fewestSteps : ByteArray := prog_1_method_38_code
def yX5_fewestSteps : MethodName := ⟨RX5, "fewestSteps", "(II)I"⟩
abbrev cX5_greatestDivisor : ByteArray := prog_1_method_39_code
def yX5_greatestDivisor : MethodName := ⟨RX5, "greatestDivisor", "(II)I"⟩
abbrev cX5_gainAt : ByteArray := prog_1_method_40_code
def yX5_gainAt : MethodName := ⟨RX5, "gainAt", "(LLemonMarket$Stock;III)I"⟩
abbrev cX5_bestPrice : ByteArray := prog_1_method_41_code
def yX5_bestPrice : MethodName := ⟨RX5, "bestPrice", "(LLemonMarket$Stock;II)I"⟩
abbrev cX5_goTogether : ByteArray := prog_1_method_42_code
def yX5_goTogether : MethodName := ⟨RX5, "goTogether", "(I)Z"⟩
abbrev cX5_offerOf : ByteArray := prog_1_method_43_code
def yX5_offerOf : MethodName := ⟨RX5, "offerOf", "(I)I"⟩
abbrev cX5_leftBy : ByteArray := prog_1_method_44_code
def yX5_leftBy : MethodName := ⟨RX5, "leftBy", "(I)LLemonMarket$Stock;"⟩
abbrev cX5_outcome : ByteArray := prog_1_method_45_code
def yX5_outcome : MethodName := ⟨RX5, "outcome", "(II)I"⟩
abbrev cX5_priceLearned : ByteArray := prog_1_method_46_code
def yX5_priceLearned : MethodName := ⟨RX5, "priceLearned", "(I)I"⟩
def RX6 : String := "LemonMarketModel"
def TX6 : u_T := fun k => match k with
  | 0 => ("LemonMarketModel", "tape", "[I", true)
  | 1 => ("LemonMarketModel", "taped", "I", false)
  | 2 => ("LemonMarketModel", "fault", "I", false)
  | 3 => ("LemonMarketModel", "wrong", "I", false)
  | 4 => ("LemonMarketModel", "wrongAt", "I", false)
  | 5 => ("LemonMarketModel", "spot", "I", false)
  | 6 => ("LemonMarketModel", "place", "I", false)
  | 7 => ("LemonMarketModel", "token", "I", false)
  | 8 => ("LemonMarketModel", "value", "I", false)
  | 9 => ("LemonMarketModel", "cuts", "[I", true)
  | 10 => ("LemonMarketModel", "letters", "[I", true)
  | 11 => ("LemonMarketModel", "sorts", "[I", true)
  | 12 => ("LemonMarketModel", "sortMany", "I", false)
  | 13 => ("LemonMarketModel", "readSorts", "[I", true)
  | 14 => ("LemonMarketModel", "readMany", "I", false)
  | 15 => ("LemonMarketModel", "rules", "[I", true)
  | 16 => ("LemonMarketModel", "readRules", "[I", true)
  | 17 => ("LemonMarketModel", "toldOnes", "I", false)
  | 18 => ("LemonMarketModel", "leftOut", "I", false)
  | 19 => ("LemonMarketModel", "whole", "I", false)
  | 20 => ("LemonMarketModel", "horses", "I", false)
  | 21 => ("LemonMarketModel", "come", "[I", true)
  | 22 => ("LemonMarketModel", "soldOf", "[I", true)
  | 23 => ("LemonMarketModel", "allParts", "I", false)
  | 24 => ("LemonMarketModel", "thoughtUp", "J", false)
  | 25 => ("LemonMarketModel", "thoughtDown", "J", false)
  | 26 => ("LemonMarketModel", "gained", "J", false)
  | 27 => ("LemonMarketModel", "bestPrice", "I", false)
  | 28 => ("LemonMarketModel", "bestGain", "J", false)
  | 29 => ("LemonMarketModel", "outcome", "I", false)
  | 30 => ("LemonMarketModel", "lanes", "[I", true)
  | 31 => ("LemonMarketModel", "lengths", "[I", true)
  | 32 => ("LemonMarketModel", "cells", "[I", true)
  | _ => ("LemonMarketModel", "torn", "I", false)
def tyX6 : Nat → FieldType := fun k => match k with
  | 0 => .array .int
  | 1 => .int
  | 2 => .int
  | 3 => .int
  | 4 => .int
  | 5 => .int
  | 6 => .int
  | 7 => .int
  | 8 => .int
  | 9 => .array .int
  | 10 => .array .int
  | 11 => .array .int
  | 12 => .int
  | 13 => .array .int
  | 14 => .int
  | 15 => .array .int
  | 16 => .array .int
  | 17 => .int
  | 18 => .int
  | 19 => .int
  | 20 => .int
  | 21 => .array .int
  | 22 => .array .int
  | 23 => .int
  | 24 => .long
  | 25 => .long
  | 26 => .long
  | 27 => .int
  | 28 => .long
  | 29 => .int
  | 30 => .array .int
  | 31 => .array .int
  | 32 => .array .int
  | _ => .int
abbrev wsX60 : List Cond := u_ws RX6 TX6 34
theorem nmX6 : ∀ a, a < 34 → ∀ b, b < 34 → a ≠ b → (TX6 a).2.1 ≠ (TX6 b).2.1 := by decide +kernel
theorem tyX6_ok : ∀ k, k < 34 → parseFieldDescriptor (TX6 k).2.2.1 = some (tyX6 k) := by decide +kernel
abbrev cX6_init : ByteArray := prog_8_method_1_code
def yX6_init : MethodName := ⟨RX6, "<init>", "()V"⟩
abbrev cX6_in : ByteArray := prog_8_method_3_code
def yX6_in : MethodName := ⟨RX6, "in", "(JJJ)Z"⟩
abbrev cX6_feed : ByteArray := prog_8_method_4_code
def yX6_feed : MethodName := ⟨RX6, "feed", "(J)I"⟩
abbrev cX6_end : ByteArray := prog_8_method_5_code
def yX6_end : MethodName := ⟨RX6, "end", "(I)I"⟩
abbrev cX6_byteAt : ByteArray := prog_8_method_6_code
def yX6_byteAt : MethodName := ⟨RX6, "byteAt", "(I)I"⟩
abbrev cX6_fails : ByteArray := prog_8_method_7_code
def yX6_fails : MethodName := ⟨RX6, "fails", "(I)V"⟩
abbrev cX6_nameAt : ByteArray := prog_8_method_8_code
def yX6_nameAt : MethodName := ⟨RX6, "nameAt", "(II)I"⟩
abbrev cX6_next : ByteArray := prog_8_method_9_code
def yX6_next : MethodName := ⟨RX6, "next", "()V"⟩
abbrev cX6_number : ByteArray := prog_8_method_10_code
def yX6_number : MethodName := ⟨RX6, "number", "(II)I"⟩
abbrev cX6_readSort : ByteArray := prog_8_method_11_code
def yX6_readSort : MethodName := ⟨RX6, "readSort", "()V"⟩
abbrev cX6_layRow : ByteArray := prog_8_method_12_code
def yX6_layRow : MethodName := ⟨RX6, "layRow", "([IIIIII)V"⟩
abbrev cX6_readOf : ByteArray := prog_8_method_13_code
def yX6_readOf : MethodName := ⟨RX6, "readOf", "(I)V"⟩
abbrev cX6_readLine : ByteArray := prog_8_method_14_code
def yX6_readLine : MethodName := ⟨RX6, "readLine", "()V"⟩
abbrev cX6_text : ByteArray := prog_8_method_15_code
def yX6_text : MethodName := ⟨RX6, "text", "()I"⟩
abbrev cX6_fault : ByteArray := prog_8_method_16_code
def yX6_fault : MethodName := ⟨RX6, "fault", "()I"⟩
abbrev cX6_isAsTold : ByteArray := prog_8_method_17_code
def yX6_isAsTold : MethodName := ⟨RX6, "isAsTold", "(IIII)Z"⟩
abbrev cX6_sort : ByteArray := prog_8_method_18_code
def yX6_sort : MethodName := ⟨RX6, "sort", "(III)I"⟩
abbrev cX6_isSort : ByteArray := prog_8_method_19_code
def yX6_isSort : MethodName := ⟨RX6, "isSort", "(I)Z"⟩
abbrev cX6_its : ByteArray := prog_8_method_20_code
def yX6_its : MethodName := ⟨RX6, "its", "(II)I"⟩
abbrev cX6_set : ByteArray := prog_8_method_21_code
def yX6_set : MethodName := ⟨RX6, "set", "(III)I"⟩
abbrev cX6_isGood : ByteArray := prog_8_method_22_code
def yX6_isGood : MethodName := ⟨RX6, "isGood", "(I)Z"⟩
abbrev cX6_of : ByteArray := prog_8_method_23_code
def yX6_of : MethodName := ⟨RX6, "of", "(II)I"⟩
abbrev cX6_rule : ByteArray := prog_8_method_24_code
def yX6_rule : MethodName := ⟨RX6, "rule", "(I)I"⟩
abbrev cX6_isThere : ByteArray := prog_8_method_25_code
def yX6_isThere : MethodName := ⟨RX6, "isThere", "(I)Z"⟩
abbrev cX6_isHeap : ByteArray := prog_8_method_26_code
def yX6_isHeap : MethodName := ⟨RX6, "isHeap", "(I)Z"⟩
abbrev cX6_comesWhole : ByteArray := prog_8_method_27_code
def yX6_comesWhole : MethodName := ⟨RX6, "comesWhole", "(IIII)Z"⟩
abbrev cX6_partsOf : ByteArray := prog_8_method_28_code
def yX6_partsOf : MethodName := ⟨RX6, "partsOf", "(III)I"⟩
abbrev cX6_layOffer : ByteArray := prog_8_method_29_code
def yX6_layOffer : MethodName := ⟨RX6, "layOffer", "(III)V"⟩
abbrev cX6_isOffer : ByteArray := prog_8_method_30_code
def yX6_isOffer : MethodName := ⟨RX6, "isOffer", "(II)Z"⟩
abbrev cX6_isPrice : ByteArray := prog_8_method_31_code
def yX6_isPrice : MethodName := ⟨RX6, "isPrice", "(I)Z"⟩
abbrev cX6_comes : ByteArray := prog_8_method_32_code
def yX6_comes : MethodName := ⟨RX6, "comes", "(IIII)I"⟩
abbrev cX6_sold : ByteArray := prog_8_method_33_code
def yX6_sold : MethodName := ⟨RX6, "sold", "(IIII)I"⟩
abbrev cX6_lowest : ByteArray := prog_8_method_34_code
def yX6_lowest : MethodName := ⟨RX6, "lowest", "(JJI)J"⟩
abbrev cX6_thought : ByteArray := prog_8_method_35_code
def yX6_thought : MethodName := ⟨RX6, "thought", "(IIII)I"⟩
abbrev cX6_doesRest : ByteArray := prog_8_method_36_code
def yX6_doesRest : MethodName := ⟨RX6, "doesRest", "(III)Z"⟩
abbrev cX6_rests : ByteArray := prog_8_method_37_code
def yX6_rests : MethodName := ⟨RX6, "rests", "(III)I"⟩
abbrev cX6_fall : ByteArray := prog_8_method_38_code
def yX6_fall : MethodName := ⟨RX6, "fall", "(IIII)I"⟩
abbrev cX6_gain : ByteArray := prog_8_method_39_code
def yX6_gain : MethodName := ⟨RX6, "gain", "(III)I"⟩
abbrev cX6_lost : ByteArray := prog_8_method_40_code
def yX6_lost : MethodName := ⟨RX6, "lost", "(III)I"⟩
abbrev cX6_layBest : ByteArray := prog_8_method_41_code
def yX6_layBest : MethodName := ⟨RX6, "layBest", "(II)Z"⟩
abbrev cX6_best : ByteArray := prog_8_method_42_code
def yX6_best : MethodName := ⟨RX6, "best", "(III)I"⟩
abbrev cX6_all : ByteArray := prog_8_method_43_code
def yX6_all : MethodName := ⟨RX6, "all", "()I"⟩
abbrev cX6_part : ByteArray := prog_8_method_44_code
def yX6_part : MethodName := ⟨RX6, "part", "(II)I"⟩
abbrev cX6_goesOn : ByteArray := prog_8_method_45_code
def yX6_goesOn : MethodName := ⟨RX6, "goesOn", "(III)Z"⟩
abbrev cX6_sharp : ByteArray := prog_8_method_46_code
def yX6_sharp : MethodName := ⟨RX6, "sharp", "()I"⟩
abbrev cX6_days : ByteArray := prog_8_method_47_code
def yX6_days : MethodName := ⟨RX6, "days", "(I)I"⟩
abbrev cX6_keep : ByteArray := prog_8_method_48_code
def yX6_keep : MethodName := ⟨RX6, "keep", "(II)I"⟩
abbrev cX6_edge : ByteArray := prog_8_method_49_code
def yX6_edge : MethodName := ⟨RX6, "edge", "(I)I"⟩
abbrev cX6_spur : ByteArray := prog_8_method_50_code
def yX6_spur : MethodName := ⟨RX6, "spur", "(I)I"⟩
abbrev cX6_areLaws : ByteArray := prog_8_method_51_code
def yX6_areLaws : MethodName := ⟨RX6, "areLaws", "(I)Z"⟩
abbrev cX6_layLaws : ByteArray := prog_8_method_52_code
def yX6_layLaws : MethodName := ⟨RX6, "layLaws", "(II)V"⟩
abbrev cX6_laws : ByteArray := prog_8_method_53_code
def yX6_laws : MethodName := ⟨RX6, "laws", "(III)I"⟩
abbrev cX6_bestLaws : ByteArray := prog_8_method_54_code
def yX6_bestLaws : MethodName := ⟨RX6, "bestLaws", "(II)I"⟩
abbrev cX6_learnt : ByteArray := prog_8_method_55_code
def yX6_learnt : MethodName := ⟨RX6, "learnt", "(I)I"⟩
abbrev cX6_learn : ByteArray := prog_8_method_56_code
def yX6_learn : MethodName := ⟨RX6, "learn", "(III)I"⟩
abbrev cX6_sheet : ByteArray := prog_8_method_57_code
def yX6_sheet : MethodName := ⟨RX6, "sheet", "(III)I"⟩
abbrev cX6_lay : ByteArray := prog_8_method_58_code
def yX6_lay : MethodName := ⟨RX6, "lay", "(III)I"⟩
abbrev cX6_read : ByteArray := prog_8_method_59_code
def yX6_read : MethodName := ⟨RX6, "read", "(IIII)I"⟩
abbrev cX6_torn : ByteArray := prog_8_method_60_code
def yX6_torn : MethodName := ⟨RX6, "torn", "()I"⟩
abbrev cX6_count : ByteArray := prog_8_method_61_code
def yX6_count : MethodName := ⟨RX6, "count", "(I)I"⟩
def RJ6 : String := "java/lang/Integer"
def TJ6 : u_T := fun k => match k with
  | _ => ("", "", "", false)
def tyJ6 : Nat → FieldType := fun k => match k with
  | _ => .int
abbrev wsJ60 : List Cond := u_ws RJ6 TJ6 0
theorem nmJ6 : ∀ a, a < 0 → ∀ b, b < 0 → a ≠ b → (TJ6 a).2.1 ≠ (TJ6 b).2.1 := by decide +kernel
theorem tyJ6_ok : ∀ k, k < 0 → parseFieldDescriptor (TJ6 k).2.2.1 = some (tyJ6 k) := by decide +kernel
abbrev cJ6_bitCount_0f7a4 : ByteArray := prog_9_method_49_code
def yJ6_bitCount_0f7a4 : MethodName := ⟨RJ6, "bitCount", "(I)I"⟩
def RJ9 : String := "java/lang/Math"
def TJ9 : u_T := fun k => match k with
  | _ => ("", "", "", false)
def tyJ9 : Nat → FieldType := fun k => match k with
  | _ => .int
abbrev wsJ90 : List Cond := u_ws RJ9 TJ9 0
theorem nmJ9 : ∀ a, a < 0 → ∀ b, b < 0 → a ≠ b → (TJ9 a).2.1 ≠ (TJ9 b).2.1 := by decide +kernel
theorem tyJ9_ok : ∀ k, k < 0 → parseFieldDescriptor (TJ9 k).2.2.1 = some (tyJ9 k) := by decide +kernel
abbrev cJ9_floorDiv_7cf53 : ByteArray := prog_10_method_47_code
def yJ9_floorDiv_7cf53 : MethodName := ⟨RJ9, "floorDiv", "(II)I"⟩
abbrev cJ9_abs_0f7a4 : ByteArray := prog_10_method_59_code
def yJ9_abs_0f7a4 : MethodName := ⟨RJ9, "abs", "(I)I"⟩
abbrev cJ9_max_7cf53 : ByteArray := prog_10_method_65_code
def yJ9_max_7cf53 : MethodName := ⟨RJ9, "max", "(II)I"⟩
abbrev cJ9_min_7cf53 : ByteArray := prog_10_method_69_code
def yJ9_min_7cf53 : MethodName := ⟨RJ9, "min", "(II)I"⟩
def RJ10 : String := "java/lang/System"
def TJ10 : u_T := fun k => match k with
  | _ => ("", "", "", false)
def tyJ10 : Nat → FieldType := fun k => match k with
  | _ => .int
abbrev wsJ100 : List Cond := u_ws RJ10 TJ10 0
theorem nmJ10 : ∀ a, a < 0 → ∀ b, b < 0 → a ≠ b → (TJ10 a).2.1 ≠ (TJ10 b).2.1 := by decide +kernel
theorem tyJ10_ok : ∀ k, k < 0 → parseFieldDescriptor (TJ10 k).2.2.1 = some (tyJ10 k) := by decide +kernel
def RL : String := "LemonMarketLaw"
abbrev cL_law : ByteArray := code
def yL_law : MethodName := ⟨RL, "law", "([I)Z"⟩
theorem mt_1 {w : Cond} (i : Nat) (h : tables_1_1[i]? = some w) : w ∈ lw_tbl := List.mem_append_right _ (List.mem_append_left _ (List.mem_of_getElem? h))
theorem mt_2 {w : Cond} (i : Nat) (h : tables_1_2[i]? = some w) : w ∈ lw_tbl := List.mem_append_right _ (List.mem_append_right _ (List.mem_append_left _ (List.mem_of_getElem? h)))
theorem mt_3 {w : Cond} (i : Nat) (h : tables_1_3[i]? = some w) : w ∈ lw_tbl := List.mem_append_right _ (List.mem_append_right _ (List.mem_append_right _ (List.mem_append_left _ (List.mem_of_getElem? h))))
theorem mt_4 {w : Cond} (i : Nat) (h : tables_1_4[i]? = some w) : w ∈ lw_tbl := List.mem_append_right _ (List.mem_append_right _ (List.mem_append_right _ (List.mem_append_right _ (List.mem_append_left _ (List.mem_of_getElem? h)))))
theorem mt_5 {w : Cond} (i : Nat) (h : tables_1_5[i]? = some w) : w ∈ lw_tbl := List.mem_append_right _ (List.mem_append_right _ (List.mem_append_right _ (List.mem_append_right _ (List.mem_append_right _ (List.mem_of_getElem? h)))))
theorem mt_0 {w : Cond} (i : Nat) (h : (k2_sels lw_privs)[i]? = some w) : w ∈ lw_tbl := List.mem_append_left _ (List.mem_of_getElem? h)
def gT_1 : List Cond := [Cond.classLink RL 7 RX5, Cond.instantiable RX5 8, Cond.initialized RX5, Cond.classLink RL 10 RX6, Cond.instantiable RX6 34, Cond.initialized RX6, Cond.constantLong RL 13 (4294967295), Cond.methodLink RL 9 yX5_init, Cond.instanceMethod yX5_init, Cond.code yX5_init cX5_init 2 none, Cond.methodLink RX5 1 objectInit, Cond.instanceMethod objectInit, Cond.code objectInit ⟨#[0xb1]⟩ 1 none, Cond.classLink RX5 7 RX3, Cond.instantiable RX3 2, Cond.initialized RX3, Cond.fieldLink RX5 10 "LemonMarket" "tape" "LLemonMarket$Tape;", Cond.classLink RX5 16 RX0, Cond.instantiable RX0 9, Cond.initialized RX0, Cond.fieldLink RX5 21 "LemonMarket" "reader" "LLemonMarket$Reader;", Cond.classLink RX5 25 RX4, Cond.instantiable RX4 7, Cond.initialized RX4, Cond.fieldLink RX5 28 "LemonMarket" "trade" "LLemonMarket$Trade;", Cond.classLink RX5 32 RX1, Cond.fieldLink RX5 34 "LemonMarket" "sheets" "[LLemonMarket$Sheet;", Cond.instantiable RX1 3, Cond.initialized RX1, Cond.classLink RX5 39 RX2, Cond.instantiable RX2 10, Cond.initialized RX2, Cond.fieldLink RX5 42 "LemonMarket" "held" "LLemonMarket$Stock;", Cond.fieldLink RX5 49 "LemonMarket" "spare" "LLemonMarket$Stock;", Cond.fieldLink RX5 52 "LemonMarket" "textFault" "I", Cond.fieldLink RX5 56 "LemonMarket" "readFault" "I", Cond.instanceMethod yX3_init, Cond.code yX3_init cX3_init 1 none, Cond.methodLink RX3 1 objectInit, Cond.arrayClass .byte]
set_option maxRecDepth 20000 in
theorem gTi_1 : ∀ w ∈ gT_1, w ∈ lw_tbl := List.forall_mem_cons.mpr ⟨mt_1 11 rfl, List.forall_mem_cons.mpr ⟨mt_1 12 rfl, List.forall_mem_cons.mpr ⟨mt_1 1 rfl, List.forall_mem_cons.mpr ⟨mt_3 141 rfl, List.forall_mem_cons.mpr ⟨mt_3 142 rfl, List.forall_mem_cons.mpr ⟨mt_1 7 rfl, List.forall_mem_cons.mpr ⟨mt_5 18 rfl, List.forall_mem_cons.mpr ⟨mt_1 13 rfl, List.forall_mem_cons.mpr ⟨mt_1 14 rfl, List.forall_mem_cons.mpr ⟨mt_1 15 rfl, List.forall_mem_cons.mpr ⟨mt_1 16 rfl, List.forall_mem_cons.mpr ⟨mt_1 17 rfl, List.forall_mem_cons.mpr ⟨mt_1 18 rfl, List.forall_mem_cons.mpr ⟨mt_1 19 rfl, List.forall_mem_cons.mpr ⟨mt_1 20 rfl, List.forall_mem_cons.mpr ⟨mt_1 2 rfl, List.forall_mem_cons.mpr ⟨mt_1 195 rfl, List.forall_mem_cons.mpr ⟨mt_1 36 rfl, List.forall_mem_cons.mpr ⟨mt_1 37 rfl, List.forall_mem_cons.mpr ⟨mt_1 3 rfl, List.forall_mem_cons.mpr ⟨mt_1 196 rfl, List.forall_mem_cons.mpr ⟨mt_1 73 rfl, List.forall_mem_cons.mpr ⟨mt_1 74 rfl, List.forall_mem_cons.mpr ⟨mt_1 4 rfl, List.forall_mem_cons.mpr ⟨mt_1 197 rfl, List.forall_mem_cons.mpr ⟨mt_1 109 rfl, List.forall_mem_cons.mpr ⟨mt_1 198 rfl, List.forall_mem_cons.mpr ⟨mt_1 111 rfl, List.forall_mem_cons.mpr ⟨mt_1 5 rfl, List.forall_mem_cons.mpr ⟨mt_1 129 rfl, List.forall_mem_cons.mpr ⟨mt_1 130 rfl, List.forall_mem_cons.mpr ⟨mt_1 6 rfl, List.forall_mem_cons.mpr ⟨mt_1 199 rfl, List.forall_mem_cons.mpr ⟨mt_1 200 rfl, List.forall_mem_cons.mpr ⟨mt_1 201 rfl, List.forall_mem_cons.mpr ⟨mt_1 202 rfl, List.forall_mem_cons.mpr ⟨mt_1 22 rfl, List.forall_mem_cons.mpr ⟨mt_1 23 rfl, List.forall_mem_cons.mpr ⟨mt_1 24 rfl, List.forall_mem_cons.mpr ⟨mt_1 35 rfl, fun _ h => absurd h List.not_mem_nil⟩⟩⟩⟩⟩⟩⟩⟩⟩⟩⟩⟩⟩⟩⟩⟩⟩⟩⟩⟩⟩⟩⟩⟩⟩⟩⟩⟩⟩⟩⟩⟩⟩⟩⟩⟩⟩⟩⟩⟩
set_option maxRecDepth 20000 in
theorem gTg_1 : gT_1.all goodWord = true := by decide +kernel
def gT_2 : List Cond := [Cond.fieldLink RX3 9 "LemonMarket$Tape" "bytes" "[B", Cond.methodLink RX5 18 yX0_init, Cond.instanceMethod yX0_init, Cond.code yX0_init cX0_init 2 none, Cond.methodLink RX0 3 objectInit, Cond.fieldLink RX0 9 "LemonMarket$Reader" "tape" "LLemonMarket$Tape;", Cond.instanceMethod yX4_init, Cond.code yX4_init cX4_init 1 none, Cond.methodLink RX4 3 objectInit, Cond.arrayClass .int, Cond.fieldLink RX4 9 "LemonMarket$Trade" "partsOf" "[I", Cond.instanceMethod yX1_init, Cond.code yX1_init cX1_init 1 none, Cond.methodLink RX1 3 objectInit, Cond.fieldLink RX1 9 "LemonMarket$Sheet" "cells" "[I", Cond.fieldLink RX1 15 "LemonMarket$Sheet" "size" "I", Cond.instanceMethod yX2_init, Cond.code yX2_init cX2_init 1 none, Cond.methodLink RX2 3 objectInit, Cond.fieldLink RX2 9 "LemonMarket$Stock" "many" "[I", Cond.fieldLink RX2 15 "LemonMarket$Stock" "has" "[I", Cond.fieldLink RX2 18 "LemonMarket$Stock" "would" "[I", Cond.fieldLink RX2 21 "LemonMarket$Stock" "fail" "[I", Cond.fieldLink RX2 24 "LemonMarket$Stock" "must" "[I", Cond.methodLink RX5 46 yX2_clear, Cond.instanceMethod yX2_clear, Cond.selects RX2 yX2_clear yX2_clear, Cond.code yX2_clear cX2_clear 1 none, Cond.fieldLink RX2 27 "LemonMarket$Stock" "size" "I", Cond.fieldLink RX2 31 "LemonMarket$Stock" "mark" "I", Cond.fieldLink RX2 34 "LemonMarket$Stock" "look" "I", Cond.fieldLink RX2 37 "LemonMarket$Stock" "pay" "I", Cond.fieldLink RX2 40 "LemonMarket$Stock" "keen" "I", Cond.methodLink RL 12 yX6_init, Cond.instanceMethod yX6_init, Cond.code yX6_init cX6_init 1 none, Cond.methodLink RX6 1 objectInit, Cond.fieldLink RX6 7 "LemonMarketModel" "tape" "[I", Cond.fieldLink RX6 13 "LemonMarketModel" "cuts" "[I", Cond.fieldLink RX6 16 "LemonMarketModel" "letters" "[I"]
set_option maxRecDepth 20000 in
theorem gTi_2 : ∀ w ∈ gT_2, w ∈ lw_tbl := List.forall_mem_cons.mpr ⟨mt_1 25 rfl, List.forall_mem_cons.mpr ⟨mt_1 38 rfl, List.forall_mem_cons.mpr ⟨mt_1 39 rfl, List.forall_mem_cons.mpr ⟨mt_1 40 rfl, List.forall_mem_cons.mpr ⟨mt_1 41 rfl, List.forall_mem_cons.mpr ⟨mt_1 42 rfl, List.forall_mem_cons.mpr ⟨mt_1 76 rfl, List.forall_mem_cons.mpr ⟨mt_1 77 rfl, List.forall_mem_cons.mpr ⟨mt_1 78 rfl, List.forall_mem_cons.mpr ⟨mt_1 108 rfl, List.forall_mem_cons.mpr ⟨mt_1 79 rfl, List.forall_mem_cons.mpr ⟨mt_1 113 rfl, List.forall_mem_cons.mpr ⟨mt_1 114 rfl, List.forall_mem_cons.mpr ⟨mt_1 115 rfl, List.forall_mem_cons.mpr ⟨mt_1 116 rfl, List.forall_mem_cons.mpr ⟨mt_1 118 rfl, List.forall_mem_cons.mpr ⟨mt_1 132 rfl, List.forall_mem_cons.mpr ⟨mt_1 133 rfl, List.forall_mem_cons.mpr ⟨mt_1 134 rfl, List.forall_mem_cons.mpr ⟨mt_1 135 rfl, List.forall_mem_cons.mpr ⟨mt_1 139 rfl, List.forall_mem_cons.mpr ⟨mt_1 142 rfl, List.forall_mem_cons.mpr ⟨mt_1 145 rfl, List.forall_mem_cons.mpr ⟨mt_1 148 rfl, List.forall_mem_cons.mpr ⟨mt_1 191 rfl, List.forall_mem_cons.mpr ⟨mt_1 192 rfl, List.forall_mem_cons.mpr ⟨mt_1 193 rfl, List.forall_mem_cons.mpr ⟨mt_1 194 rfl, List.forall_mem_cons.mpr ⟨mt_1 152 rfl, List.forall_mem_cons.mpr ⟨mt_1 156 rfl, List.forall_mem_cons.mpr ⟨mt_1 159 rfl, List.forall_mem_cons.mpr ⟨mt_1 163 rfl, List.forall_mem_cons.mpr ⟨mt_1 167 rfl, List.forall_mem_cons.mpr ⟨mt_3 143 rfl, List.forall_mem_cons.mpr ⟨mt_3 144 rfl, List.forall_mem_cons.mpr ⟨mt_3 145 rfl, List.forall_mem_cons.mpr ⟨mt_3 146 rfl, List.forall_mem_cons.mpr ⟨mt_3 147 rfl, List.forall_mem_cons.mpr ⟨mt_3 156 rfl, List.forall_mem_cons.mpr ⟨mt_3 157 rfl, fun _ h => absurd h List.not_mem_nil⟩⟩⟩⟩⟩⟩⟩⟩⟩⟩⟩⟩⟩⟩⟩⟩⟩⟩⟩⟩⟩⟩⟩⟩⟩⟩⟩⟩⟩⟩⟩⟩⟩⟩⟩⟩⟩⟩⟩⟩
set_option maxRecDepth 20000 in
theorem gTg_2 : gT_2.all goodWord = true := by decide +kernel
def gT_3 : List Cond := [Cond.fieldLink RX6 19 "LemonMarketModel" "sorts" "[I", Cond.fieldLink RX6 22 "LemonMarketModel" "readSorts" "[I", Cond.fieldLink RX6 25 "LemonMarketModel" "rules" "[I", Cond.fieldLink RX6 28 "LemonMarketModel" "readRules" "[I", Cond.fieldLink RX6 31 "LemonMarketModel" "leftOut" "I", Cond.fieldLink RX6 35 "LemonMarketModel" "come" "[I", Cond.fieldLink RX6 38 "LemonMarketModel" "soldOf" "[I", Cond.fieldLink RX6 41 "LemonMarketModel" "lanes" "[I", Cond.fieldLink RX6 44 "LemonMarketModel" "lengths" "[I", Cond.fieldLink RX6 47 "LemonMarketModel" "cells" "[I", Cond.methodLink RL 15 yX5_feed, Cond.instanceMethod yX5_feed, Cond.selects RX5 yX5_feed yX5_feed, Cond.code yX5_feed cX5_feed 4 (some .int), Cond.fieldLink RX5 59 "LemonMarket$Tape" "size" "I", Cond.fieldLink RX5 62 "LemonMarket$Tape" "bytes" "[B", Cond.methodLink RL 19 yX6_feed, Cond.instanceMethod yX6_feed, Cond.selects RX6 yX6_feed yX6_feed, Cond.code yX6_feed cX6_feed 4 (some .int), Cond.fieldLink RX6 50 "LemonMarketModel" "taped" "I", Cond.methodLink RL 20 yX5_end, Cond.instanceMethod yX5_end, Cond.selects RX5 yX5_end yX5_end, Cond.code yX5_end cX5_end 3 (some .int), Cond.methodLink RX5 66 yX5_isWithin, Cond.static yX5_isWithin, Cond.code yX5_isWithin cX5_isWithin 3 (some .boolean), Cond.methodLink RL 24 yX6_end, Cond.instanceMethod yX6_end, Cond.selects RX6 yX6_end yX6_end, Cond.code yX6_end cX6_end 3 (some .int), Cond.methodLink RX6 53 yX6_in, Cond.static yX6_in, Cond.code yX6_in cX6_in 6 (some .boolean), Cond.methodLink RL 25 yX5_text, Cond.instanceMethod yX5_text, Cond.selects RX5 yX5_text yX5_text, Cond.code yX5_text cX5_text 2 (some .int), Cond.fieldLink RX5 74 "LemonMarket$Reader" "fault" "I"]
set_option maxRecDepth 20000 in
theorem gTi_3 : ∀ w ∈ gT_3, w ∈ lw_tbl := List.forall_mem_cons.mpr ⟨mt_3 158 rfl, List.forall_mem_cons.mpr ⟨mt_3 160 rfl, List.forall_mem_cons.mpr ⟨mt_3 162 rfl, List.forall_mem_cons.mpr ⟨mt_3 163 rfl, List.forall_mem_cons.mpr ⟨mt_3 165 rfl, List.forall_mem_cons.mpr ⟨mt_3 168 rfl, List.forall_mem_cons.mpr ⟨mt_3 169 rfl, List.forall_mem_cons.mpr ⟨mt_3 177 rfl, List.forall_mem_cons.mpr ⟨mt_3 178 rfl, List.forall_mem_cons.mpr ⟨mt_3 179 rfl, List.forall_mem_cons.mpr ⟨mt_1 220 rfl, List.forall_mem_cons.mpr ⟨mt_1 221 rfl, List.forall_mem_cons.mpr ⟨mt_1 222 rfl, List.forall_mem_cons.mpr ⟨mt_1 223 rfl, List.forall_mem_cons.mpr ⟨mt_1 28 rfl, List.forall_mem_cons.mpr ⟨mt_1 26 rfl, List.forall_mem_cons.mpr ⟨mt_4 10 rfl, List.forall_mem_cons.mpr ⟨mt_4 11 rfl, List.forall_mem_cons.mpr ⟨mt_4 12 rfl, List.forall_mem_cons.mpr ⟨mt_4 13 rfl, List.forall_mem_cons.mpr ⟨mt_3 148 rfl, List.forall_mem_cons.mpr ⟨mt_1 224 rfl, List.forall_mem_cons.mpr ⟨mt_1 225 rfl, List.forall_mem_cons.mpr ⟨mt_1 226 rfl, List.forall_mem_cons.mpr ⟨mt_1 227 rfl, List.forall_mem_cons.mpr ⟨mt_1 228 rfl, List.forall_mem_cons.mpr ⟨mt_1 229 rfl, List.forall_mem_cons.mpr ⟨mt_1 230 rfl, List.forall_mem_cons.mpr ⟨mt_4 14 rfl, List.forall_mem_cons.mpr ⟨mt_4 15 rfl, List.forall_mem_cons.mpr ⟨mt_4 16 rfl, List.forall_mem_cons.mpr ⟨mt_4 17 rfl, List.forall_mem_cons.mpr ⟨mt_4 18 rfl, List.forall_mem_cons.mpr ⟨mt_4 19 rfl, List.forall_mem_cons.mpr ⟨mt_4 20 rfl, List.forall_mem_cons.mpr ⟨mt_1 231 rfl, List.forall_mem_cons.mpr ⟨mt_1 232 rfl, List.forall_mem_cons.mpr ⟨mt_1 233 rfl, List.forall_mem_cons.mpr ⟨mt_1 234 rfl, List.forall_mem_cons.mpr ⟨mt_1 44 rfl, fun _ h => absurd h List.not_mem_nil⟩⟩⟩⟩⟩⟩⟩⟩⟩⟩⟩⟩⟩⟩⟩⟩⟩⟩⟩⟩⟩⟩⟩⟩⟩⟩⟩⟩⟩⟩⟩⟩⟩⟩⟩⟩⟩⟩⟩⟩
set_option maxRecDepth 20000 in
theorem gTg_3 : gT_3.all goodWord = true := by decide +kernel
def gT_4 : List Cond := [Cond.fieldLink RX5 77 "LemonMarket$Reader" "faultPlace" "I", Cond.fieldLink RX5 80 "LemonMarket$Reader" "lines" "I", Cond.methodLink RX5 70 yX0_readInto, Cond.instanceMethod yX0_readInto, Cond.selects RX0 yX0_readInto yX0_readInto, Cond.code yX0_readInto cX0_readInto 3 none, Cond.fieldLink RX0 15 "LemonMarket$Reader" "fault" "I", Cond.fieldLink RX0 19 "LemonMarket$Reader" "faultPlace" "I", Cond.fieldLink RX0 22 "LemonMarket$Reader" "lines" "I", Cond.fieldLink RX0 25 "LemonMarket$Reader" "place" "I", Cond.fieldLink RX0 28 "LemonMarket$Reader" "told" "I", Cond.fieldLink RX0 36 "LemonMarket$Reader" "token" "I", Cond.methodLink RX0 31 yX0_readToken, Cond.instanceMethod yX0_readToken, Cond.selects RX0 yX0_readToken yX0_readToken, Cond.code yX0_readToken cX0_readToken 3 none, Cond.fieldLink RX0 113 "LemonMarket$Reader" "tokenPlace" "I", Cond.fieldLink RX0 120 "LemonMarket$Tape" "size" "I", Cond.fieldLink RX0 121 "LemonMarket$Tape" "bytes" "[B", Cond.fieldLink RX0 47 "LemonMarket$Reader" "value" "I", Cond.methodLink RX0 116 yX0_endOfRun, Cond.instanceMethod yX0_endOfRun, Cond.selects RX0 yX0_endOfRun yX0_endOfRun, Cond.code yX0_endOfRun cX0_endOfRun 5 (some .int), Cond.methodLink RX0 125 yX0_nameAtHand, Cond.instanceMethod yX0_nameAtHand, Cond.selects RX0 yX0_nameAtHand yX0_nameAtHand, Cond.code yX0_nameAtHand cX0_nameAtHand 3 (some .int), Cond.methodLink RX0 129 yX0_isKnown, Cond.static yX0_isKnown, Cond.code yX0_isKnown cX0_isKnown 1 (some .boolean), Cond.methodLink RX0 133 yX0_numberAtHand, Cond.instanceMethod yX0_numberAtHand, Cond.selects RX0 yX0_numberAtHand yX0_numberAtHand, Cond.code yX0_numberAtHand cX0_numberAtHand 3 (some .int), Cond.methodLink RX0 43 yX0_refuse, Cond.instanceMethod yX0_refuse, Cond.selects RX0 yX0_refuse yX0_refuse, Cond.code yX0_refuse cX0_refuse 2 none, Cond.methodLink RX0 39 yX0_takeLine]
set_option maxRecDepth 20000 in
theorem gTi_4 : ∀ w ∈ gT_4, w ∈ lw_tbl := List.forall_mem_cons.mpr ⟨mt_1 46 rfl, List.forall_mem_cons.mpr ⟨mt_1 48 rfl, List.forall_mem_cons.mpr ⟨mt_1 235 rfl, List.forall_mem_cons.mpr ⟨mt_1 236 rfl, List.forall_mem_cons.mpr ⟨mt_1 237 rfl, List.forall_mem_cons.mpr ⟨mt_1 238 rfl, List.forall_mem_cons.mpr ⟨mt_1 43 rfl, List.forall_mem_cons.mpr ⟨mt_1 45 rfl, List.forall_mem_cons.mpr ⟨mt_1 47 rfl, List.forall_mem_cons.mpr ⟨mt_1 49 rfl, List.forall_mem_cons.mpr ⟨mt_1 50 rfl, List.forall_mem_cons.mpr ⟨mt_1 51 rfl, List.forall_mem_cons.mpr ⟨mt_1 239 rfl, List.forall_mem_cons.mpr ⟨mt_2 1 rfl, List.forall_mem_cons.mpr ⟨mt_0 0 rfl, List.forall_mem_cons.mpr ⟨mt_2 2 rfl, List.forall_mem_cons.mpr ⟨mt_1 52 rfl, List.forall_mem_cons.mpr ⟨mt_1 29 rfl, List.forall_mem_cons.mpr ⟨mt_1 27 rfl, List.forall_mem_cons.mpr ⟨mt_1 53 rfl, List.forall_mem_cons.mpr ⟨mt_2 3 rfl, List.forall_mem_cons.mpr ⟨mt_2 5 rfl, List.forall_mem_cons.mpr ⟨mt_0 1 rfl, List.forall_mem_cons.mpr ⟨mt_2 6 rfl, List.forall_mem_cons.mpr ⟨mt_2 8 rfl, List.forall_mem_cons.mpr ⟨mt_2 10 rfl, List.forall_mem_cons.mpr ⟨mt_0 2 rfl, List.forall_mem_cons.mpr ⟨mt_2 11 rfl, List.forall_mem_cons.mpr ⟨mt_2 12 rfl, List.forall_mem_cons.mpr ⟨mt_2 13 rfl, List.forall_mem_cons.mpr ⟨mt_2 14 rfl, List.forall_mem_cons.mpr ⟨mt_2 15 rfl, List.forall_mem_cons.mpr ⟨mt_2 17 rfl, List.forall_mem_cons.mpr ⟨mt_0 3 rfl, List.forall_mem_cons.mpr ⟨mt_2 18 rfl, List.forall_mem_cons.mpr ⟨mt_2 19 rfl, List.forall_mem_cons.mpr ⟨mt_2 21 rfl, List.forall_mem_cons.mpr ⟨mt_0 4 rfl, List.forall_mem_cons.mpr ⟨mt_2 22 rfl, List.forall_mem_cons.mpr ⟨mt_2 23 rfl, fun _ h => absurd h List.not_mem_nil⟩⟩⟩⟩⟩⟩⟩⟩⟩⟩⟩⟩⟩⟩⟩⟩⟩⟩⟩⟩⟩⟩⟩⟩⟩⟩⟩⟩⟩⟩⟩⟩⟩⟩⟩⟩⟩⟩⟩⟩
set_option maxRecDepth 20000 in
theorem gTg_4 : gT_4.all goodWord = true := by decide +kernel
def gT_5 : List Cond := [Cond.instanceMethod yX0_takeLine, Cond.selects RX0 yX0_takeLine yX0_takeLine, Cond.code yX0_takeLine cX0_takeLine 2 none, Cond.methodLink RX0 50 yX0_takeSort, Cond.instanceMethod yX0_takeSort, Cond.selects RX0 yX0_takeSort yX0_takeSort, Cond.code yX0_takeSort cX0_takeSort 5 none, Cond.fieldLink RX0 71 "LemonMarket$Stock" "size" "I", Cond.methodLink RX0 76 yX0_takeNumber, Cond.instanceMethod yX0_takeNumber, Cond.selects RX0 yX0_takeNumber yX0_takeNumber, Cond.code yX0_takeNumber cX0_takeNumber 3 (some .int), Cond.methodLink RX0 80 yX2_add, Cond.instanceMethod yX2_add, Cond.selects RX2 yX2_add yX2_add, Cond.code yX2_add cX2_add 5 none, Cond.methodLink RX0 53 yX0_takeFail, Cond.instanceMethod yX0_takeFail, Cond.selects RX0 yX0_takeFail yX0_takeFail, Cond.code yX0_takeFail cX0_takeFail 3 none, Cond.fieldLink RX0 87 "LemonMarket$Stock" "fail" "[I", Cond.methodLink RX0 84 yX0_tellOnce, Cond.instanceMethod yX0_tellOnce, Cond.selects RX0 yX0_tellOnce yX0_tellOnce, Cond.code yX0_tellOnce cX0_tellOnce 2 none, Cond.methodLink RX0 56 yX0_takeMust, Cond.instanceMethod yX0_takeMust, Cond.selects RX0 yX0_takeMust yX0_takeMust, Cond.code yX0_takeMust cX0_takeMust 3 none, Cond.fieldLink RX0 91 "LemonMarket$Stock" "must" "[I", Cond.fieldLink RX0 94 "LemonMarket$Stock" "many" "[I", Cond.methodLink RX0 59 yX0_takeMark, Cond.instanceMethod yX0_takeMark, Cond.selects RX0 yX0_takeMark yX0_takeMark, Cond.code yX0_takeMark cX0_takeMark 2 none, Cond.fieldLink RX0 97 "LemonMarket$Stock" "mark" "I", Cond.methodLink RX0 62 yX0_takeLook, Cond.instanceMethod yX0_takeLook, Cond.selects RX0 yX0_takeLook yX0_takeLook, Cond.code yX0_takeLook cX0_takeLook 2 none]
set_option maxRecDepth 20000 in
theorem gTi_5 : ∀ w ∈ gT_5, w ∈ lw_tbl := List.forall_mem_cons.mpr ⟨mt_2 25 rfl, List.forall_mem_cons.mpr ⟨mt_0 5 rfl, List.forall_mem_cons.mpr ⟨mt_2 26 rfl, List.forall_mem_cons.mpr ⟨mt_2 27 rfl, List.forall_mem_cons.mpr ⟨mt_2 29 rfl, List.forall_mem_cons.mpr ⟨mt_0 6 rfl, List.forall_mem_cons.mpr ⟨mt_2 30 rfl, List.forall_mem_cons.mpr ⟨mt_1 154 rfl, List.forall_mem_cons.mpr ⟨mt_2 31 rfl, List.forall_mem_cons.mpr ⟨mt_2 33 rfl, List.forall_mem_cons.mpr ⟨mt_0 7 rfl, List.forall_mem_cons.mpr ⟨mt_2 34 rfl, List.forall_mem_cons.mpr ⟨mt_2 35 rfl, List.forall_mem_cons.mpr ⟨mt_2 36 rfl, List.forall_mem_cons.mpr ⟨mt_2 37 rfl, List.forall_mem_cons.mpr ⟨mt_2 38 rfl, List.forall_mem_cons.mpr ⟨mt_2 39 rfl, List.forall_mem_cons.mpr ⟨mt_2 41 rfl, List.forall_mem_cons.mpr ⟨mt_0 8 rfl, List.forall_mem_cons.mpr ⟨mt_2 42 rfl, List.forall_mem_cons.mpr ⟨mt_1 147 rfl, List.forall_mem_cons.mpr ⟨mt_2 43 rfl, List.forall_mem_cons.mpr ⟨mt_2 45 rfl, List.forall_mem_cons.mpr ⟨mt_0 9 rfl, List.forall_mem_cons.mpr ⟨mt_2 46 rfl, List.forall_mem_cons.mpr ⟨mt_2 47 rfl, List.forall_mem_cons.mpr ⟨mt_2 49 rfl, List.forall_mem_cons.mpr ⟨mt_0 10 rfl, List.forall_mem_cons.mpr ⟨mt_2 50 rfl, List.forall_mem_cons.mpr ⟨mt_1 150 rfl, List.forall_mem_cons.mpr ⟨mt_1 137 rfl, List.forall_mem_cons.mpr ⟨mt_2 51 rfl, List.forall_mem_cons.mpr ⟨mt_2 53 rfl, List.forall_mem_cons.mpr ⟨mt_0 11 rfl, List.forall_mem_cons.mpr ⟨mt_2 54 rfl, List.forall_mem_cons.mpr ⟨mt_1 157 rfl, List.forall_mem_cons.mpr ⟨mt_2 55 rfl, List.forall_mem_cons.mpr ⟨mt_2 57 rfl, List.forall_mem_cons.mpr ⟨mt_0 12 rfl, List.forall_mem_cons.mpr ⟨mt_2 58 rfl, fun _ h => absurd h List.not_mem_nil⟩⟩⟩⟩⟩⟩⟩⟩⟩⟩⟩⟩⟩⟩⟩⟩⟩⟩⟩⟩⟩⟩⟩⟩⟩⟩⟩⟩⟩⟩⟩⟩⟩⟩⟩⟩⟩⟩⟩⟩
set_option maxRecDepth 20000 in
theorem gTg_5 : gT_5.all goodWord = true := by decide +kernel
def gT_6 : List Cond := [Cond.fieldLink RX0 100 "LemonMarket$Stock" "look" "I", Cond.fieldLink RX0 103 "LemonMarket$Stock" "pay" "I", Cond.methodLink RX0 65 yX0_takeKeen, Cond.instanceMethod yX0_takeKeen, Cond.selects RX0 yX0_takeKeen yX0_takeKeen, Cond.code yX0_takeKeen cX0_takeKeen 2 none, Cond.fieldLink RX0 106 "LemonMarket$Stock" "keen" "I", Cond.methodLink RX0 68 yX0_takeStop, Cond.instanceMethod yX0_takeStop, Cond.selects RX0 yX0_takeStop yX0_takeStop, Cond.code yX0_takeStop cX0_takeStop 1 none, Cond.methodLink RL 29 yX6_text, Cond.instanceMethod yX6_text, Cond.selects RX6 yX6_text yX6_text, Cond.code yX6_text cX6_text 3 (some .int), Cond.fieldLink RX6 57 "LemonMarketModel" "wrong" "I", Cond.fieldLink RX6 70 "LemonMarketModel" "spot" "I", Cond.fieldLink RX6 108 "LemonMarketModel" "toldOnes" "I", Cond.fieldLink RX6 101 "LemonMarketModel" "readMany" "I", Cond.fieldLink RX6 76 "LemonMarketModel" "token" "I", Cond.fieldLink RX6 120 "LemonMarketModel" "fault" "I", Cond.fieldLink RX6 63 "LemonMarketModel" "wrongAt" "I", Cond.fieldLink RX6 123 "LemonMarketModel" "sortMany" "I", Cond.methodLink RX6 95 yX6_next, Cond.instanceMethod yX6_next, Cond.selects RX6 yX6_next yX6_next, Cond.code yX6_next cX6_next 2 none, Cond.fieldLink RX6 60 "LemonMarketModel" "place" "I", Cond.fieldLink RX6 73 "LemonMarketModel" "value" "I", Cond.constantLong RX6 79 (97), Cond.constantLong RX6 81 (122), Cond.constantLong RX6 91 (48), Cond.constantLong RX6 93 (57), Cond.methodLink RX6 66 yX6_byteAt, Cond.instanceMethod yX6_byteAt, Cond.selects RX6 yX6_byteAt yX6_byteAt, Cond.code yX6_byteAt cX6_byteAt 2 (some .int), Cond.methodLink RX6 83 yX6_nameAt, Cond.instanceMethod yX6_nameAt, Cond.selects RX6 yX6_nameAt yX6_nameAt]
set_option maxRecDepth 20000 in
theorem gTi_6 : ∀ w ∈ gT_6, w ∈ lw_tbl := List.forall_mem_cons.mpr ⟨mt_1 161 rfl, List.forall_mem_cons.mpr ⟨mt_1 165 rfl, List.forall_mem_cons.mpr ⟨mt_2 59 rfl, List.forall_mem_cons.mpr ⟨mt_2 61 rfl, List.forall_mem_cons.mpr ⟨mt_0 13 rfl, List.forall_mem_cons.mpr ⟨mt_2 62 rfl, List.forall_mem_cons.mpr ⟨mt_1 168 rfl, List.forall_mem_cons.mpr ⟨mt_2 63 rfl, List.forall_mem_cons.mpr ⟨mt_2 65 rfl, List.forall_mem_cons.mpr ⟨mt_0 14 rfl, List.forall_mem_cons.mpr ⟨mt_2 66 rfl, List.forall_mem_cons.mpr ⟨mt_4 21 rfl, List.forall_mem_cons.mpr ⟨mt_4 22 rfl, List.forall_mem_cons.mpr ⟨mt_4 23 rfl, List.forall_mem_cons.mpr ⟨mt_4 24 rfl, List.forall_mem_cons.mpr ⟨mt_3 150 rfl, List.forall_mem_cons.mpr ⟨mt_3 152 rfl, List.forall_mem_cons.mpr ⟨mt_3 164 rfl, List.forall_mem_cons.mpr ⟨mt_3 161 rfl, List.forall_mem_cons.mpr ⟨mt_3 154 rfl, List.forall_mem_cons.mpr ⟨mt_3 149 rfl, List.forall_mem_cons.mpr ⟨mt_3 151 rfl, List.forall_mem_cons.mpr ⟨mt_3 159 rfl, List.forall_mem_cons.mpr ⟨mt_4 25 rfl, List.forall_mem_cons.mpr ⟨mt_4 27 rfl, List.forall_mem_cons.mpr ⟨mt_0 23 rfl, List.forall_mem_cons.mpr ⟨mt_4 28 rfl, List.forall_mem_cons.mpr ⟨mt_3 153 rfl, List.forall_mem_cons.mpr ⟨mt_3 155 rfl, List.forall_mem_cons.mpr ⟨mt_4 33 rfl, List.forall_mem_cons.mpr ⟨mt_4 34 rfl, List.forall_mem_cons.mpr ⟨mt_4 43 rfl, List.forall_mem_cons.mpr ⟨mt_4 44 rfl, List.forall_mem_cons.mpr ⟨mt_4 29 rfl, List.forall_mem_cons.mpr ⟨mt_4 31 rfl, List.forall_mem_cons.mpr ⟨mt_0 24 rfl, List.forall_mem_cons.mpr ⟨mt_4 32 rfl, List.forall_mem_cons.mpr ⟨mt_4 35 rfl, List.forall_mem_cons.mpr ⟨mt_4 37 rfl, List.forall_mem_cons.mpr ⟨mt_0 25 rfl, fun _ h => absurd h List.not_mem_nil⟩⟩⟩⟩⟩⟩⟩⟩⟩⟩⟩⟩⟩⟩⟩⟩⟩⟩⟩⟩⟩⟩⟩⟩⟩⟩⟩⟩⟩⟩⟩⟩⟩⟩⟩⟩⟩⟩⟩⟩
set_option maxRecDepth 20000 in
theorem gTg_6 : gT_6.all goodWord = true := by decide +kernel
def gT_7 : List Cond := [Cond.code yX6_nameAt cX6_nameAt 6 (some .int), Cond.methodLink RX6 87 yX6_fails, Cond.instanceMethod yX6_fails, Cond.selects RX6 yX6_fails yX6_fails, Cond.code yX6_fails cX6_fails 2 none, Cond.methodLink RX6 117 yX6_readLine, Cond.instanceMethod yX6_readLine, Cond.selects RX6 yX6_readLine yX6_readLine, Cond.code yX6_readLine cX6_readLine 3 none, Cond.methodLink RX6 111 yX6_readSort, Cond.instanceMethod yX6_readSort, Cond.selects RX6 yX6_readSort yX6_readSort, Cond.code yX6_readSort cX6_readSort 4 none, Cond.methodLink RX6 98 yX6_number, Cond.instanceMethod yX6_number, Cond.selects RX6 yX6_number yX6_number, Cond.code yX6_number cX6_number 3 (some .int), Cond.methodLink RX6 104 yX6_layRow, Cond.static yX6_layRow, Cond.code yX6_layRow cX6_layRow 6 none, Cond.methodLink RX6 114 yX6_readOf, Cond.instanceMethod yX6_readOf, Cond.selects RX6 yX6_readOf yX6_readOf, Cond.code yX6_readOf cX6_readOf 5 none, Cond.methodLink RL 30 yX5_fault, Cond.instanceMethod yX5_fault, Cond.selects RX5 yX5_fault yX5_fault, Cond.code yX5_fault cX5_fault 1 (some .int), Cond.methodLink RL 33 yX6_fault, Cond.instanceMethod yX6_fault, Cond.selects RX6 yX6_fault yX6_fault, Cond.code yX6_fault cX6_fault 1 (some .int), Cond.methodLink RL 34 yX5_sort, Cond.instanceMethod yX5_sort, Cond.selects RX5 yX5_sort yX5_sort, Cond.code yX5_sort cX5_sort 4 (some .int), Cond.fieldLink RX5 87 "LemonMarket$Stock" "size" "I", Cond.methodLink RX5 83 yX5_isSortAsTold, Cond.static yX5_isSortAsTold, Cond.code yX5_isSortAsTold cX5_isSortAsTold 4 (some .boolean)]
set_option maxRecDepth 20000 in
theorem gTi_7 : ∀ w ∈ gT_7, w ∈ lw_tbl := List.forall_mem_cons.mpr ⟨mt_4 38 rfl, List.forall_mem_cons.mpr ⟨mt_4 39 rfl, List.forall_mem_cons.mpr ⟨mt_4 41 rfl, List.forall_mem_cons.mpr ⟨mt_0 26 rfl, List.forall_mem_cons.mpr ⟨mt_4 42 rfl, List.forall_mem_cons.mpr ⟨mt_4 45 rfl, List.forall_mem_cons.mpr ⟨mt_4 47 rfl, List.forall_mem_cons.mpr ⟨mt_0 27 rfl, List.forall_mem_cons.mpr ⟨mt_4 48 rfl, List.forall_mem_cons.mpr ⟨mt_4 49 rfl, List.forall_mem_cons.mpr ⟨mt_4 51 rfl, List.forall_mem_cons.mpr ⟨mt_0 28 rfl, List.forall_mem_cons.mpr ⟨mt_4 52 rfl, List.forall_mem_cons.mpr ⟨mt_4 53 rfl, List.forall_mem_cons.mpr ⟨mt_4 55 rfl, List.forall_mem_cons.mpr ⟨mt_0 29 rfl, List.forall_mem_cons.mpr ⟨mt_4 56 rfl, List.forall_mem_cons.mpr ⟨mt_4 57 rfl, List.forall_mem_cons.mpr ⟨mt_4 58 rfl, List.forall_mem_cons.mpr ⟨mt_4 59 rfl, List.forall_mem_cons.mpr ⟨mt_4 60 rfl, List.forall_mem_cons.mpr ⟨mt_4 62 rfl, List.forall_mem_cons.mpr ⟨mt_0 30 rfl, List.forall_mem_cons.mpr ⟨mt_4 63 rfl, List.forall_mem_cons.mpr ⟨mt_2 67 rfl, List.forall_mem_cons.mpr ⟨mt_2 68 rfl, List.forall_mem_cons.mpr ⟨mt_2 69 rfl, List.forall_mem_cons.mpr ⟨mt_2 70 rfl, List.forall_mem_cons.mpr ⟨mt_4 64 rfl, List.forall_mem_cons.mpr ⟨mt_4 65 rfl, List.forall_mem_cons.mpr ⟨mt_4 66 rfl, List.forall_mem_cons.mpr ⟨mt_4 67 rfl, List.forall_mem_cons.mpr ⟨mt_2 71 rfl, List.forall_mem_cons.mpr ⟨mt_2 72 rfl, List.forall_mem_cons.mpr ⟨mt_2 73 rfl, List.forall_mem_cons.mpr ⟨mt_2 74 rfl, List.forall_mem_cons.mpr ⟨mt_1 155 rfl, List.forall_mem_cons.mpr ⟨mt_2 75 rfl, List.forall_mem_cons.mpr ⟨mt_2 76 rfl, List.forall_mem_cons.mpr ⟨mt_2 77 rfl, fun _ h => absurd h List.not_mem_nil⟩⟩⟩⟩⟩⟩⟩⟩⟩⟩⟩⟩⟩⟩⟩⟩⟩⟩⟩⟩⟩⟩⟩⟩⟩⟩⟩⟩⟩⟩⟩⟩⟩⟩⟩⟩⟩⟩⟩⟩
set_option maxRecDepth 20000 in
theorem gTg_7 : gT_7.all goodWord = true := by decide +kernel
def gT_8 : List Cond := [Cond.methodLink RX5 88 yX2_add, Cond.methodLink RL 38 yX6_sort, Cond.instanceMethod yX6_sort, Cond.selects RX6 yX6_sort yX6_sort, Cond.code yX6_sort cX6_sort 4 (some .int), Cond.methodLink RX6 132 yX6_isAsTold, Cond.static yX6_isAsTold, Cond.code yX6_isAsTold cX6_isAsTold 4 (some .boolean), Cond.constantLong RX6 126 (50), Cond.constantLong RX6 128 (99), Cond.constantLong RX6 130 (10), Cond.methodLink RL 39 yX5_set, Cond.instanceMethod yX5_set, Cond.selects RX5 yX5_set yX5_set, Cond.code yX5_set cX5_set 6 (some .int), Cond.methodLink RX5 92 yX5_isSort, Cond.instanceMethod yX5_isSort, Cond.selects RX5 yX5_isSort yX5_isSort, Cond.code yX5_isSort cX5_isSort 2 (some .boolean), Cond.methodLink RX5 96 yX2_allows, Cond.instanceMethod yX2_allows, Cond.selects RX2 yX2_allows yX2_allows, Cond.code yX2_allows cX2_allows 4 (some .boolean), Cond.methodLink RX2 57 Lib.Math.max.name, Cond.static Lib.Math.max.name, Cond.initialized "java/lang/Math", Cond.code Lib.Math.max.name Lib.Math.max.code 2 (some .int), Cond.methodLink RX5 99 yX2_row, Cond.instanceMethod yX2_row, Cond.selects RX2 yX2_row yX2_row, Cond.code yX2_row cX2_row 2 (some (.array .int)), Cond.methodLink RL 42 yX6_set, Cond.instanceMethod yX6_set, Cond.selects RX6 yX6_set yX6_set, Cond.code yX6_set cX6_set 7 (some .int), Cond.constantLong RX6 140 (4), Cond.methodLink RX6 136 yX6_isSort, Cond.instanceMethod yX6_isSort, Cond.selects RX6 yX6_isSort yX6_isSort, Cond.code yX6_isSort cX6_isSort 2 (some .boolean)]
set_option maxRecDepth 20000 in
theorem gTi_8 : ∀ w ∈ gT_8, w ∈ lw_tbl := List.forall_mem_cons.mpr ⟨mt_2 78 rfl, List.forall_mem_cons.mpr ⟨mt_4 68 rfl, List.forall_mem_cons.mpr ⟨mt_4 69 rfl, List.forall_mem_cons.mpr ⟨mt_4 70 rfl, List.forall_mem_cons.mpr ⟨mt_4 71 rfl, List.forall_mem_cons.mpr ⟨mt_4 72 rfl, List.forall_mem_cons.mpr ⟨mt_4 73 rfl, List.forall_mem_cons.mpr ⟨mt_4 74 rfl, List.forall_mem_cons.mpr ⟨mt_4 75 rfl, List.forall_mem_cons.mpr ⟨mt_4 76 rfl, List.forall_mem_cons.mpr ⟨mt_4 77 rfl, List.forall_mem_cons.mpr ⟨mt_2 79 rfl, List.forall_mem_cons.mpr ⟨mt_2 80 rfl, List.forall_mem_cons.mpr ⟨mt_2 81 rfl, List.forall_mem_cons.mpr ⟨mt_2 82 rfl, List.forall_mem_cons.mpr ⟨mt_2 83 rfl, List.forall_mem_cons.mpr ⟨mt_2 85 rfl, List.forall_mem_cons.mpr ⟨mt_0 15 rfl, List.forall_mem_cons.mpr ⟨mt_2 86 rfl, List.forall_mem_cons.mpr ⟨mt_2 87 rfl, List.forall_mem_cons.mpr ⟨mt_2 88 rfl, List.forall_mem_cons.mpr ⟨mt_2 89 rfl, List.forall_mem_cons.mpr ⟨mt_2 90 rfl, List.forall_mem_cons.mpr ⟨mt_2 91 rfl, List.forall_mem_cons.mpr ⟨mt_2 92 rfl, List.forall_mem_cons.mpr ⟨mt_1 8 rfl, List.forall_mem_cons.mpr ⟨mt_2 93 rfl, List.forall_mem_cons.mpr ⟨mt_2 95 rfl, List.forall_mem_cons.mpr ⟨mt_2 96 rfl, List.forall_mem_cons.mpr ⟨mt_2 97 rfl, List.forall_mem_cons.mpr ⟨mt_2 98 rfl, List.forall_mem_cons.mpr ⟨mt_4 78 rfl, List.forall_mem_cons.mpr ⟨mt_4 79 rfl, List.forall_mem_cons.mpr ⟨mt_4 80 rfl, List.forall_mem_cons.mpr ⟨mt_4 81 rfl, List.forall_mem_cons.mpr ⟨mt_4 86 rfl, List.forall_mem_cons.mpr ⟨mt_4 82 rfl, List.forall_mem_cons.mpr ⟨mt_4 84 rfl, List.forall_mem_cons.mpr ⟨mt_0 31 rfl, List.forall_mem_cons.mpr ⟨mt_4 85 rfl, fun _ h => absurd h List.not_mem_nil⟩⟩⟩⟩⟩⟩⟩⟩⟩⟩⟩⟩⟩⟩⟩⟩⟩⟩⟩⟩⟩⟩⟩⟩⟩⟩⟩⟩⟩⟩⟩⟩⟩⟩⟩⟩⟩⟩⟩⟩
set_option maxRecDepth 20000 in
theorem gTg_8 : gT_8.all goodWord = true := by decide +kernel
def gT_9 : List Cond := [Cond.methodLink RX6 142 yX6_its, Cond.instanceMethod yX6_its, Cond.selects RX6 yX6_its yX6_its, Cond.code yX6_its cX6_its 3 (some .int), Cond.methodLink RL 43 yX5_of, Cond.instanceMethod yX5_of, Cond.selects RX5 yX5_of yX5_of, Cond.code yX5_of cX5_of 3 (some .int), Cond.methodLink RX5 103 yX2_isGood, Cond.instanceMethod yX2_isGood, Cond.selects RX2 yX2_isGood yX2_isGood, Cond.code yX2_isGood cX2_isGood 2 (some .boolean), Cond.methodLink RL 47 yX6_of, Cond.instanceMethod yX6_of, Cond.selects RX6 yX6_of yX6_of, Cond.code yX6_of cX6_of 3 (some .int), Cond.constantLong RX6 145 (5), Cond.methodLink RX6 147 yX6_isGood, Cond.instanceMethod yX6_isGood, Cond.selects RX6 yX6_isGood yX6_isGood, Cond.code yX6_isGood cX6_isGood 2 (some .boolean), Cond.methodLink RL 48 yX5_rule, Cond.instanceMethod yX5_rule, Cond.selects RX5 yX5_rule yX5_rule, Cond.code yX5_rule cX5_rule 2 (some .int), Cond.fieldLink RX5 106 "LemonMarket$Stock" "mark" "I", Cond.fieldLink RX5 109 "LemonMarket$Stock" "look" "I", Cond.fieldLink RX5 112 "LemonMarket$Stock" "pay" "I", Cond.fieldLink RX5 115 "LemonMarket$Stock" "keen" "I", Cond.methodLink RL 51 yX6_rule, Cond.instanceMethod yX6_rule, Cond.selects RX6 yX6_rule yX6_rule, Cond.code yX6_rule cX6_rule 2 (some .int), Cond.constantLong RX6 150 (3), Cond.methodLink RL 52 yX5_comes, Cond.instanceMethod yX5_comes, Cond.selects RX5 yX5_comes yX5_comes, Cond.code yX5_comes cX5_comes 5 (some .int), Cond.fieldLink RX5 129 "LemonMarket$Trade" "whole" "I", Cond.fieldLink RX5 132 "LemonMarket$Trade" "horses" "I"]
set_option maxRecDepth 20000 in
theorem gTi_9 : ∀ w ∈ gT_9, w ∈ lw_tbl := List.forall_mem_cons.mpr ⟨mt_4 87 rfl, List.forall_mem_cons.mpr ⟨mt_4 89 rfl, List.forall_mem_cons.mpr ⟨mt_0 32 rfl, List.forall_mem_cons.mpr ⟨mt_4 90 rfl, List.forall_mem_cons.mpr ⟨mt_2 99 rfl, List.forall_mem_cons.mpr ⟨mt_2 100 rfl, List.forall_mem_cons.mpr ⟨mt_2 101 rfl, List.forall_mem_cons.mpr ⟨mt_2 102 rfl, List.forall_mem_cons.mpr ⟨mt_2 103 rfl, List.forall_mem_cons.mpr ⟨mt_2 104 rfl, List.forall_mem_cons.mpr ⟨mt_2 105 rfl, List.forall_mem_cons.mpr ⟨mt_2 106 rfl, List.forall_mem_cons.mpr ⟨mt_4 91 rfl, List.forall_mem_cons.mpr ⟨mt_4 92 rfl, List.forall_mem_cons.mpr ⟨mt_4 93 rfl, List.forall_mem_cons.mpr ⟨mt_4 94 rfl, List.forall_mem_cons.mpr ⟨mt_4 95 rfl, List.forall_mem_cons.mpr ⟨mt_4 96 rfl, List.forall_mem_cons.mpr ⟨mt_4 98 rfl, List.forall_mem_cons.mpr ⟨mt_0 33 rfl, List.forall_mem_cons.mpr ⟨mt_4 99 rfl, List.forall_mem_cons.mpr ⟨mt_2 107 rfl, List.forall_mem_cons.mpr ⟨mt_2 108 rfl, List.forall_mem_cons.mpr ⟨mt_2 109 rfl, List.forall_mem_cons.mpr ⟨mt_2 110 rfl, List.forall_mem_cons.mpr ⟨mt_1 158 rfl, List.forall_mem_cons.mpr ⟨mt_1 162 rfl, List.forall_mem_cons.mpr ⟨mt_1 166 rfl, List.forall_mem_cons.mpr ⟨mt_1 169 rfl, List.forall_mem_cons.mpr ⟨mt_4 100 rfl, List.forall_mem_cons.mpr ⟨mt_4 101 rfl, List.forall_mem_cons.mpr ⟨mt_4 102 rfl, List.forall_mem_cons.mpr ⟨mt_4 103 rfl, List.forall_mem_cons.mpr ⟨mt_4 104 rfl, List.forall_mem_cons.mpr ⟨mt_2 111 rfl, List.forall_mem_cons.mpr ⟨mt_2 112 rfl, List.forall_mem_cons.mpr ⟨mt_2 113 rfl, List.forall_mem_cons.mpr ⟨mt_2 114 rfl, List.forall_mem_cons.mpr ⟨mt_1 82 rfl, List.forall_mem_cons.mpr ⟨mt_1 84 rfl, fun _ h => absurd h List.not_mem_nil⟩⟩⟩⟩⟩⟩⟩⟩⟩⟩⟩⟩⟩⟩⟩⟩⟩⟩⟩⟩⟩⟩⟩⟩⟩⟩⟩⟩⟩⟩⟩⟩⟩⟩⟩⟩⟩⟩⟩⟩
set_option maxRecDepth 20000 in
theorem gTg_9 : gT_9.all goodWord = true := by decide +kernel
def gT_10 : List Cond := [Cond.fieldLink RX5 135 "LemonMarket$Trade" "parts" "I", Cond.methodLink RX5 118 yX5_isOffer, Cond.static yX5_isOffer, Cond.code yX5_isOffer cX5_isOffer 2 (some .boolean), Cond.methodLink RX5 122 yX5_isPrice, Cond.static yX5_isPrice, Cond.code yX5_isPrice cX5_isPrice 1 (some .boolean), Cond.methodLink RX5 125 yX4_make, Cond.instanceMethod yX4_make, Cond.selects RX4 yX4_make yX4_make, Cond.code yX4_make cX4_make 10 none, Cond.fieldLink RX4 15 "LemonMarket$Trade" "whole" "I", Cond.fieldLink RX4 19 "LemonMarket$Trade" "horses" "I", Cond.fieldLink RX4 22 "LemonMarket$Trade" "parts" "I", Cond.fieldLink RX4 25 "LemonMarket$Trade" "tenths" "I", Cond.fieldLink RX4 28 "LemonMarket$Trade" "gained" "I", Cond.fieldLink RX4 31 "LemonMarket$Trade" "lost" "I", Cond.fieldLink RX4 40 "LemonMarket$Stock" "size" "I", Cond.fieldLink RX4 47 "LemonMarket$Stock" "must" "[I", Cond.fieldLink RX4 50 "LemonMarket$Stock" "many" "[I", Cond.fieldLink RX4 61 "LemonMarket$Stock" "pay" "I", Cond.methodLink RX4 34 yX2_comesAsHeap, Cond.instanceMethod yX2_comesAsHeap, Cond.selects RX2 yX2_comesAsHeap yX2_comesAsHeap, Cond.code yX2_comesAsHeap cX2_comesAsHeap 4 (some .boolean), Cond.methodLink RX4 43 yX4_isWhole, Cond.static yX4_isWhole, Cond.code yX4_isWhole cX4_isWhole 6 (some .boolean), Cond.fieldLink RX4 68 "LemonMarket$Stock" "fail" "[I", Cond.fieldLink RX4 71 "LemonMarket$Stock" "has" "[I", Cond.methodLink RX4 64 yX2_tenthsForWarrant, Cond.instanceMethod yX2_tenthsForWarrant, Cond.selects RX2 yX2_tenthsForWarrant yX2_tenthsForWarrant, Cond.code yX2_tenthsForWarrant cX2_tenthsForWarrant 3 (some .int), Cond.methodLink RX4 53 yX4_partsOfOne, Cond.static yX4_partsOfOne, Cond.code yX4_partsOfOne cX4_partsOfOne 4 (some .int), Cond.fieldLink RX4 77 "LemonMarket$Stock" "look" "I", Cond.methodLink RX4 74 yX2_isGood, Cond.methodLink RX4 57 yX4_sum]
set_option maxRecDepth 20000 in
theorem gTi_10 : ∀ w ∈ gT_10, w ∈ lw_tbl := List.forall_mem_cons.mpr ⟨mt_1 86 rfl, List.forall_mem_cons.mpr ⟨mt_2 115 rfl, List.forall_mem_cons.mpr ⟨mt_2 116 rfl, List.forall_mem_cons.mpr ⟨mt_2 117 rfl, List.forall_mem_cons.mpr ⟨mt_2 118 rfl, List.forall_mem_cons.mpr ⟨mt_2 119 rfl, List.forall_mem_cons.mpr ⟨mt_2 120 rfl, List.forall_mem_cons.mpr ⟨mt_2 121 rfl, List.forall_mem_cons.mpr ⟨mt_2 122 rfl, List.forall_mem_cons.mpr ⟨mt_2 123 rfl, List.forall_mem_cons.mpr ⟨mt_2 124 rfl, List.forall_mem_cons.mpr ⟨mt_1 81 rfl, List.forall_mem_cons.mpr ⟨mt_1 83 rfl, List.forall_mem_cons.mpr ⟨mt_1 85 rfl, List.forall_mem_cons.mpr ⟨mt_1 87 rfl, List.forall_mem_cons.mpr ⟨mt_1 89 rfl, List.forall_mem_cons.mpr ⟨mt_1 91 rfl, List.forall_mem_cons.mpr ⟨mt_1 153 rfl, List.forall_mem_cons.mpr ⟨mt_1 149 rfl, List.forall_mem_cons.mpr ⟨mt_1 136 rfl, List.forall_mem_cons.mpr ⟨mt_1 164 rfl, List.forall_mem_cons.mpr ⟨mt_2 125 rfl, List.forall_mem_cons.mpr ⟨mt_2 126 rfl, List.forall_mem_cons.mpr ⟨mt_2 127 rfl, List.forall_mem_cons.mpr ⟨mt_2 128 rfl, List.forall_mem_cons.mpr ⟨mt_2 129 rfl, List.forall_mem_cons.mpr ⟨mt_2 130 rfl, List.forall_mem_cons.mpr ⟨mt_2 131 rfl, List.forall_mem_cons.mpr ⟨mt_1 146 rfl, List.forall_mem_cons.mpr ⟨mt_1 140 rfl, List.forall_mem_cons.mpr ⟨mt_2 132 rfl, List.forall_mem_cons.mpr ⟨mt_2 133 rfl, List.forall_mem_cons.mpr ⟨mt_2 134 rfl, List.forall_mem_cons.mpr ⟨mt_2 135 rfl, List.forall_mem_cons.mpr ⟨mt_2 136 rfl, List.forall_mem_cons.mpr ⟨mt_2 137 rfl, List.forall_mem_cons.mpr ⟨mt_2 138 rfl, List.forall_mem_cons.mpr ⟨mt_1 160 rfl, List.forall_mem_cons.mpr ⟨mt_2 139 rfl, List.forall_mem_cons.mpr ⟨mt_2 140 rfl, fun _ h => absurd h List.not_mem_nil⟩⟩⟩⟩⟩⟩⟩⟩⟩⟩⟩⟩⟩⟩⟩⟩⟩⟩⟩⟩⟩⟩⟩⟩⟩⟩⟩⟩⟩⟩⟩⟩⟩⟩⟩⟩⟩⟩⟩⟩
set_option maxRecDepth 20000 in
theorem gTg_10 : gT_10.all goodWord = true := by decide +kernel
def gT_11 : List Cond := [Cond.instanceMethod yX4_sum, Cond.selects RX4 yX4_sum yX4_sum, Cond.code yX4_sum cX4_sum 6 none, Cond.fieldLink RX4 84 "LemonMarket$Stock" "would" "[I", Cond.methodLink RX4 87 Lib.Math.max.name, Cond.methodLink RX4 80 yX2_surplus, Cond.instanceMethod yX2_surplus, Cond.selects RX2 yX2_surplus yX2_surplus, Cond.code yX2_surplus cX2_surplus 2 (some .int), Cond.methodLink RL 56 yX6_comes, Cond.instanceMethod yX6_comes, Cond.selects RX6 yX6_comes yX6_comes, Cond.code yX6_comes cX6_comes 5 (some .int), Cond.constantLong RX6 193 (2), Cond.fieldLink RX6 158 "LemonMarketModel" "whole" "I", Cond.fieldLink RX6 161 "LemonMarketModel" "horses" "I", Cond.fieldLink RX6 164 "LemonMarketModel" "allParts" "I", Cond.methodLink RX6 186 yX6_isOffer, Cond.static yX6_isOffer, Cond.code yX6_isOffer cX6_isOffer 2 (some .boolean), Cond.methodLink RX6 190 yX6_isPrice, Cond.static yX6_isPrice, Cond.code yX6_isPrice cX6_isPrice 1 (some .boolean), Cond.methodLink RX6 195 yX6_layOffer, Cond.instanceMethod yX6_layOffer, Cond.selects RX6 yX6_layOffer yX6_layOffer, Cond.code yX6_layOffer cX6_layOffer 7 none, Cond.fieldLink RX6 167 "LemonMarketModel" "thoughtUp" "J", Cond.fieldLink RX6 171 "LemonMarketModel" "gained" "J", Cond.constantLong RX6 181 (800), Cond.fieldLink RX6 183 "LemonMarketModel" "thoughtDown" "J", Cond.methodLink RX6 155 yX6_isHeap, Cond.instanceMethod yX6_isHeap, Cond.selects RX6 yX6_isHeap yX6_isHeap, Cond.code yX6_isHeap cX6_isHeap 5 (some .boolean), Cond.methodLink RX6 152 yX6_isThere, Cond.instanceMethod yX6_isThere, Cond.selects RX6 yX6_isThere yX6_isThere, Cond.code yX6_isThere cX6_isThere 2 (some .boolean), Cond.methodLink RX6 174 yX6_comesWhole]
set_option maxRecDepth 20000 in
theorem gTi_11 : ∀ w ∈ gT_11, w ∈ lw_tbl := List.forall_mem_cons.mpr ⟨mt_2 142 rfl, List.forall_mem_cons.mpr ⟨mt_0 16 rfl, List.forall_mem_cons.mpr ⟨mt_2 143 rfl, List.forall_mem_cons.mpr ⟨mt_1 143 rfl, List.forall_mem_cons.mpr ⟨mt_2 148 rfl, List.forall_mem_cons.mpr ⟨mt_2 144 rfl, List.forall_mem_cons.mpr ⟨mt_2 145 rfl, List.forall_mem_cons.mpr ⟨mt_2 146 rfl, List.forall_mem_cons.mpr ⟨mt_2 147 rfl, List.forall_mem_cons.mpr ⟨mt_4 105 rfl, List.forall_mem_cons.mpr ⟨mt_4 106 rfl, List.forall_mem_cons.mpr ⟨mt_4 107 rfl, List.forall_mem_cons.mpr ⟨mt_4 108 rfl, List.forall_mem_cons.mpr ⟨mt_4 115 rfl, List.forall_mem_cons.mpr ⟨mt_3 166 rfl, List.forall_mem_cons.mpr ⟨mt_3 167 rfl, List.forall_mem_cons.mpr ⟨mt_3 170 rfl, List.forall_mem_cons.mpr ⟨mt_4 109 rfl, List.forall_mem_cons.mpr ⟨mt_4 110 rfl, List.forall_mem_cons.mpr ⟨mt_4 111 rfl, List.forall_mem_cons.mpr ⟨mt_4 112 rfl, List.forall_mem_cons.mpr ⟨mt_4 113 rfl, List.forall_mem_cons.mpr ⟨mt_4 114 rfl, List.forall_mem_cons.mpr ⟨mt_4 116 rfl, List.forall_mem_cons.mpr ⟨mt_4 118 rfl, List.forall_mem_cons.mpr ⟨mt_0 34 rfl, List.forall_mem_cons.mpr ⟨mt_4 119 rfl, List.forall_mem_cons.mpr ⟨mt_3 171 rfl, List.forall_mem_cons.mpr ⟨mt_3 173 rfl, List.forall_mem_cons.mpr ⟨mt_4 136 rfl, List.forall_mem_cons.mpr ⟨mt_3 172 rfl, List.forall_mem_cons.mpr ⟨mt_4 120 rfl, List.forall_mem_cons.mpr ⟨mt_4 122 rfl, List.forall_mem_cons.mpr ⟨mt_0 35 rfl, List.forall_mem_cons.mpr ⟨mt_4 123 rfl, List.forall_mem_cons.mpr ⟨mt_4 124 rfl, List.forall_mem_cons.mpr ⟨mt_4 126 rfl, List.forall_mem_cons.mpr ⟨mt_0 36 rfl, List.forall_mem_cons.mpr ⟨mt_4 127 rfl, List.forall_mem_cons.mpr ⟨mt_4 128 rfl, fun _ h => absurd h List.not_mem_nil⟩⟩⟩⟩⟩⟩⟩⟩⟩⟩⟩⟩⟩⟩⟩⟩⟩⟩⟩⟩⟩⟩⟩⟩⟩⟩⟩⟩⟩⟩⟩⟩⟩⟩⟩⟩⟩⟩⟩⟩
set_option maxRecDepth 20000 in
theorem gTg_11 : gT_11.all goodWord = true := by decide +kernel
def gT_12 : List Cond := [Cond.instanceMethod yX6_comesWhole, Cond.selects RX6 yX6_comesWhole yX6_comesWhole, Cond.code yX6_comesWhole cX6_comesWhole 5 (some .boolean), Cond.methodLink RX6 177 yX6_partsOf, Cond.instanceMethod yX6_partsOf, Cond.selects RX6 yX6_partsOf yX6_partsOf, Cond.code yX6_partsOf cX6_partsOf 4 (some .int), Cond.methodLink RL 57 yX5_sold, Cond.instanceMethod yX5_sold, Cond.selects RX5 yX5_sold yX5_sold, Cond.code yX5_sold cX5_sold 5 (some .int), Cond.fieldLink RX5 138 "LemonMarket$Trade" "partsOf" "[I", Cond.methodLink RL 60 yX6_sold, Cond.instanceMethod yX6_sold, Cond.selects RX6 yX6_sold yX6_sold, Cond.code yX6_sold cX6_sold 5 (some .int), Cond.methodLink RL 61 yX5_thought, Cond.instanceMethod yX5_thought, Cond.selects RX5 yX5_thought yX5_thought, Cond.code yX5_thought cX5_thought 6 (some .int), Cond.constant RX5 142 (-1000000000), Cond.constant RX5 143 (-1000000004), Cond.fieldLink RX5 144 "LemonMarket$Trade" "tenths" "I", Cond.methodLink RX5 147 Lib.Math.abs.name, Cond.static Lib.Math.abs.name, Cond.code Lib.Math.abs.name Lib.Math.abs.code 1 (some .int), Cond.methodLink RX5 153 yX4_shares, Cond.instanceMethod yX4_shares, Cond.selects RX4 yX4_shares yX4_shares, Cond.code yX4_shares cX4_shares 1 (some .int), Cond.methodLink RX5 157 yX5_greatestDivisor, Cond.static yX5_greatestDivisor, Cond.code yX5_greatestDivisor cX5_greatestDivisor 6 (some .int), Cond.methodLink RX5 164 Lib.Math.max.name, Cond.methodLink RL 64 yX6_thought, Cond.instanceMethod yX6_thought, Cond.selects RX6 yX6_thought yX6_thought, Cond.code yX6_thought cX6_thought 5 (some .int), Cond.constant RX6 199 (-1000000000), Cond.constant RX6 200 (-1000000004)]
set_option maxRecDepth 20000 in
theorem gTi_12 : ∀ w ∈ gT_12, w ∈ lw_tbl := List.forall_mem_cons.mpr ⟨mt_4 130 rfl, List.forall_mem_cons.mpr ⟨mt_0 37 rfl, List.forall_mem_cons.mpr ⟨mt_4 131 rfl, List.forall_mem_cons.mpr ⟨mt_4 132 rfl, List.forall_mem_cons.mpr ⟨mt_4 134 rfl, List.forall_mem_cons.mpr ⟨mt_0 38 rfl, List.forall_mem_cons.mpr ⟨mt_4 135 rfl, List.forall_mem_cons.mpr ⟨mt_2 149 rfl, List.forall_mem_cons.mpr ⟨mt_2 150 rfl, List.forall_mem_cons.mpr ⟨mt_2 151 rfl, List.forall_mem_cons.mpr ⟨mt_2 152 rfl, List.forall_mem_cons.mpr ⟨mt_1 80 rfl, List.forall_mem_cons.mpr ⟨mt_4 137 rfl, List.forall_mem_cons.mpr ⟨mt_4 138 rfl, List.forall_mem_cons.mpr ⟨mt_4 139 rfl, List.forall_mem_cons.mpr ⟨mt_4 140 rfl, List.forall_mem_cons.mpr ⟨mt_2 153 rfl, List.forall_mem_cons.mpr ⟨mt_2 154 rfl, List.forall_mem_cons.mpr ⟨mt_2 155 rfl, List.forall_mem_cons.mpr ⟨mt_2 156 rfl, List.forall_mem_cons.mpr ⟨mt_2 157 rfl, List.forall_mem_cons.mpr ⟨mt_2 158 rfl, List.forall_mem_cons.mpr ⟨mt_1 88 rfl, List.forall_mem_cons.mpr ⟨mt_2 159 rfl, List.forall_mem_cons.mpr ⟨mt_2 160 rfl, List.forall_mem_cons.mpr ⟨mt_2 161 rfl, List.forall_mem_cons.mpr ⟨mt_2 162 rfl, List.forall_mem_cons.mpr ⟨mt_2 163 rfl, List.forall_mem_cons.mpr ⟨mt_2 164 rfl, List.forall_mem_cons.mpr ⟨mt_2 165 rfl, List.forall_mem_cons.mpr ⟨mt_2 166 rfl, List.forall_mem_cons.mpr ⟨mt_2 167 rfl, List.forall_mem_cons.mpr ⟨mt_2 168 rfl, List.forall_mem_cons.mpr ⟨mt_2 169 rfl, List.forall_mem_cons.mpr ⟨mt_4 141 rfl, List.forall_mem_cons.mpr ⟨mt_4 142 rfl, List.forall_mem_cons.mpr ⟨mt_4 143 rfl, List.forall_mem_cons.mpr ⟨mt_4 144 rfl, List.forall_mem_cons.mpr ⟨mt_4 145 rfl, List.forall_mem_cons.mpr ⟨mt_4 146 rfl, fun _ h => absurd h List.not_mem_nil⟩⟩⟩⟩⟩⟩⟩⟩⟩⟩⟩⟩⟩⟩⟩⟩⟩⟩⟩⟩⟩⟩⟩⟩⟩⟩⟩⟩⟩⟩⟩⟩⟩⟩⟩⟩⟩⟩⟩⟩
set_option maxRecDepth 20000 in
theorem gTg_12 : gT_12.all goodWord = true := by decide +kernel
def gT_13 : List Cond := [Cond.methodLink RX6 201 yX6_lowest, Cond.static yX6_lowest, Cond.code yX6_lowest cX6_lowest 11 (some .long), Cond.methodLink RL 65 yX5_rests, Cond.instanceMethod yX5_rests, Cond.selects RX5 yX5_rests yX5_rests, Cond.code yX5_rests cX5_rests 10 (some .int), Cond.methodLink RX5 161 yX4_holdsAt, Cond.instanceMethod yX4_holdsAt, Cond.selects RX4 yX4_holdsAt yX4_holdsAt, Cond.code yX4_holdsAt cX4_holdsAt 2 (some .boolean), Cond.methodLink RX4 96 yX4_lackAt, Cond.instanceMethod yX4_lackAt, Cond.selects RX4 yX4_lackAt yX4_lackAt, Cond.code yX4_lackAt cX4_lackAt 2 (some .int), Cond.methodLink RX4 92 yX4_shares, Cond.methodLink RL 68 yX6_rests, Cond.instanceMethod yX6_rests, Cond.selects RX6 yX6_rests yX6_rests, Cond.code yX6_rests cX6_rests 10 (some .int), Cond.methodLink RX6 205 yX6_doesRest, Cond.instanceMethod yX6_doesRest, Cond.selects RX6 yX6_doesRest yX6_doesRest, Cond.code yX6_doesRest cX6_doesRest 4 (some .boolean), Cond.methodLink RL 69 yX5_fall, Cond.instanceMethod yX5_fall, Cond.selects RX5 yX5_fall yX5_fall, Cond.code yX5_fall cX5_fall 10 (some .int), Cond.methodLink RX5 167 yX4_priceBehind, Cond.instanceMethod yX4_priceBehind, Cond.selects RX4 yX4_priceBehind yX4_priceBehind, Cond.code yX4_priceBehind cX4_priceBehind 2 (some .int), Cond.methodLink RX4 102 yX4_holdsAt, Cond.methodLink RX4 105 yX4_thoughtDown, Cond.instanceMethod yX4_thoughtDown, Cond.selects RX4 yX4_thoughtDown yX4_thoughtDown, Cond.code yX4_thoughtDown cX4_thoughtDown 1 (some .int), Cond.methodLink RX4 99 yJ9_floorDiv_7cf53, Cond.static yJ9_floorDiv_7cf53, Cond.initialized RJ9]
set_option maxRecDepth 20000 in
theorem gTi_13 : ∀ w ∈ gT_13, w ∈ lw_tbl := List.forall_mem_cons.mpr ⟨mt_4 147 rfl, List.forall_mem_cons.mpr ⟨mt_4 148 rfl, List.forall_mem_cons.mpr ⟨mt_4 149 rfl, List.forall_mem_cons.mpr ⟨mt_2 170 rfl, List.forall_mem_cons.mpr ⟨mt_2 171 rfl, List.forall_mem_cons.mpr ⟨mt_2 172 rfl, List.forall_mem_cons.mpr ⟨mt_2 173 rfl, List.forall_mem_cons.mpr ⟨mt_2 174 rfl, List.forall_mem_cons.mpr ⟨mt_2 175 rfl, List.forall_mem_cons.mpr ⟨mt_2 176 rfl, List.forall_mem_cons.mpr ⟨mt_2 177 rfl, List.forall_mem_cons.mpr ⟨mt_2 178 rfl, List.forall_mem_cons.mpr ⟨mt_2 179 rfl, List.forall_mem_cons.mpr ⟨mt_2 180 rfl, List.forall_mem_cons.mpr ⟨mt_2 181 rfl, List.forall_mem_cons.mpr ⟨mt_2 182 rfl, List.forall_mem_cons.mpr ⟨mt_4 150 rfl, List.forall_mem_cons.mpr ⟨mt_4 151 rfl, List.forall_mem_cons.mpr ⟨mt_4 152 rfl, List.forall_mem_cons.mpr ⟨mt_4 153 rfl, List.forall_mem_cons.mpr ⟨mt_4 154 rfl, List.forall_mem_cons.mpr ⟨mt_4 156 rfl, List.forall_mem_cons.mpr ⟨mt_0 39 rfl, List.forall_mem_cons.mpr ⟨mt_4 157 rfl, List.forall_mem_cons.mpr ⟨mt_2 183 rfl, List.forall_mem_cons.mpr ⟨mt_2 184 rfl, List.forall_mem_cons.mpr ⟨mt_2 185 rfl, List.forall_mem_cons.mpr ⟨mt_2 186 rfl, List.forall_mem_cons.mpr ⟨mt_2 187 rfl, List.forall_mem_cons.mpr ⟨mt_2 188 rfl, List.forall_mem_cons.mpr ⟨mt_2 189 rfl, List.forall_mem_cons.mpr ⟨mt_2 190 rfl, List.forall_mem_cons.mpr ⟨mt_2 191 rfl, List.forall_mem_cons.mpr ⟨mt_2 192 rfl, List.forall_mem_cons.mpr ⟨mt_2 193 rfl, List.forall_mem_cons.mpr ⟨mt_2 194 rfl, List.forall_mem_cons.mpr ⟨mt_2 195 rfl, List.forall_mem_cons.mpr ⟨mt_2 196 rfl, List.forall_mem_cons.mpr ⟨mt_2 197 rfl, List.forall_mem_cons.mpr ⟨mt_1 8 rfl, fun _ h => absurd h List.not_mem_nil⟩⟩⟩⟩⟩⟩⟩⟩⟩⟩⟩⟩⟩⟩⟩⟩⟩⟩⟩⟩⟩⟩⟩⟩⟩⟩⟩⟩⟩⟩⟩⟩⟩⟩⟩⟩⟩⟩⟩⟩
set_option maxRecDepth 20000 in
theorem gTg_13 : gT_13.all goodWord = true := by decide +kernel
def gT_14 : List Cond := [Cond.code yJ9_floorDiv_7cf53 cJ9_floorDiv_7cf53 3 (some .int), Cond.methodLink RL 72 yX6_fall, Cond.instanceMethod yX6_fall, Cond.selects RX6 yX6_fall yX6_fall, Cond.code yX6_fall cX6_fall 10 (some .int), Cond.methodLink RL 73 yX5_gain, Cond.instanceMethod yX5_gain, Cond.selects RX5 yX5_gain yX5_gain, Cond.code yX5_gain cX5_gain 4 (some .int), Cond.methodLink RX5 170 yX5_gainAt, Cond.instanceMethod yX5_gainAt, Cond.selects RX5 yX5_gainAt yX5_gainAt, Cond.code yX5_gainAt cX5_gainAt 5 (some .int), Cond.fieldLink RX5 273 "LemonMarket$Trade" "gained" "I", Cond.methodLink RL 76 yX6_gain, Cond.instanceMethod yX6_gain, Cond.selects RX6 yX6_gain yX6_gain, Cond.code yX6_gain cX6_gain 4 (some .int), Cond.methodLink RL 77 yX5_lost, Cond.instanceMethod yX5_lost, Cond.selects RX5 yX5_lost yX5_lost, Cond.code yX5_lost cX5_lost 4 (some .int), Cond.fieldLink RX5 174 "LemonMarket$Trade" "lost" "I", Cond.methodLink RL 80 yX6_lost, Cond.instanceMethod yX6_lost, Cond.selects RX6 yX6_lost yX6_lost, Cond.code yX6_lost cX6_lost 7 (some .int), Cond.methodLink RL 81 yX5_best, Cond.instanceMethod yX5_best, Cond.selects RX5 yX5_best yX5_best, Cond.code yX5_best cX5_best 5 (some .int), Cond.methodLink RX5 177 yX5_bestPrice, Cond.instanceMethod yX5_bestPrice, Cond.selects RX5 yX5_bestPrice yX5_bestPrice, Cond.code yX5_bestPrice cX5_bestPrice 7 (some .int), Cond.methodLink RL 84 yX6_best, Cond.instanceMethod yX6_best, Cond.selects RX6 yX6_best yX6_best, Cond.code yX6_best cX6_best 4 (some .int), Cond.fieldLink RX6 209 "LemonMarketModel" "bestPrice" "I"]
set_option maxRecDepth 20000 in
theorem gTi_14 : ∀ w ∈ gT_14, w ∈ lw_tbl := List.forall_mem_cons.mpr ⟨mt_2 198 rfl, List.forall_mem_cons.mpr ⟨mt_4 158 rfl, List.forall_mem_cons.mpr ⟨mt_4 159 rfl, List.forall_mem_cons.mpr ⟨mt_4 160 rfl, List.forall_mem_cons.mpr ⟨mt_4 161 rfl, List.forall_mem_cons.mpr ⟨mt_2 199 rfl, List.forall_mem_cons.mpr ⟨mt_2 200 rfl, List.forall_mem_cons.mpr ⟨mt_2 201 rfl, List.forall_mem_cons.mpr ⟨mt_2 202 rfl, List.forall_mem_cons.mpr ⟨mt_2 203 rfl, List.forall_mem_cons.mpr ⟨mt_2 205 rfl, List.forall_mem_cons.mpr ⟨mt_0 17 rfl, List.forall_mem_cons.mpr ⟨mt_2 206 rfl, List.forall_mem_cons.mpr ⟨mt_1 90 rfl, List.forall_mem_cons.mpr ⟨mt_4 162 rfl, List.forall_mem_cons.mpr ⟨mt_4 163 rfl, List.forall_mem_cons.mpr ⟨mt_4 164 rfl, List.forall_mem_cons.mpr ⟨mt_4 165 rfl, List.forall_mem_cons.mpr ⟨mt_2 207 rfl, List.forall_mem_cons.mpr ⟨mt_2 208 rfl, List.forall_mem_cons.mpr ⟨mt_2 209 rfl, List.forall_mem_cons.mpr ⟨mt_2 210 rfl, List.forall_mem_cons.mpr ⟨mt_1 92 rfl, List.forall_mem_cons.mpr ⟨mt_4 166 rfl, List.forall_mem_cons.mpr ⟨mt_4 167 rfl, List.forall_mem_cons.mpr ⟨mt_4 168 rfl, List.forall_mem_cons.mpr ⟨mt_4 169 rfl, List.forall_mem_cons.mpr ⟨mt_2 211 rfl, List.forall_mem_cons.mpr ⟨mt_2 212 rfl, List.forall_mem_cons.mpr ⟨mt_2 213 rfl, List.forall_mem_cons.mpr ⟨mt_2 214 rfl, List.forall_mem_cons.mpr ⟨mt_2 215 rfl, List.forall_mem_cons.mpr ⟨mt_2 217 rfl, List.forall_mem_cons.mpr ⟨mt_0 18 rfl, List.forall_mem_cons.mpr ⟨mt_2 218 rfl, List.forall_mem_cons.mpr ⟨mt_4 170 rfl, List.forall_mem_cons.mpr ⟨mt_4 171 rfl, List.forall_mem_cons.mpr ⟨mt_4 172 rfl, List.forall_mem_cons.mpr ⟨mt_4 173 rfl, List.forall_mem_cons.mpr ⟨mt_3 174 rfl, fun _ h => absurd h List.not_mem_nil⟩⟩⟩⟩⟩⟩⟩⟩⟩⟩⟩⟩⟩⟩⟩⟩⟩⟩⟩⟩⟩⟩⟩⟩⟩⟩⟩⟩⟩⟩⟩⟩⟩⟩⟩⟩⟩⟩⟩⟩
set_option maxRecDepth 20000 in
theorem gTg_14 : gT_14.all goodWord = true := by decide +kernel
def gT_15 : List Cond := [Cond.fieldLink RX6 212 "LemonMarketModel" "bestGain" "J", Cond.methodLink RX6 215 yX6_layBest, Cond.instanceMethod yX6_layBest, Cond.selects RX6 yX6_layBest yX6_layBest, Cond.code yX6_layBest cX6_layBest 4 (some .boolean), Cond.methodLink RL 85 yX5_all, Cond.instanceMethod yX5_all, Cond.selects RX5 yX5_all yX5_all, Cond.code yX5_all cX5_all 3 (some .int), Cond.fieldLink RX5 181 "LemonMarket$Stock" "many" "[I", Cond.methodLink RX5 184 yX2_surplus, Cond.methodLink RL 88 yX6_all, Cond.instanceMethod yX6_all, Cond.selects RX6 yX6_all yX6_all, Cond.code yX6_all cX6_all 4 (some .int), Cond.methodLink RL 89 yX5_part, Cond.instanceMethod yX5_part, Cond.selects RX5 yX5_part yX5_part, Cond.code yX5_part cX5_part 6 (some .int), Cond.methodLink RX5 187 yX2_failingAtMost, Cond.instanceMethod yX2_failingAtMost, Cond.selects RX2 yX2_failingAtMost yX2_failingAtMost, Cond.code yX2_failingAtMost cX2_failingAtMost 4 (some .int), Cond.methodLink RX5 190 yX2_leastForWarrant, Cond.instanceMethod yX2_leastForWarrant, Cond.selects RX2 yX2_leastForWarrant yX2_leastForWarrant, Cond.code yX2_leastForWarrant cX2_leastForWarrant 5 (some .int), Cond.methodLink RX2 71 yX2_tenthsForWarrant, Cond.methodLink RL 92 yX6_part, Cond.instanceMethod yX6_part, Cond.selects RX6 yX6_part yX6_part, Cond.code yX6_part cX6_part 6 (some .int), Cond.constantLong RX6 218 (9), Cond.methodLink RL 93 yX5_sharp, Cond.instanceMethod yX5_sharp, Cond.selects RX5 yX5_sharp yX5_sharp, Cond.code yX5_sharp cX5_sharp 4 (some .int), Cond.methodLink RX5 193 yX2_goodOnes, Cond.instanceMethod yX2_goodOnes, Cond.selects RX2 yX2_goodOnes yX2_goodOnes]
set_option maxRecDepth 20000 in
theorem gTi_15 : ∀ w ∈ gT_15, w ∈ lw_tbl := List.forall_mem_cons.mpr ⟨mt_3 175 rfl, List.forall_mem_cons.mpr ⟨mt_4 174 rfl, List.forall_mem_cons.mpr ⟨mt_4 176 rfl, List.forall_mem_cons.mpr ⟨mt_0 40 rfl, List.forall_mem_cons.mpr ⟨mt_4 177 rfl, List.forall_mem_cons.mpr ⟨mt_2 219 rfl, List.forall_mem_cons.mpr ⟨mt_2 220 rfl, List.forall_mem_cons.mpr ⟨mt_2 221 rfl, List.forall_mem_cons.mpr ⟨mt_2 222 rfl, List.forall_mem_cons.mpr ⟨mt_1 138 rfl, List.forall_mem_cons.mpr ⟨mt_2 223 rfl, List.forall_mem_cons.mpr ⟨mt_4 178 rfl, List.forall_mem_cons.mpr ⟨mt_4 179 rfl, List.forall_mem_cons.mpr ⟨mt_4 180 rfl, List.forall_mem_cons.mpr ⟨mt_4 181 rfl, List.forall_mem_cons.mpr ⟨mt_2 224 rfl, List.forall_mem_cons.mpr ⟨mt_2 225 rfl, List.forall_mem_cons.mpr ⟨mt_2 226 rfl, List.forall_mem_cons.mpr ⟨mt_2 227 rfl, List.forall_mem_cons.mpr ⟨mt_2 228 rfl, List.forall_mem_cons.mpr ⟨mt_2 229 rfl, List.forall_mem_cons.mpr ⟨mt_2 230 rfl, List.forall_mem_cons.mpr ⟨mt_2 231 rfl, List.forall_mem_cons.mpr ⟨mt_2 232 rfl, List.forall_mem_cons.mpr ⟨mt_2 233 rfl, List.forall_mem_cons.mpr ⟨mt_2 234 rfl, List.forall_mem_cons.mpr ⟨mt_2 235 rfl, List.forall_mem_cons.mpr ⟨mt_2 236 rfl, List.forall_mem_cons.mpr ⟨mt_4 182 rfl, List.forall_mem_cons.mpr ⟨mt_4 183 rfl, List.forall_mem_cons.mpr ⟨mt_4 184 rfl, List.forall_mem_cons.mpr ⟨mt_4 185 rfl, List.forall_mem_cons.mpr ⟨mt_4 186 rfl, List.forall_mem_cons.mpr ⟨mt_2 237 rfl, List.forall_mem_cons.mpr ⟨mt_2 238 rfl, List.forall_mem_cons.mpr ⟨mt_2 239 rfl, List.forall_mem_cons.mpr ⟨mt_3 0 rfl, List.forall_mem_cons.mpr ⟨mt_3 1 rfl, List.forall_mem_cons.mpr ⟨mt_3 2 rfl, List.forall_mem_cons.mpr ⟨mt_3 3 rfl, fun _ h => absurd h List.not_mem_nil⟩⟩⟩⟩⟩⟩⟩⟩⟩⟩⟩⟩⟩⟩⟩⟩⟩⟩⟩⟩⟩⟩⟩⟩⟩⟩⟩⟩⟩⟩⟩⟩⟩⟩⟩⟩⟩⟩⟩⟩
set_option maxRecDepth 20000 in
theorem gTg_15 : gT_15.all goodWord = true := by decide +kernel
def gT_16 : List Cond := [Cond.code yX2_goodOnes cX2_goodOnes 3 (some .int), Cond.methodLink RX2 63 yX2_isGood, Cond.methodLink RX5 196 yX2_copy, Cond.instanceMethod yX2_copy, Cond.selects RX2 yX2_copy yX2_copy, Cond.code yX2_copy cX2_copy 3 none, Cond.methodLink RX2 47 arraycopyName, Cond.native arraycopyName, Cond.static arraycopyName, Cond.initialized "java/lang/System", Cond.methodLink RX2 43 yX2_row, Cond.methodLink RX5 199 yX4_bringsAll, Cond.instanceMethod yX4_bringsAll, Cond.selects RX4 yX4_bringsAll yX4_bringsAll, Cond.code yX4_bringsAll cX4_bringsAll 2 (some .boolean), Cond.methodLink RL 96 yX6_sharp, Cond.instanceMethod yX6_sharp, Cond.selects RX6 yX6_sharp yX6_sharp, Cond.code yX6_sharp cX6_sharp 5 (some .int), Cond.methodLink RX6 220 yX6_goesOn, Cond.instanceMethod yX6_goesOn, Cond.selects RX6 yX6_goesOn yX6_goesOn, Cond.code yX6_goesOn cX6_goesOn 6 (some .boolean), Cond.methodLink RL 97 yX5_days, Cond.instanceMethod yX5_days, Cond.selects RX5 yX5_days yX5_days, Cond.code yX5_days cX5_days 7 (some .int), Cond.methodLink RL 100 yX6_days, Cond.instanceMethod yX6_days, Cond.selects RX6 yX6_days yX6_days, Cond.code yX6_days cX6_days 6 (some .int), Cond.methodLink RL 101 yX5_keep, Cond.instanceMethod yX5_keep, Cond.selects RX5 yX5_keep yX5_keep, Cond.code yX5_keep cX5_keep 3 (some .int), Cond.methodLink RX5 202 yX5_fewestSteps, Cond.static yX5_fewestSteps, Cond.code yX5_fewestSteps cX5_fewestSteps 2 (some .int), Cond.constant RX5 208 (1000000), Cond.methodLink RL 104 yX6_keep]
set_option maxRecDepth 20000 in
theorem gTi_16 : ∀ w ∈ gT_16, w ∈ lw_tbl := List.forall_mem_cons.mpr ⟨mt_3 4 rfl, List.forall_mem_cons.mpr ⟨mt_3 5 rfl, List.forall_mem_cons.mpr ⟨mt_3 6 rfl, List.forall_mem_cons.mpr ⟨mt_3 7 rfl, List.forall_mem_cons.mpr ⟨mt_3 8 rfl, List.forall_mem_cons.mpr ⟨mt_3 9 rfl, List.forall_mem_cons.mpr ⟨mt_3 11 rfl, List.forall_mem_cons.mpr ⟨mt_3 13 rfl, List.forall_mem_cons.mpr ⟨mt_3 12 rfl, List.forall_mem_cons.mpr ⟨mt_1 9 rfl, List.forall_mem_cons.mpr ⟨mt_3 10 rfl, List.forall_mem_cons.mpr ⟨mt_3 14 rfl, List.forall_mem_cons.mpr ⟨mt_3 15 rfl, List.forall_mem_cons.mpr ⟨mt_3 16 rfl, List.forall_mem_cons.mpr ⟨mt_3 17 rfl, List.forall_mem_cons.mpr ⟨mt_4 187 rfl, List.forall_mem_cons.mpr ⟨mt_4 188 rfl, List.forall_mem_cons.mpr ⟨mt_4 189 rfl, List.forall_mem_cons.mpr ⟨mt_4 190 rfl, List.forall_mem_cons.mpr ⟨mt_4 191 rfl, List.forall_mem_cons.mpr ⟨mt_4 193 rfl, List.forall_mem_cons.mpr ⟨mt_0 41 rfl, List.forall_mem_cons.mpr ⟨mt_4 194 rfl, List.forall_mem_cons.mpr ⟨mt_3 18 rfl, List.forall_mem_cons.mpr ⟨mt_3 19 rfl, List.forall_mem_cons.mpr ⟨mt_3 20 rfl, List.forall_mem_cons.mpr ⟨mt_3 21 rfl, List.forall_mem_cons.mpr ⟨mt_4 195 rfl, List.forall_mem_cons.mpr ⟨mt_4 196 rfl, List.forall_mem_cons.mpr ⟨mt_4 197 rfl, List.forall_mem_cons.mpr ⟨mt_4 198 rfl, List.forall_mem_cons.mpr ⟨mt_3 22 rfl, List.forall_mem_cons.mpr ⟨mt_3 23 rfl, List.forall_mem_cons.mpr ⟨mt_3 24 rfl, List.forall_mem_cons.mpr ⟨mt_3 25 rfl, List.forall_mem_cons.mpr ⟨mt_3 26 rfl, List.forall_mem_cons.mpr ⟨mt_3 27 rfl, List.forall_mem_cons.mpr ⟨mt_3 28 rfl, List.forall_mem_cons.mpr ⟨mt_3 29 rfl, List.forall_mem_cons.mpr ⟨mt_4 199 rfl, fun _ h => absurd h List.not_mem_nil⟩⟩⟩⟩⟩⟩⟩⟩⟩⟩⟩⟩⟩⟩⟩⟩⟩⟩⟩⟩⟩⟩⟩⟩⟩⟩⟩⟩⟩⟩⟩⟩⟩⟩⟩⟩⟩⟩⟩⟩
set_option maxRecDepth 20000 in
theorem gTg_16 : gT_16.all goodWord = true := by decide +kernel
def gT_17 : List Cond := [Cond.instanceMethod yX6_keep, Cond.selects RX6 yX6_keep yX6_keep, Cond.code yX6_keep cX6_keep 3 (some .int), Cond.constantLong RX6 223 (999), Cond.methodLink RL 105 yX5_edge, Cond.instanceMethod yX5_edge, Cond.selects RX5 yX5_edge yX5_edge, Cond.code yX5_edge cX5_edge 4 (some .int), Cond.fieldLink RX5 205 "LemonMarket$Stock" "would" "[I", Cond.fieldLink RX5 209 "LemonMarket$Stock" "has" "[I", Cond.methodLink RX5 215 Lib.Math.min.name, Cond.static Lib.Math.min.name, Cond.code Lib.Math.min.name Lib.Math.min.code 2 (some .int), Cond.methodLink RX5 212 yX4_lackAt, Cond.methodLink RL 108 yX6_edge, Cond.instanceMethod yX6_edge, Cond.selects RX6 yX6_edge yX6_edge, Cond.code yX6_edge cX6_edge 5 (some .int), Cond.methodLink RL 109 yX5_spur, Cond.instanceMethod yX5_spur, Cond.selects RX5 yX5_spur yX5_spur, Cond.code yX5_spur cX5_spur 6 (some .int), Cond.fieldLink RX5 221 "LemonMarket$Stock" "must" "[I", Cond.methodLink RX5 218 yX2_worthTrading, Cond.instanceMethod yX2_worthTrading, Cond.selects RX2 yX2_worthTrading yX2_worthTrading, Cond.code yX2_worthTrading cX2_worthTrading 3 (some .int), Cond.methodLink RX2 67 yX2_surplus, Cond.methodLink RL 112 yX6_spur, Cond.instanceMethod yX6_spur, Cond.selects RX6 yX6_spur yX6_spur, Cond.code yX6_spur cX6_spur 6 (some .int), Cond.methodLink RL 113 yX5_laws, Cond.instanceMethod yX5_laws, Cond.selects RX5 yX5_laws yX5_laws, Cond.code yX5_laws cX5_laws 5 (some .int), Cond.methodLink RX5 224 yX5_goTogether, Cond.instanceMethod yX5_goTogether, Cond.selects RX5 yX5_goTogether yX5_goTogether, Cond.code yX5_goTogether cX5_goTogether 4 (some .boolean)]
set_option maxRecDepth 20000 in
theorem gTi_17 : ∀ w ∈ gT_17, w ∈ lw_tbl := List.forall_mem_cons.mpr ⟨mt_4 200 rfl, List.forall_mem_cons.mpr ⟨mt_4 201 rfl, List.forall_mem_cons.mpr ⟨mt_4 202 rfl, List.forall_mem_cons.mpr ⟨mt_4 203 rfl, List.forall_mem_cons.mpr ⟨mt_3 30 rfl, List.forall_mem_cons.mpr ⟨mt_3 31 rfl, List.forall_mem_cons.mpr ⟨mt_3 32 rfl, List.forall_mem_cons.mpr ⟨mt_3 33 rfl, List.forall_mem_cons.mpr ⟨mt_1 144 rfl, List.forall_mem_cons.mpr ⟨mt_1 141 rfl, List.forall_mem_cons.mpr ⟨mt_3 35 rfl, List.forall_mem_cons.mpr ⟨mt_3 36 rfl, List.forall_mem_cons.mpr ⟨mt_3 37 rfl, List.forall_mem_cons.mpr ⟨mt_3 34 rfl, List.forall_mem_cons.mpr ⟨mt_4 204 rfl, List.forall_mem_cons.mpr ⟨mt_4 205 rfl, List.forall_mem_cons.mpr ⟨mt_4 206 rfl, List.forall_mem_cons.mpr ⟨mt_4 207 rfl, List.forall_mem_cons.mpr ⟨mt_3 38 rfl, List.forall_mem_cons.mpr ⟨mt_3 39 rfl, List.forall_mem_cons.mpr ⟨mt_3 40 rfl, List.forall_mem_cons.mpr ⟨mt_3 41 rfl, List.forall_mem_cons.mpr ⟨mt_1 151 rfl, List.forall_mem_cons.mpr ⟨mt_3 42 rfl, List.forall_mem_cons.mpr ⟨mt_3 43 rfl, List.forall_mem_cons.mpr ⟨mt_3 44 rfl, List.forall_mem_cons.mpr ⟨mt_3 45 rfl, List.forall_mem_cons.mpr ⟨mt_3 46 rfl, List.forall_mem_cons.mpr ⟨mt_4 208 rfl, List.forall_mem_cons.mpr ⟨mt_4 209 rfl, List.forall_mem_cons.mpr ⟨mt_4 210 rfl, List.forall_mem_cons.mpr ⟨mt_4 211 rfl, List.forall_mem_cons.mpr ⟨mt_3 47 rfl, List.forall_mem_cons.mpr ⟨mt_3 48 rfl, List.forall_mem_cons.mpr ⟨mt_3 49 rfl, List.forall_mem_cons.mpr ⟨mt_3 50 rfl, List.forall_mem_cons.mpr ⟨mt_3 51 rfl, List.forall_mem_cons.mpr ⟨mt_3 53 rfl, List.forall_mem_cons.mpr ⟨mt_0 19 rfl, List.forall_mem_cons.mpr ⟨mt_3 54 rfl, fun _ h => absurd h List.not_mem_nil⟩⟩⟩⟩⟩⟩⟩⟩⟩⟩⟩⟩⟩⟩⟩⟩⟩⟩⟩⟩⟩⟩⟩⟩⟩⟩⟩⟩⟩⟩⟩⟩⟩⟩⟩⟩⟩⟩⟩⟩
set_option maxRecDepth 20000 in
theorem gTg_17 : gT_17.all goodWord = true := by decide +kernel
def gT_18 : List Cond := [Cond.methodLink RX5 267 yJ6_bitCount_0f7a4, Cond.static yJ6_bitCount_0f7a4, Cond.initialized RJ6, Cond.code yJ6_bitCount_0f7a4 cJ6_bitCount_0f7a4 1 (some .int), Cond.constant RJ6 265 (1431655765), Cond.constant RJ6 266 (858993459), Cond.constant RJ6 267 (252645135), Cond.methodLink RX5 227 yX5_outcome, Cond.instanceMethod yX5_outcome, Cond.selects RX5 yX5_outcome yX5_outcome, Cond.code yX5_outcome cX5_outcome 8 (some .int), Cond.methodLink RX5 230 yX5_leftBy, Cond.instanceMethod yX5_leftBy, Cond.selects RX5 yX5_leftBy yX5_leftBy, Cond.code yX5_leftBy cX5_leftBy 2 (some (.object "LemonMarket$Stock")), Cond.methodLink RX5 276 yX2_worst, Cond.instanceMethod yX2_worst, Cond.selects RX2 yX2_worst yX2_worst, Cond.code yX2_worst cX2_worst 3 (some .int), Cond.methodLink RX5 279 yX2_remove, Cond.instanceMethod yX2_remove, Cond.selects RX2 yX2_remove yX2_remove, Cond.code yX2_remove cX2_remove 4 none, Cond.methodLink RX5 234 yX5_offerOf, Cond.static yX5_offerOf, Cond.code yX5_offerOf cX5_offerOf 1 (some .int), Cond.methodLink RL 116 yX6_laws, Cond.instanceMethod yX6_laws, Cond.selects RX6 yX6_laws yX6_laws, Cond.code yX6_laws cX6_laws 4 (some .int), Cond.fieldLink RX6 227 "LemonMarketModel" "outcome" "I", Cond.methodLink RX6 230 yX6_areLaws, Cond.instanceMethod yX6_areLaws, Cond.selects RX6 yX6_areLaws yX6_areLaws, Cond.code yX6_areLaws cX6_areLaws 3 (some .boolean), Cond.constantLong RX6 225 (15), Cond.methodLink RX6 233 yX6_layLaws, Cond.instanceMethod yX6_layLaws, Cond.selects RX6 yX6_layLaws yX6_layLaws, Cond.code yX6_layLaws cX6_layLaws 6 none]
set_option maxRecDepth 20000 in
theorem gTi_18 : ∀ w ∈ gT_18, w ∈ lw_tbl := List.forall_mem_cons.mpr ⟨mt_3 55 rfl, List.forall_mem_cons.mpr ⟨mt_3 56 rfl, List.forall_mem_cons.mpr ⟨mt_1 10 rfl, List.forall_mem_cons.mpr ⟨mt_3 57 rfl, List.forall_mem_cons.mpr ⟨mt_3 58 rfl, List.forall_mem_cons.mpr ⟨mt_3 59 rfl, List.forall_mem_cons.mpr ⟨mt_3 60 rfl, List.forall_mem_cons.mpr ⟨mt_3 61 rfl, List.forall_mem_cons.mpr ⟨mt_3 63 rfl, List.forall_mem_cons.mpr ⟨mt_0 20 rfl, List.forall_mem_cons.mpr ⟨mt_3 64 rfl, List.forall_mem_cons.mpr ⟨mt_3 65 rfl, List.forall_mem_cons.mpr ⟨mt_3 67 rfl, List.forall_mem_cons.mpr ⟨mt_0 21 rfl, List.forall_mem_cons.mpr ⟨mt_3 68 rfl, List.forall_mem_cons.mpr ⟨mt_3 69 rfl, List.forall_mem_cons.mpr ⟨mt_3 70 rfl, List.forall_mem_cons.mpr ⟨mt_3 71 rfl, List.forall_mem_cons.mpr ⟨mt_3 72 rfl, List.forall_mem_cons.mpr ⟨mt_3 73 rfl, List.forall_mem_cons.mpr ⟨mt_3 74 rfl, List.forall_mem_cons.mpr ⟨mt_3 75 rfl, List.forall_mem_cons.mpr ⟨mt_3 76 rfl, List.forall_mem_cons.mpr ⟨mt_3 77 rfl, List.forall_mem_cons.mpr ⟨mt_3 78 rfl, List.forall_mem_cons.mpr ⟨mt_3 79 rfl, List.forall_mem_cons.mpr ⟨mt_4 212 rfl, List.forall_mem_cons.mpr ⟨mt_4 213 rfl, List.forall_mem_cons.mpr ⟨mt_4 214 rfl, List.forall_mem_cons.mpr ⟨mt_4 215 rfl, List.forall_mem_cons.mpr ⟨mt_3 176 rfl, List.forall_mem_cons.mpr ⟨mt_4 216 rfl, List.forall_mem_cons.mpr ⟨mt_4 218 rfl, List.forall_mem_cons.mpr ⟨mt_0 42 rfl, List.forall_mem_cons.mpr ⟨mt_4 219 rfl, List.forall_mem_cons.mpr ⟨mt_4 220 rfl, List.forall_mem_cons.mpr ⟨mt_4 221 rfl, List.forall_mem_cons.mpr ⟨mt_4 223 rfl, List.forall_mem_cons.mpr ⟨mt_0 43 rfl, List.forall_mem_cons.mpr ⟨mt_4 224 rfl, fun _ h => absurd h List.not_mem_nil⟩⟩⟩⟩⟩⟩⟩⟩⟩⟩⟩⟩⟩⟩⟩⟩⟩⟩⟩⟩⟩⟩⟩⟩⟩⟩⟩⟩⟩⟩⟩⟩⟩⟩⟩⟩⟩⟩⟩⟩
set_option maxRecDepth 20000 in
theorem gTg_18 : gT_18.all goodWord = true := by decide +kernel
def gT_19 : List Cond := [Cond.methodLink RL 117 yX5_bestLaws, Cond.instanceMethod yX5_bestLaws, Cond.selects RX5 yX5_bestLaws yX5_bestLaws, Cond.code yX5_bestLaws cX5_bestLaws 7 (some .int), Cond.methodLink RL 120 yX6_bestLaws, Cond.instanceMethod yX6_bestLaws, Cond.selects RX6 yX6_bestLaws yX6_bestLaws, Cond.code yX6_bestLaws cX6_bestLaws 6 (some .int), Cond.methodLink RL 121 yX5_learn, Cond.instanceMethod yX5_learn, Cond.selects RX5 yX5_learn yX5_learn, Cond.code yX5_learn cX5_learn 7 (some .int), Cond.methodLink RX5 237 yX5_priceLearned, Cond.instanceMethod yX5_priceLearned, Cond.selects RX5 yX5_priceLearned yX5_priceLearned, Cond.code yX5_priceLearned cX5_priceLearned 2 (some .int), Cond.methodLink RX5 283 yX4_thoughtDown, Cond.methodLink RX5 286 yJ9_floorDiv_7cf53, Cond.methodLink RL 124 yX6_learn, Cond.instanceMethod yX6_learn, Cond.selects RX6 yX6_learn yX6_learn, Cond.code yX6_learn cX6_learn 7 (some .int), Cond.methodLink RX6 237 yX6_learnt, Cond.instanceMethod yX6_learnt, Cond.selects RX6 yX6_learnt yX6_learnt, Cond.code yX6_learnt cX6_learnt 3 (some .int), Cond.methodLink RL 125 yX5_sheet, Cond.instanceMethod yX5_sheet, Cond.selects RX5 yX5_sheet yX5_sheet, Cond.code yX5_sheet cX5_sheet 4 (some .int), Cond.methodLink RX5 240 yX1_renew, Cond.instanceMethod yX1_renew, Cond.selects RX1 yX1_renew yX1_renew, Cond.code yX1_renew cX1_renew 4 none, Cond.fieldLink RX1 19 "LemonMarket$Sheet" "lane" "I", Cond.methodLink RL 128 yX6_sheet, Cond.instanceMethod yX6_sheet, Cond.selects RX6 yX6_sheet yX6_sheet, Cond.code yX6_sheet cX6_sheet 5 (some .int), Cond.methodLink RL 129 yX5_lay]
set_option maxRecDepth 20000 in
theorem gTi_19 : ∀ w ∈ gT_19, w ∈ lw_tbl := List.forall_mem_cons.mpr ⟨mt_3 80 rfl, List.forall_mem_cons.mpr ⟨mt_3 81 rfl, List.forall_mem_cons.mpr ⟨mt_3 82 rfl, List.forall_mem_cons.mpr ⟨mt_3 83 rfl, List.forall_mem_cons.mpr ⟨mt_4 225 rfl, List.forall_mem_cons.mpr ⟨mt_4 226 rfl, List.forall_mem_cons.mpr ⟨mt_4 227 rfl, List.forall_mem_cons.mpr ⟨mt_4 228 rfl, List.forall_mem_cons.mpr ⟨mt_3 84 rfl, List.forall_mem_cons.mpr ⟨mt_3 85 rfl, List.forall_mem_cons.mpr ⟨mt_3 86 rfl, List.forall_mem_cons.mpr ⟨mt_3 87 rfl, List.forall_mem_cons.mpr ⟨mt_3 88 rfl, List.forall_mem_cons.mpr ⟨mt_3 90 rfl, List.forall_mem_cons.mpr ⟨mt_0 22 rfl, List.forall_mem_cons.mpr ⟨mt_3 91 rfl, List.forall_mem_cons.mpr ⟨mt_3 92 rfl, List.forall_mem_cons.mpr ⟨mt_3 93 rfl, List.forall_mem_cons.mpr ⟨mt_4 229 rfl, List.forall_mem_cons.mpr ⟨mt_4 230 rfl, List.forall_mem_cons.mpr ⟨mt_4 231 rfl, List.forall_mem_cons.mpr ⟨mt_4 232 rfl, List.forall_mem_cons.mpr ⟨mt_4 233 rfl, List.forall_mem_cons.mpr ⟨mt_4 235 rfl, List.forall_mem_cons.mpr ⟨mt_0 44 rfl, List.forall_mem_cons.mpr ⟨mt_4 236 rfl, List.forall_mem_cons.mpr ⟨mt_3 94 rfl, List.forall_mem_cons.mpr ⟨mt_3 95 rfl, List.forall_mem_cons.mpr ⟨mt_3 96 rfl, List.forall_mem_cons.mpr ⟨mt_3 97 rfl, List.forall_mem_cons.mpr ⟨mt_3 98 rfl, List.forall_mem_cons.mpr ⟨mt_3 99 rfl, List.forall_mem_cons.mpr ⟨mt_3 100 rfl, List.forall_mem_cons.mpr ⟨mt_3 101 rfl, List.forall_mem_cons.mpr ⟨mt_1 120 rfl, List.forall_mem_cons.mpr ⟨mt_4 237 rfl, List.forall_mem_cons.mpr ⟨mt_4 238 rfl, List.forall_mem_cons.mpr ⟨mt_4 239 rfl, List.forall_mem_cons.mpr ⟨mt_5 0 rfl, List.forall_mem_cons.mpr ⟨mt_3 102 rfl, fun _ h => absurd h List.not_mem_nil⟩⟩⟩⟩⟩⟩⟩⟩⟩⟩⟩⟩⟩⟩⟩⟩⟩⟩⟩⟩⟩⟩⟩⟩⟩⟩⟩⟩⟩⟩⟩⟩⟩⟩⟩⟩⟩⟩⟩⟩
set_option maxRecDepth 20000 in
theorem gTg_19 : gT_19.all goodWord = true := by decide +kernel
def gT_20 : List Cond := [Cond.instanceMethod yX5_lay, Cond.selects RX5 yX5_lay yX5_lay, Cond.code yX5_lay cX5_lay 6 (some .int), Cond.fieldLink RX5 244 "LemonMarket$Sheet" "lane" "I", Cond.fieldLink RX5 251 "LemonMarket$Sheet" "cells" "[I", Cond.methodLink RX5 247 yX1_faultAt, Cond.instanceMethod yX1_faultAt, Cond.selects RX1 yX1_faultAt yX1_faultAt, Cond.code yX1_faultAt cX1_faultAt 4 (some .int), Cond.methodLink RX5 254 yX1_lowestBits, Cond.instanceMethod yX1_lowestBits, Cond.selects RX1 yX1_lowestBits yX1_lowestBits, Cond.code yX1_lowestBits cX1_lowestBits 2 (some .int), Cond.methodLink RL 132 yX6_lay, Cond.instanceMethod yX6_lay, Cond.selects RX6 yX6_lay yX6_lay, Cond.code yX6_lay cX6_lay 4 (some .int), Cond.methodLink RL 133 yX5_read, Cond.instanceMethod yX5_read, Cond.selects RX5 yX5_read yX5_read, Cond.code yX5_read cX5_read 10 (some .int), Cond.methodLink RX5 257 yX1_tellsSortAt, Cond.instanceMethod yX1_tellsSortAt, Cond.selects RX1 yX1_tellsSortAt yX1_tellsSortAt, Cond.code yX1_tellsSortAt cX1_tellsSortAt 2 (some .boolean), Cond.methodLink RX5 260 yX1_addSortAt, Cond.instanceMethod yX1_addSortAt, Cond.selects RX1 yX1_addSortAt yX1_addSortAt, Cond.code yX1_addSortAt cX1_addSortAt 3 none, Cond.methodLink RX1 30 yX2_add, Cond.methodLink RL 136 yX6_read, Cond.instanceMethod yX6_read, Cond.selects RX6 yX6_read yX6_read, Cond.code yX6_read cX6_read 9 (some .int), Cond.constantLong RX6 240 (8), Cond.fieldLink RX6 242 "LemonMarketModel" "torn" "I", Cond.methodLink RL 137 yX5_torn, Cond.instanceMethod yX5_torn, Cond.selects RX5 yX5_torn yX5_torn, Cond.code yX5_torn cX5_torn 1 (some .int)]
set_option maxRecDepth 20000 in
theorem gTi_20 : ∀ w ∈ gT_20, w ∈ lw_tbl := List.forall_mem_cons.mpr ⟨mt_3 103 rfl, List.forall_mem_cons.mpr ⟨mt_3 104 rfl, List.forall_mem_cons.mpr ⟨mt_3 105 rfl, List.forall_mem_cons.mpr ⟨mt_1 121 rfl, List.forall_mem_cons.mpr ⟨mt_1 117 rfl, List.forall_mem_cons.mpr ⟨mt_3 106 rfl, List.forall_mem_cons.mpr ⟨mt_3 107 rfl, List.forall_mem_cons.mpr ⟨mt_3 108 rfl, List.forall_mem_cons.mpr ⟨mt_3 109 rfl, List.forall_mem_cons.mpr ⟨mt_3 111 rfl, List.forall_mem_cons.mpr ⟨mt_3 112 rfl, List.forall_mem_cons.mpr ⟨mt_3 113 rfl, List.forall_mem_cons.mpr ⟨mt_3 114 rfl, List.forall_mem_cons.mpr ⟨mt_5 1 rfl, List.forall_mem_cons.mpr ⟨mt_5 2 rfl, List.forall_mem_cons.mpr ⟨mt_5 3 rfl, List.forall_mem_cons.mpr ⟨mt_5 4 rfl, List.forall_mem_cons.mpr ⟨mt_3 115 rfl, List.forall_mem_cons.mpr ⟨mt_3 116 rfl, List.forall_mem_cons.mpr ⟨mt_3 117 rfl, List.forall_mem_cons.mpr ⟨mt_3 118 rfl, List.forall_mem_cons.mpr ⟨mt_3 119 rfl, List.forall_mem_cons.mpr ⟨mt_3 120 rfl, List.forall_mem_cons.mpr ⟨mt_3 121 rfl, List.forall_mem_cons.mpr ⟨mt_3 122 rfl, List.forall_mem_cons.mpr ⟨mt_3 124 rfl, List.forall_mem_cons.mpr ⟨mt_3 125 rfl, List.forall_mem_cons.mpr ⟨mt_3 126 rfl, List.forall_mem_cons.mpr ⟨mt_3 127 rfl, List.forall_mem_cons.mpr ⟨mt_3 128 rfl, List.forall_mem_cons.mpr ⟨mt_5 5 rfl, List.forall_mem_cons.mpr ⟨mt_5 6 rfl, List.forall_mem_cons.mpr ⟨mt_5 7 rfl, List.forall_mem_cons.mpr ⟨mt_5 8 rfl, List.forall_mem_cons.mpr ⟨mt_5 9 rfl, List.forall_mem_cons.mpr ⟨mt_3 180 rfl, List.forall_mem_cons.mpr ⟨mt_3 129 rfl, List.forall_mem_cons.mpr ⟨mt_3 130 rfl, List.forall_mem_cons.mpr ⟨mt_3 131 rfl, List.forall_mem_cons.mpr ⟨mt_3 132 rfl, fun _ h => absurd h List.not_mem_nil⟩⟩⟩⟩⟩⟩⟩⟩⟩⟩⟩⟩⟩⟩⟩⟩⟩⟩⟩⟩⟩⟩⟩⟩⟩⟩⟩⟩⟩⟩⟩⟩⟩⟩⟩⟩⟩⟩⟩⟩
set_option maxRecDepth 20000 in
theorem gTg_20 : gT_20.all goodWord = true := by decide +kernel
def gT_21 : List Cond := [Cond.methodLink RL 140 yX6_torn, Cond.instanceMethod yX6_torn, Cond.selects RX6 yX6_torn yX6_torn, Cond.code yX6_torn cX6_torn 1 (some .int), Cond.methodLink RL 141 yX5_count, Cond.instanceMethod yX5_count, Cond.selects RX5 yX5_count yX5_count, Cond.code yX5_count cX5_count 2 (some .int), Cond.fieldLink RX5 272 "LemonMarket$Sheet" "size" "I", Cond.methodLink RX5 264 yX2_sumOf, Cond.instanceMethod yX2_sumOf, Cond.selects RX2 yX2_sumOf yX2_sumOf, Cond.code yX2_sumOf cX2_sumOf 5 (some .int), Cond.methodLink RL 144 yX6_count, Cond.instanceMethod yX6_count, Cond.selects RX6 yX6_count yX6_count, Cond.code yX6_count cX6_count 6 (some .int)]
set_option maxRecDepth 20000 in
theorem gTi_21 : ∀ w ∈ gT_21, w ∈ lw_tbl := List.forall_mem_cons.mpr ⟨mt_5 10 rfl, List.forall_mem_cons.mpr ⟨mt_5 11 rfl, List.forall_mem_cons.mpr ⟨mt_5 12 rfl, List.forall_mem_cons.mpr ⟨mt_5 13 rfl, List.forall_mem_cons.mpr ⟨mt_3 133 rfl, List.forall_mem_cons.mpr ⟨mt_3 134 rfl, List.forall_mem_cons.mpr ⟨mt_3 135 rfl, List.forall_mem_cons.mpr ⟨mt_3 136 rfl, List.forall_mem_cons.mpr ⟨mt_1 119 rfl, List.forall_mem_cons.mpr ⟨mt_3 137 rfl, List.forall_mem_cons.mpr ⟨mt_3 138 rfl, List.forall_mem_cons.mpr ⟨mt_3 139 rfl, List.forall_mem_cons.mpr ⟨mt_3 140 rfl, List.forall_mem_cons.mpr ⟨mt_5 14 rfl, List.forall_mem_cons.mpr ⟨mt_5 15 rfl, List.forall_mem_cons.mpr ⟨mt_5 16 rfl, List.forall_mem_cons.mpr ⟨mt_5 17 rfl, fun _ h => absurd h List.not_mem_nil⟩⟩⟩⟩⟩⟩⟩⟩⟩⟩⟩⟩⟩⟩⟩⟩⟩
set_option maxRecDepth 20000 in
theorem gTg_21 : gT_21.all goodWord = true := by decide +kernel
set_option maxRecDepth 20000 in
theorem gTi_wsX00 : ∀ w ∈ wsX00, w ∈ lw_tbl := List.forall_mem_cons.mpr ⟨mt_1 54 rfl, List.forall_mem_cons.mpr ⟨mt_1 56 rfl, List.forall_mem_cons.mpr ⟨mt_1 58 rfl, List.forall_mem_cons.mpr ⟨mt_1 60 rfl, List.forall_mem_cons.mpr ⟨mt_1 62 rfl, List.forall_mem_cons.mpr ⟨mt_1 64 rfl, List.forall_mem_cons.mpr ⟨mt_1 66 rfl, List.forall_mem_cons.mpr ⟨mt_1 68 rfl, List.forall_mem_cons.mpr ⟨mt_1 70 rfl, fun _ h => absurd h List.not_mem_nil⟩⟩⟩⟩⟩⟩⟩⟩⟩
set_option maxRecDepth 20000 in
theorem gTg_wsX00 : (wsX00).all goodWord = true := by decide +kernel
set_option maxRecDepth 20000 in
theorem gTi_wsX10 : ∀ w ∈ wsX10, w ∈ lw_tbl := List.forall_mem_cons.mpr ⟨mt_1 122 rfl, List.forall_mem_cons.mpr ⟨mt_1 124 rfl, List.forall_mem_cons.mpr ⟨mt_1 126 rfl, fun _ h => absurd h List.not_mem_nil⟩⟩⟩
set_option maxRecDepth 20000 in
theorem gTg_wsX10 : (wsX10).all goodWord = true := by decide +kernel
set_option maxRecDepth 20000 in
theorem gTi_wsX20 : ∀ w ∈ wsX20, w ∈ lw_tbl := List.forall_mem_cons.mpr ⟨mt_1 170 rfl, List.forall_mem_cons.mpr ⟨mt_1 172 rfl, List.forall_mem_cons.mpr ⟨mt_1 174 rfl, List.forall_mem_cons.mpr ⟨mt_1 176 rfl, List.forall_mem_cons.mpr ⟨mt_1 178 rfl, List.forall_mem_cons.mpr ⟨mt_1 180 rfl, List.forall_mem_cons.mpr ⟨mt_1 182 rfl, List.forall_mem_cons.mpr ⟨mt_1 184 rfl, List.forall_mem_cons.mpr ⟨mt_1 186 rfl, List.forall_mem_cons.mpr ⟨mt_1 188 rfl, fun _ h => absurd h List.not_mem_nil⟩⟩⟩⟩⟩⟩⟩⟩⟩⟩
set_option maxRecDepth 20000 in
theorem gTg_wsX20 : (wsX20).all goodWord = true := by decide +kernel
set_option maxRecDepth 20000 in
theorem gTi_wsX30 : ∀ w ∈ wsX30, w ∈ lw_tbl := List.forall_mem_cons.mpr ⟨mt_1 30 rfl, List.forall_mem_cons.mpr ⟨mt_1 32 rfl, fun _ h => absurd h List.not_mem_nil⟩⟩
set_option maxRecDepth 20000 in
theorem gTg_wsX30 : (wsX30).all goodWord = true := by decide +kernel
set_option maxRecDepth 20000 in
theorem gTi_wsX40 : ∀ w ∈ wsX40, w ∈ lw_tbl := List.forall_mem_cons.mpr ⟨mt_1 93 rfl, List.forall_mem_cons.mpr ⟨mt_1 95 rfl, List.forall_mem_cons.mpr ⟨mt_1 97 rfl, List.forall_mem_cons.mpr ⟨mt_1 99 rfl, List.forall_mem_cons.mpr ⟨mt_1 101 rfl, List.forall_mem_cons.mpr ⟨mt_1 103 rfl, List.forall_mem_cons.mpr ⟨mt_1 105 rfl, fun _ h => absurd h List.not_mem_nil⟩⟩⟩⟩⟩⟩⟩
set_option maxRecDepth 20000 in
theorem gTg_wsX40 : (wsX40).all goodWord = true := by decide +kernel
set_option maxRecDepth 20000 in
theorem gTi_wsX50 : ∀ w ∈ wsX50, w ∈ lw_tbl := List.forall_mem_cons.mpr ⟨mt_1 203 rfl, List.forall_mem_cons.mpr ⟨mt_1 205 rfl, List.forall_mem_cons.mpr ⟨mt_1 207 rfl, List.forall_mem_cons.mpr ⟨mt_1 209 rfl, List.forall_mem_cons.mpr ⟨mt_1 211 rfl, List.forall_mem_cons.mpr ⟨mt_1 213 rfl, List.forall_mem_cons.mpr ⟨mt_1 215 rfl, List.forall_mem_cons.mpr ⟨mt_1 217 rfl, fun _ h => absurd h List.not_mem_nil⟩⟩⟩⟩⟩⟩⟩⟩
set_option maxRecDepth 20000 in
theorem gTg_wsX50 : (wsX50).all goodWord = true := by decide +kernel
set_option maxRecDepth 20000 in
theorem gTi_wsX60 : ∀ w ∈ wsX60, w ∈ lw_tbl := List.forall_mem_cons.mpr ⟨mt_3 181 rfl, List.forall_mem_cons.mpr ⟨mt_3 183 rfl, List.forall_mem_cons.mpr ⟨mt_3 185 rfl, List.forall_mem_cons.mpr ⟨mt_3 187 rfl, List.forall_mem_cons.mpr ⟨mt_3 189 rfl, List.forall_mem_cons.mpr ⟨mt_3 191 rfl, List.forall_mem_cons.mpr ⟨mt_3 193 rfl, List.forall_mem_cons.mpr ⟨mt_3 195 rfl, List.forall_mem_cons.mpr ⟨mt_3 197 rfl, List.forall_mem_cons.mpr ⟨mt_3 199 rfl, List.forall_mem_cons.mpr ⟨mt_3 201 rfl, List.forall_mem_cons.mpr ⟨mt_3 203 rfl, List.forall_mem_cons.mpr ⟨mt_3 205 rfl, List.forall_mem_cons.mpr ⟨mt_3 207 rfl, List.forall_mem_cons.mpr ⟨mt_3 209 rfl, List.forall_mem_cons.mpr ⟨mt_3 211 rfl, List.forall_mem_cons.mpr ⟨mt_3 213 rfl, List.forall_mem_cons.mpr ⟨mt_3 215 rfl, List.forall_mem_cons.mpr ⟨mt_3 217 rfl, List.forall_mem_cons.mpr ⟨mt_3 219 rfl, List.forall_mem_cons.mpr ⟨mt_3 221 rfl, List.forall_mem_cons.mpr ⟨mt_3 223 rfl, List.forall_mem_cons.mpr ⟨mt_3 225 rfl, List.forall_mem_cons.mpr ⟨mt_3 227 rfl, List.forall_mem_cons.mpr ⟨mt_3 229 rfl, List.forall_mem_cons.mpr ⟨mt_3 231 rfl, List.forall_mem_cons.mpr ⟨mt_3 233 rfl, List.forall_mem_cons.mpr ⟨mt_3 235 rfl, List.forall_mem_cons.mpr ⟨mt_3 237 rfl, List.forall_mem_cons.mpr ⟨mt_3 239 rfl, List.forall_mem_cons.mpr ⟨mt_4 1 rfl, List.forall_mem_cons.mpr ⟨mt_4 3 rfl, List.forall_mem_cons.mpr ⟨mt_4 5 rfl, List.forall_mem_cons.mpr ⟨mt_4 7 rfl, fun _ h => absurd h List.not_mem_nil⟩⟩⟩⟩⟩⟩⟩⟩⟩⟩⟩⟩⟩⟩⟩⟩⟩⟩⟩⟩⟩⟩⟩⟩⟩⟩⟩⟩⟩⟩⟩⟩⟩⟩
set_option maxRecDepth 20000 in
theorem gTg_wsX60 : (wsX60).all goodWord = true := by decide +kernel
def gT : List Cond := gT_1 ++ (gT_2 ++ (gT_3 ++ (gT_4 ++ (gT_5 ++ (gT_6 ++ (gT_7 ++ (gT_8 ++ (gT_9 ++ (gT_10 ++ (gT_11 ++ (gT_12 ++ (gT_13 ++ (gT_14 ++ (gT_15 ++ (gT_16 ++ (gT_17 ++ (gT_18 ++ (gT_19 ++ (gT_20 ++ (gT_21 ++ (wsX00 ++ (wsX10 ++ (wsX20 ++ (wsX30 ++ (wsX40 ++ (wsX50 ++ (wsX60)))))))))))))))))))))))))))
theorem gm_1 {w : Cond} (h : w ∈ gT_1) : w ∈ gT := List.mem_append_left _ (h)
theorem gm_2 {w : Cond} (h : w ∈ gT_2) : w ∈ gT := List.mem_append_right _ (List.mem_append_left _ (h))
theorem gm_3 {w : Cond} (h : w ∈ gT_3) : w ∈ gT := List.mem_append_right _ (List.mem_append_right _ (List.mem_append_left _ (h)))
theorem gm_4 {w : Cond} (h : w ∈ gT_4) : w ∈ gT := List.mem_append_right _ (List.mem_append_right _ (List.mem_append_right _ (List.mem_append_left _ (h))))
theorem gm_5 {w : Cond} (h : w ∈ gT_5) : w ∈ gT := List.mem_append_right _ (List.mem_append_right _ (List.mem_append_right _ (List.mem_append_right _ (List.mem_append_left _ (h)))))
theorem gm_6 {w : Cond} (h : w ∈ gT_6) : w ∈ gT := List.mem_append_right _ (List.mem_append_right _ (List.mem_append_right _ (List.mem_append_right _ (List.mem_append_right _ (List.mem_append_left _ (h))))))
theorem gm_7 {w : Cond} (h : w ∈ gT_7) : w ∈ gT := List.mem_append_right _ (List.mem_append_right _ (List.mem_append_right _ (List.mem_append_right _ (List.mem_append_right _ (List.mem_append_right _ (List.mem_append_left _ (h)))))))
theorem gm_8 {w : Cond} (h : w ∈ gT_8) : w ∈ gT := List.mem_append_right _ (List.mem_append_right _ (List.mem_append_right _ (List.mem_append_right _ (List.mem_append_right _ (List.mem_append_right _ (List.mem_append_right _ (List.mem_append_left _ (h))))))))
theorem gm_9 {w : Cond} (h : w ∈ gT_9) : w ∈ gT := List.mem_append_right _ (List.mem_append_right _ (List.mem_append_right _ (List.mem_append_right _ (List.mem_append_right _ (List.mem_append_right _ (List.mem_append_right _ (List.mem_append_right _ (List.mem_append_left _ (h)))))))))
theorem gm_10 {w : Cond} (h : w ∈ gT_10) : w ∈ gT := List.mem_append_right _ (List.mem_append_right _ (List.mem_append_right _ (List.mem_append_right _ (List.mem_append_right _ (List.mem_append_right _ (List.mem_append_right _ (List.mem_append_right _ (List.mem_append_right _ (List.mem_append_left _ (h))))))))))
theorem gm_11 {w : Cond} (h : w ∈ gT_11) : w ∈ gT := List.mem_append_right _ (List.mem_append_right _ (List.mem_append_right _ (List.mem_append_right _ (List.mem_append_right _ (List.mem_append_right _ (List.mem_append_right _ (List.mem_append_right _ (List.mem_append_right _ (List.mem_append_right _ (List.mem_append_left _ (h)))))))))))
theorem gm_12 {w : Cond} (h : w ∈ gT_12) : w ∈ gT := List.mem_append_right _ (List.mem_append_right _ (List.mem_append_right _ (List.mem_append_right _ (List.mem_append_right _ (List.mem_append_right _ (List.mem_append_right _ (List.mem_append_right _ (List.mem_append_right _ (List.mem_append_right _ (List.mem_append_right _ (List.mem_append_left _ (h))))))))))))
theorem gm_13 {w : Cond} (h : w ∈ gT_13) : w ∈ gT := List.mem_append_right _ (List.mem_append_right _ (List.mem_append_right _ (List.mem_append_right _ (List.mem_append_right _ (List.mem_append_right _ (List.mem_append_right _ (List.mem_append_right _ (List.mem_append_right _ (List.mem_append_right _ (List.mem_append_right _ (List.mem_append_right _ (List.mem_append_left _ (h)))))))))))))
theorem gm_14 {w : Cond} (h : w ∈ gT_14) : w ∈ gT := List.mem_append_right _ (List.mem_append_right _ (List.mem_append_right _ (List.mem_append_right _ (List.mem_append_right _ (List.mem_append_right _ (List.mem_append_right _ (List.mem_append_right _ (List.mem_append_right _ (List.mem_append_right _ (List.mem_append_right _ (List.mem_append_right _ (List.mem_append_right _ (List.mem_append_left _ (h))))))))))))))
theorem gm_15 {w : Cond} (h : w ∈ gT_15) : w ∈ gT := List.mem_append_right _ (List.mem_append_right _ (List.mem_append_right _ (List.mem_append_right _ (List.mem_append_right _ (List.mem_append_right _ (List.mem_append_right _ (List.mem_append_right _ (List.mem_append_right _ (List.mem_append_right _ (List.mem_append_right _ (List.mem_append_right _ (List.mem_append_right _ (List.mem_append_right _ (List.mem_append_left _ (h)))))))))))))))
theorem gm_16 {w : Cond} (h : w ∈ gT_16) : w ∈ gT := List.mem_append_right _ (List.mem_append_right _ (List.mem_append_right _ (List.mem_append_right _ (List.mem_append_right _ (List.mem_append_right _ (List.mem_append_right _ (List.mem_append_right _ (List.mem_append_right _ (List.mem_append_right _ (List.mem_append_right _ (List.mem_append_right _ (List.mem_append_right _ (List.mem_append_right _ (List.mem_append_right _ (List.mem_append_left _ (h))))))))))))))))
theorem gm_17 {w : Cond} (h : w ∈ gT_17) : w ∈ gT := List.mem_append_right _ (List.mem_append_right _ (List.mem_append_right _ (List.mem_append_right _ (List.mem_append_right _ (List.mem_append_right _ (List.mem_append_right _ (List.mem_append_right _ (List.mem_append_right _ (List.mem_append_right _ (List.mem_append_right _ (List.mem_append_right _ (List.mem_append_right _ (List.mem_append_right _ (List.mem_append_right _ (List.mem_append_right _ (List.mem_append_left _ (h)))))))))))))))))
theorem gm_18 {w : Cond} (h : w ∈ gT_18) : w ∈ gT := List.mem_append_right _ (List.mem_append_right _ (List.mem_append_right _ (List.mem_append_right _ (List.mem_append_right _ (List.mem_append_right _ (List.mem_append_right _ (List.mem_append_right _ (List.mem_append_right _ (List.mem_append_right _ (List.mem_append_right _ (List.mem_append_right _ (List.mem_append_right _ (List.mem_append_right _ (List.mem_append_right _ (List.mem_append_right _ (List.mem_append_right _ (List.mem_append_left _ (h))))))))))))))))))
theorem gm_19 {w : Cond} (h : w ∈ gT_19) : w ∈ gT := List.mem_append_right _ (List.mem_append_right _ (List.mem_append_right _ (List.mem_append_right _ (List.mem_append_right _ (List.mem_append_right _ (List.mem_append_right _ (List.mem_append_right _ (List.mem_append_right _ (List.mem_append_right _ (List.mem_append_right _ (List.mem_append_right _ (List.mem_append_right _ (List.mem_append_right _ (List.mem_append_right _ (List.mem_append_right _ (List.mem_append_right _ (List.mem_append_right _ (List.mem_append_left _ (h)))))))))))))))))))
theorem gm_20 {w : Cond} (h : w ∈ gT_20) : w ∈ gT := List.mem_append_right _ (List.mem_append_right _ (List.mem_append_right _ (List.mem_append_right _ (List.mem_append_right _ (List.mem_append_right _ (List.mem_append_right _ (List.mem_append_right _ (List.mem_append_right _ (List.mem_append_right _ (List.mem_append_right _ (List.mem_append_right _ (List.mem_append_right _ (List.mem_append_right _ (List.mem_append_right _ (List.mem_append_right _ (List.mem_append_right _ (List.mem_append_right _ (List.mem_append_right _ (List.mem_append_left _ (h))))))))))))))))))))
theorem gm_21 {w : Cond} (h : w ∈ gT_21) : w ∈ gT := List.mem_append_right _ (List.mem_append_right _ (List.mem_append_right _ (List.mem_append_right _ (List.mem_append_right _ (List.mem_append_right _ (List.mem_append_right _ (List.mem_append_right _ (List.mem_append_right _ (List.mem_append_right _ (List.mem_append_right _ (List.mem_append_right _ (List.mem_append_right _ (List.mem_append_right _ (List.mem_append_right _ (List.mem_append_right _ (List.mem_append_right _ (List.mem_append_right _ (List.mem_append_right _ (List.mem_append_right _ (List.mem_append_left _ (h)))))))))))))))))))))
theorem gm_wsX00 {w : Cond} (h : w ∈ wsX00) : w ∈ gT := List.mem_append_right _ (List.mem_append_right _ (List.mem_append_right _ (List.mem_append_right _ (List.mem_append_right _ (List.mem_append_right _ (List.mem_append_right _ (List.mem_append_right _ (List.mem_append_right _ (List.mem_append_right _ (List.mem_append_right _ (List.mem_append_right _ (List.mem_append_right _ (List.mem_append_right _ (List.mem_append_right _ (List.mem_append_right _ (List.mem_append_right _ (List.mem_append_right _ (List.mem_append_right _ (List.mem_append_right _ (List.mem_append_right _ (List.mem_append_left _ (h))))))))))))))))))))))
theorem gm_wsX10 {w : Cond} (h : w ∈ wsX10) : w ∈ gT := List.mem_append_right _ (List.mem_append_right _ (List.mem_append_right _ (List.mem_append_right _ (List.mem_append_right _ (List.mem_append_right _ (List.mem_append_right _ (List.mem_append_right _ (List.mem_append_right _ (List.mem_append_right _ (List.mem_append_right _ (List.mem_append_right _ (List.mem_append_right _ (List.mem_append_right _ (List.mem_append_right _ (List.mem_append_right _ (List.mem_append_right _ (List.mem_append_right _ (List.mem_append_right _ (List.mem_append_right _ (List.mem_append_right _ (List.mem_append_right _ (List.mem_append_left _ (h)))))))))))))))))))))))
theorem gm_wsX20 {w : Cond} (h : w ∈ wsX20) : w ∈ gT := List.mem_append_right _ (List.mem_append_right _ (List.mem_append_right _ (List.mem_append_right _ (List.mem_append_right _ (List.mem_append_right _ (List.mem_append_right _ (List.mem_append_right _ (List.mem_append_right _ (List.mem_append_right _ (List.mem_append_right _ (List.mem_append_right _ (List.mem_append_right _ (List.mem_append_right _ (List.mem_append_right _ (List.mem_append_right _ (List.mem_append_right _ (List.mem_append_right _ (List.mem_append_right _ (List.mem_append_right _ (List.mem_append_right _ (List.mem_append_right _ (List.mem_append_right _ (List.mem_append_left _ (h))))))))))))))))))))))))
theorem gm_wsX30 {w : Cond} (h : w ∈ wsX30) : w ∈ gT := List.mem_append_right _ (List.mem_append_right _ (List.mem_append_right _ (List.mem_append_right _ (List.mem_append_right _ (List.mem_append_right _ (List.mem_append_right _ (List.mem_append_right _ (List.mem_append_right _ (List.mem_append_right _ (List.mem_append_right _ (List.mem_append_right _ (List.mem_append_right _ (List.mem_append_right _ (List.mem_append_right _ (List.mem_append_right _ (List.mem_append_right _ (List.mem_append_right _ (List.mem_append_right _ (List.mem_append_right _ (List.mem_append_right _ (List.mem_append_right _ (List.mem_append_right _ (List.mem_append_right _ (List.mem_append_left _ (h)))))))))))))))))))))))))
theorem gm_wsX40 {w : Cond} (h : w ∈ wsX40) : w ∈ gT := List.mem_append_right _ (List.mem_append_right _ (List.mem_append_right _ (List.mem_append_right _ (List.mem_append_right _ (List.mem_append_right _ (List.mem_append_right _ (List.mem_append_right _ (List.mem_append_right _ (List.mem_append_right _ (List.mem_append_right _ (List.mem_append_right _ (List.mem_append_right _ (List.mem_append_right _ (List.mem_append_right _ (List.mem_append_right _ (List.mem_append_right _ (List.mem_append_right _ (List.mem_append_right _ (List.mem_append_right _ (List.mem_append_right _ (List.mem_append_right _ (List.mem_append_right _ (List.mem_append_right _ (List.mem_append_right _ (List.mem_append_left _ (h))))))))))))))))))))))))))
theorem gm_wsX50 {w : Cond} (h : w ∈ wsX50) : w ∈ gT := List.mem_append_right _ (List.mem_append_right _ (List.mem_append_right _ (List.mem_append_right _ (List.mem_append_right _ (List.mem_append_right _ (List.mem_append_right _ (List.mem_append_right _ (List.mem_append_right _ (List.mem_append_right _ (List.mem_append_right _ (List.mem_append_right _ (List.mem_append_right _ (List.mem_append_right _ (List.mem_append_right _ (List.mem_append_right _ (List.mem_append_right _ (List.mem_append_right _ (List.mem_append_right _ (List.mem_append_right _ (List.mem_append_right _ (List.mem_append_right _ (List.mem_append_right _ (List.mem_append_right _ (List.mem_append_right _ (List.mem_append_right _ (List.mem_append_left _ (h)))))))))))))))))))))))))))
theorem gm_wsX60 {w : Cond} (h : w ∈ wsX60) : w ∈ gT := List.mem_append_right _ (List.mem_append_right _ (List.mem_append_right _ (List.mem_append_right _ (List.mem_append_right _ (List.mem_append_right _ (List.mem_append_right _ (List.mem_append_right _ (List.mem_append_right _ (List.mem_append_right _ (List.mem_append_right _ (List.mem_append_right _ (List.mem_append_right _ (List.mem_append_right _ (List.mem_append_right _ (List.mem_append_right _ (List.mem_append_right _ (List.mem_append_right _ (List.mem_append_right _ (List.mem_append_right _ (List.mem_append_right _ (List.mem_append_right _ (List.mem_append_right _ (List.mem_append_right _ (List.mem_append_right _ (List.mem_append_right _ (List.mem_append_right _ (h)))))))))))))))))))))))))))
theorem gT_in : ∀ w ∈ gT, w ∈ lw_tbl := fun w h => (List.mem_append.mp h).elim (fun h => gTi_1 w h) (fun h => (List.mem_append.mp h).elim (fun h => gTi_2 w h) (fun h => (List.mem_append.mp h).elim (fun h => gTi_3 w h) (fun h => (List.mem_append.mp h).elim (fun h => gTi_4 w h) (fun h => (List.mem_append.mp h).elim (fun h => gTi_5 w h) (fun h => (List.mem_append.mp h).elim (fun h => gTi_6 w h) (fun h => (List.mem_append.mp h).elim (fun h => gTi_7 w h) (fun h => (List.mem_append.mp h).elim (fun h => gTi_8 w h) (fun h => (List.mem_append.mp h).elim (fun h => gTi_9 w h) (fun h => (List.mem_append.mp h).elim (fun h => gTi_10 w h) (fun h => (List.mem_append.mp h).elim (fun h => gTi_11 w h) (fun h => (List.mem_append.mp h).elim (fun h => gTi_12 w h) (fun h => (List.mem_append.mp h).elim (fun h => gTi_13 w h) (fun h => (List.mem_append.mp h).elim (fun h => gTi_14 w h) (fun h => (List.mem_append.mp h).elim (fun h => gTi_15 w h) (fun h => (List.mem_append.mp h).elim (fun h => gTi_16 w h) (fun h => (List.mem_append.mp h).elim (fun h => gTi_17 w h) (fun h => (List.mem_append.mp h).elim (fun h => gTi_18 w h) (fun h => (List.mem_append.mp h).elim (fun h => gTi_19 w h) (fun h => (List.mem_append.mp h).elim (fun h => gTi_20 w h) (fun h => (List.mem_append.mp h).elim (fun h => gTi_21 w h) (fun h => (List.mem_append.mp h).elim (fun h => gTi_wsX00 w h) (fun h => (List.mem_append.mp h).elim (fun h => gTi_wsX10 w h) (fun h => (List.mem_append.mp h).elim (fun h => gTi_wsX20 w h) (fun h => (List.mem_append.mp h).elim (fun h => gTi_wsX30 w h) (fun h => (List.mem_append.mp h).elim (fun h => gTi_wsX40 w h) (fun h => (List.mem_append.mp h).elim (fun h => gTi_wsX50 w h) (fun h => gTi_wsX60 w h)))))))))))))))))))))))))))
theorem gTh_1 : ∀ w ∈ gT_1, (w.onTables && w.keeps) = true ∨ ∃ ty, w = .arrayClass ty := fun w h => good_of_word (List.all_eq_true.mp gTg_1 w h)
theorem gTh_2 : ∀ w ∈ gT_2, (w.onTables && w.keeps) = true ∨ ∃ ty, w = .arrayClass ty := fun w h => good_of_word (List.all_eq_true.mp gTg_2 w h)
theorem gTh_3 : ∀ w ∈ gT_3, (w.onTables && w.keeps) = true ∨ ∃ ty, w = .arrayClass ty := fun w h => good_of_word (List.all_eq_true.mp gTg_3 w h)
theorem gTh_4 : ∀ w ∈ gT_4, (w.onTables && w.keeps) = true ∨ ∃ ty, w = .arrayClass ty := fun w h => good_of_word (List.all_eq_true.mp gTg_4 w h)
theorem gTh_5 : ∀ w ∈ gT_5, (w.onTables && w.keeps) = true ∨ ∃ ty, w = .arrayClass ty := fun w h => good_of_word (List.all_eq_true.mp gTg_5 w h)
theorem gTh_6 : ∀ w ∈ gT_6, (w.onTables && w.keeps) = true ∨ ∃ ty, w = .arrayClass ty := fun w h => good_of_word (List.all_eq_true.mp gTg_6 w h)
theorem gTh_7 : ∀ w ∈ gT_7, (w.onTables && w.keeps) = true ∨ ∃ ty, w = .arrayClass ty := fun w h => good_of_word (List.all_eq_true.mp gTg_7 w h)
theorem gTh_8 : ∀ w ∈ gT_8, (w.onTables && w.keeps) = true ∨ ∃ ty, w = .arrayClass ty := fun w h => good_of_word (List.all_eq_true.mp gTg_8 w h)
theorem gTh_9 : ∀ w ∈ gT_9, (w.onTables && w.keeps) = true ∨ ∃ ty, w = .arrayClass ty := fun w h => good_of_word (List.all_eq_true.mp gTg_9 w h)
theorem gTh_10 : ∀ w ∈ gT_10, (w.onTables && w.keeps) = true ∨ ∃ ty, w = .arrayClass ty := fun w h => good_of_word (List.all_eq_true.mp gTg_10 w h)
theorem gTh_11 : ∀ w ∈ gT_11, (w.onTables && w.keeps) = true ∨ ∃ ty, w = .arrayClass ty := fun w h => good_of_word (List.all_eq_true.mp gTg_11 w h)
theorem gTh_12 : ∀ w ∈ gT_12, (w.onTables && w.keeps) = true ∨ ∃ ty, w = .arrayClass ty := fun w h => good_of_word (List.all_eq_true.mp gTg_12 w h)
theorem gTh_13 : ∀ w ∈ gT_13, (w.onTables && w.keeps) = true ∨ ∃ ty, w = .arrayClass ty := fun w h => good_of_word (List.all_eq_true.mp gTg_13 w h)
theorem gTh_14 : ∀ w ∈ gT_14, (w.onTables && w.keeps) = true ∨ ∃ ty, w = .arrayClass ty := fun w h => good_of_word (List.all_eq_true.mp gTg_14 w h)
theorem gTh_15 : ∀ w ∈ gT_15, (w.onTables && w.keeps) = true ∨ ∃ ty, w = .arrayClass ty := fun w h => good_of_word (List.all_eq_true.mp gTg_15 w h)
theorem gTh_16 : ∀ w ∈ gT_16, (w.onTables && w.keeps) = true ∨ ∃ ty, w = .arrayClass ty := fun w h => good_of_word (List.all_eq_true.mp gTg_16 w h)
theorem gTh_17 : ∀ w ∈ gT_17, (w.onTables && w.keeps) = true ∨ ∃ ty, w = .arrayClass ty := fun w h => good_of_word (List.all_eq_true.mp gTg_17 w h)
theorem gTh_18 : ∀ w ∈ gT_18, (w.onTables && w.keeps) = true ∨ ∃ ty, w = .arrayClass ty := fun w h => good_of_word (List.all_eq_true.mp gTg_18 w h)
theorem gTh_19 : ∀ w ∈ gT_19, (w.onTables && w.keeps) = true ∨ ∃ ty, w = .arrayClass ty := fun w h => good_of_word (List.all_eq_true.mp gTg_19 w h)
theorem gTh_20 : ∀ w ∈ gT_20, (w.onTables && w.keeps) = true ∨ ∃ ty, w = .arrayClass ty := fun w h => good_of_word (List.all_eq_true.mp gTg_20 w h)
theorem gTh_21 : ∀ w ∈ gT_21, (w.onTables && w.keeps) = true ∨ ∃ ty, w = .arrayClass ty := fun w h => good_of_word (List.all_eq_true.mp gTg_21 w h)
theorem gTh_wsX00 : ∀ w ∈ wsX00, (w.onTables && w.keeps) = true ∨ ∃ ty, w = .arrayClass ty := fun w h => good_of_word (List.all_eq_true.mp gTg_wsX00 w h)
theorem gTh_wsX10 : ∀ w ∈ wsX10, (w.onTables && w.keeps) = true ∨ ∃ ty, w = .arrayClass ty := fun w h => good_of_word (List.all_eq_true.mp gTg_wsX10 w h)
theorem gTh_wsX20 : ∀ w ∈ wsX20, (w.onTables && w.keeps) = true ∨ ∃ ty, w = .arrayClass ty := fun w h => good_of_word (List.all_eq_true.mp gTg_wsX20 w h)
theorem gTh_wsX30 : ∀ w ∈ wsX30, (w.onTables && w.keeps) = true ∨ ∃ ty, w = .arrayClass ty := fun w h => good_of_word (List.all_eq_true.mp gTg_wsX30 w h)
theorem gTh_wsX40 : ∀ w ∈ wsX40, (w.onTables && w.keeps) = true ∨ ∃ ty, w = .arrayClass ty := fun w h => good_of_word (List.all_eq_true.mp gTg_wsX40 w h)
theorem gTh_wsX50 : ∀ w ∈ wsX50, (w.onTables && w.keeps) = true ∨ ∃ ty, w = .arrayClass ty := fun w h => good_of_word (List.all_eq_true.mp gTg_wsX50 w h)
theorem gTh_wsX60 : ∀ w ∈ wsX60, (w.onTables && w.keeps) = true ∨ ∃ ty, w = .arrayClass ty := fun w h => good_of_word (List.all_eq_true.mp gTg_wsX60 w h)
theorem gT_good : ∀ w ∈ gT, (w.onTables && w.keeps) = true ∨ ∃ ty, w = .arrayClass ty := fun w h => (List.mem_append.mp h).elim (fun h => gTh_1 w h) (fun h => (List.mem_append.mp h).elim (fun h => gTh_2 w h) (fun h => (List.mem_append.mp h).elim (fun h => gTh_3 w h) (fun h => (List.mem_append.mp h).elim (fun h => gTh_4 w h) (fun h => (List.mem_append.mp h).elim (fun h => gTh_5 w h) (fun h => (List.mem_append.mp h).elim (fun h => gTh_6 w h) (fun h => (List.mem_append.mp h).elim (fun h => gTh_7 w h) (fun h => (List.mem_append.mp h).elim (fun h => gTh_8 w h) (fun h => (List.mem_append.mp h).elim (fun h => gTh_9 w h) (fun h => (List.mem_append.mp h).elim (fun h => gTh_10 w h) (fun h => (List.mem_append.mp h).elim (fun h => gTh_11 w h) (fun h => (List.mem_append.mp h).elim (fun h => gTh_12 w h) (fun h => (List.mem_append.mp h).elim (fun h => gTh_13 w h) (fun h => (List.mem_append.mp h).elim (fun h => gTh_14 w h) (fun h => (List.mem_append.mp h).elim (fun h => gTh_15 w h) (fun h => (List.mem_append.mp h).elim (fun h => gTh_16 w h) (fun h => (List.mem_append.mp h).elim (fun h => gTh_17 w h) (fun h => (List.mem_append.mp h).elim (fun h => gTh_18 w h) (fun h => (List.mem_append.mp h).elim (fun h => gTh_19 w h) (fun h => (List.mem_append.mp h).elim (fun h => gTh_20 w h) (fun h => (List.mem_append.mp h).elim (fun h => gTh_21 w h) (fun h => (List.mem_append.mp h).elim (fun h => gTh_wsX00 w h) (fun h => (List.mem_append.mp h).elim (fun h => gTh_wsX10 w h) (fun h => (List.mem_append.mp h).elim (fun h => gTh_wsX20 w h) (fun h => (List.mem_append.mp h).elim (fun h => gTh_wsX30 w h) (fun h => (List.mem_append.mp h).elim (fun h => gTh_wsX40 w h) (fun h => (List.mem_append.mp h).elim (fun h => gTh_wsX50 w h) (fun h => gTh_wsX60 w h)))))))))))))))))))))))))))
