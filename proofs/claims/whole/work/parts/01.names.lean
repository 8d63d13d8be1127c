def RX0 : String := "InnerCaptures$Cell"
def TX0 : u_T := fun k => match k with
  | 0 => ("InnerCaptures$Cell", "row", "[J", false)
  | 1 => ("InnerCaptures$Cell", "index", "I", false)
  | _ => ("InnerCaptures$Cell", "isCopy", "Z", false)
def tyX0 : Nat → FieldType := fun k => match k with
  | 0 => .array .long
  | 1 => .int
  | _ => .boolean
theorem nmX0 : ∀ a, a < 3 → ∀ b, b < 3 → a ≠ b → (TX0 a).2.1 ≠ (TX0 b).2.1 := by decide +kernel
theorem tyX0_ok : ∀ k, k < 3 → parseFieldDescriptor (TX0 k).2.2.1 = some (tyX0 k) := by decide +kernel
abbrev cX0_init : ByteArray := prog_2_method_1_code
def yX0_init : MethodName := ⟨RX0, "<init>", "()V"⟩
abbrev cX0_pointAt : ByteArray := prog_2_method_2_code
def yX0_pointAt : MethodName := ⟨RX0, "pointAt", "([JIZ)V"⟩
abbrev cX0_isThere : ByteArray := prog_2_method_3_code
def yX0_isThere : MethodName := ⟨RX0, "isThere", "()Z"⟩
abbrev cX0_read : ByteArray := prog_2_method_4_code
def yX0_read : MethodName := ⟨RX0, "read", "()J"⟩
abbrev cX0_write : ByteArray := prog_2_method_5_code
def yX0_write : MethodName := ⟨RX0, "write", "(J)V"⟩
def RX1 : String := "InnerCaptures$Fields"
def TX1 : u_T := fun k => match k with
  | 0 => ("InnerCaptures$Fields", "names", "[I", true)
  | 1 => ("InnerCaptures$Fields", "values", "[J", true)
  | 2 => ("InnerCaptures$Fields", "statics", "[Z", true)
  | _ => ("InnerCaptures$Fields", "size", "I", false)
def tyX1 : Nat → FieldType := fun k => match k with
  | 0 => .array .int
  | 1 => .array .long
  | 2 => .array .boolean
  | _ => .int
theorem nmX1 : ∀ a, a < 4 → ∀ b, b < 4 → a ≠ b → (TX1 a).2.1 ≠ (TX1 b).2.1 := by decide +kernel
theorem tyX1_ok : ∀ k, k < 4 → parseFieldDescriptor (TX1 k).2.2.1 = some (tyX1 k) := by decide +kernel
abbrev cX1_init : ByteArray := prog_3_method_1_code
def yX1_init : MethodName := ⟨RX1, "<init>", "()V"⟩
abbrev cX1_add : ByteArray := prog_3_method_2_code
def yX1_add : MethodName := ⟨RX1, "add", "(IJZ)V"⟩
abbrev cX1_has : ByteArray := prog_3_method_3_code
def yX1_has : MethodName := ⟨RX1, "has", "(I)Z"⟩
abbrev cX1_isStatic : ByteArray := prog_3_method_4_code
def yX1_isStatic : MethodName := ⟨RX1, "isStatic", "(I)Z"⟩
abbrev cX1_indexOf : ByteArray := prog_3_method_5_code
def yX1_indexOf : MethodName := ⟨RX1, "indexOf", "(I)I"⟩
abbrev cX1_firstCells : ByteArray := prog_3_method_6_code
def yX1_firstCells : MethodName := ⟨RX1, "firstCells", "()[J"⟩
def RX2 : String := "InnerCaptures$Lambda"
def TX2 : u_T := fun k => match k with
  | 0 => ("InnerCaptures$Lambda", "home", "LInnerCaptures$Type;", true)
  | 1 => ("InnerCaptures$Lambda", "kept", "LInnerCaptures$Thing;", true)
  | _ => ("InnerCaptures$Lambda", "copies", "[J", true)
def tyX2 : Nat → FieldType := fun k => match k with
  | 0 => .object "InnerCaptures$Type"
  | 1 => .object "InnerCaptures$Thing"
  | _ => .array .long
theorem nmX2 : ∀ a, a < 3 → ∀ b, b < 3 → a ≠ b → (TX2 a).2.1 ≠ (TX2 b).2.1 := by decide +kernel
theorem tyX2_ok : ∀ k, k < 3 → parseFieldDescriptor (TX2 k).2.2.1 = some (tyX2 k) := by decide +kernel
abbrev cX2_init : ByteArray := prog_4_method_1_code
def yX2_init : MethodName := ⟨RX2, "<init>", "(LInnerCaptures$Type;LInnerCaptures$Thing;[J)V"⟩
def RX3 : String := "InnerCaptures$Level"
def TX3 : u_T := fun k => match k with
  | 0 => ("InnerCaptures$Level", "levelType", "LInnerCaptures$Type;", true)
  | 1 => ("InnerCaptures$Level", "around", "LInnerCaptures$Thing;", true)
  | 2 => ("InnerCaptures$Level", "cells", "[J", true)
  | _ => ("InnerCaptures$Level", "copies", "[J", true)
def tyX3 : Nat → FieldType := fun k => match k with
  | 0 => .object "InnerCaptures$Type"
  | 1 => .object "InnerCaptures$Thing"
  | 2 => .array .long
  | _ => .array .long
theorem nmX3 : ∀ a, a < 4 → ∀ b, b < 4 → a ≠ b → (TX3 a).2.1 ≠ (TX3 b).2.1 := by decide +kernel
theorem tyX3_ok : ∀ k, k < 4 → parseFieldDescriptor (TX3 k).2.2.1 = some (tyX3 k) := by decide +kernel
abbrev cX3_init : ByteArray := prog_5_method_1_code
def yX3_init : MethodName := ⟨RX3, "<init>", "(LInnerCaptures$Type;LInnerCaptures$Thing;)V"⟩
def RX4 : String := "InnerCaptures$Locals"
def TX4 : u_T := fun k => match k with
  | 0 => ("InnerCaptures$Locals", "names", "[I", true)
  | 1 => ("InnerCaptures$Locals", "values", "[J", true)
  | 2 => ("InnerCaptures$Locals", "assigned", "[Z", true)
  | _ => ("InnerCaptures$Locals", "size", "I", false)
def tyX4 : Nat → FieldType := fun k => match k with
  | 0 => .array .int
  | 1 => .array .long
  | 2 => .array .boolean
  | _ => .int
theorem nmX4 : ∀ a, a < 4 → ∀ b, b < 4 → a ≠ b → (TX4 a).2.1 ≠ (TX4 b).2.1 := by decide +kernel
theorem tyX4_ok : ∀ k, k < 4 → parseFieldDescriptor (TX4 k).2.2.1 = some (tyX4 k) := by decide +kernel
abbrev cX4_init : ByteArray := prog_6_method_1_code
def yX4_init : MethodName := ⟨RX4, "<init>", "()V"⟩
abbrev cX4_add : ByteArray := prog_6_method_2_code
def yX4_add : MethodName := ⟨RX4, "add", "(IJ)V"⟩
abbrev cX4_has : ByteArray := prog_6_method_3_code
def yX4_has : MethodName := ⟨RX4, "has", "(I)Z"⟩
abbrev cX4_isAssigned : ByteArray := prog_6_method_4_code
def yX4_isAssigned : MethodName := ⟨RX4, "isAssigned", "(I)Z"⟩
abbrev cX4_set : ByteArray := prog_6_method_5_code
def yX4_set : MethodName := ⟨RX4, "set", "(IJ)V"⟩
abbrev cX4_latest : ByteArray := prog_6_method_6_code
def yX4_latest : MethodName := ⟨RX4, "latest", "(II)I"⟩
abbrev cX4_copyOfFirst : ByteArray := prog_6_method_7_code
def yX4_copyOfFirst : MethodName := ⟨RX4, "copyOfFirst", "(I)[J"⟩
def RX5 : String := "InnerCaptures$Thing"
def TX5 : u_T := fun k => match k with
  | 0 => ("InnerCaptures$Thing", "ownType", "LInnerCaptures$Type;", true)
  | _ => ("InnerCaptures$Thing", "levels", "[LInnerCaptures$Level;", true)
def tyX5 : Nat → FieldType := fun k => match k with
  | 0 => .object "InnerCaptures$Type"
  | _ => .array (.object "InnerCaptures$Level")
theorem nmX5 : ∀ a, a < 2 → ∀ b, b < 2 → a ≠ b → (TX5 a).2.1 ≠ (TX5 b).2.1 := by decide +kernel
theorem tyX5_ok : ∀ k, k < 2 → parseFieldDescriptor (TX5 k).2.2.1 = some (tyX5 k) := by decide +kernel
abbrev cX5_init : ByteArray := prog_7_method_1_code
def yX5_init : MethodName := ⟨RX5, "<init>", "(LInnerCaptures$Type;[LInnerCaptures$Level;)V"⟩
abbrev cX5_levelOf : ByteArray := prog_7_method_2_code
def yX5_levelOf : MethodName := ⟨RX5, "levelOf", "(LInnerCaptures$Type;)LInnerCaptures$Level;"⟩
abbrev cX5_aroundAt : ByteArray := prog_7_method_3_code
def yX5_aroundAt : MethodName := ⟨RX5, "aroundAt", "(LInnerCaptures$Type;)LInnerCaptures$Thing;"⟩
def RX6 : String := "InnerCaptures$Type"
def TX6 : u_T := fun k => match k with
  | 0 => ("InnerCaptures$Type", "number", "I", true)
  | 1 => ("InnerCaptures$Type", "kind", "I", true)
  | 2 => ("InnerCaptures$Type", "outer", "LInnerCaptures$Type;", true)
  | 3 => ("InnerCaptures$Type", "letter", "I", true)
  | 4 => ("InnerCaptures$Type", "localsAhead", "I", true)
  | 5 => ("InnerCaptures$Type", "isBound", "Z", true)
  | 6 => ("InnerCaptures$Type", "className", "Ljava/lang/String;", true)
  | 7 => ("InnerCaptures$Type", "fields", "LInnerCaptures$Fields;", true)
  | 8 => ("InnerCaptures$Type", "locals", "LInnerCaptures$Locals;", true)
  | 9 => ("InnerCaptures$Type", "isMethodStatic", "Z", false)
  | _ => ("InnerCaptures$Type", "parentType", "LInnerCaptures$Type;", false)
def tyX6 : Nat → FieldType := fun k => match k with
  | 0 => .int
  | 1 => .int
  | 2 => .object "InnerCaptures$Type"
  | 3 => .int
  | 4 => .int
  | 5 => .boolean
  | 6 => .object "java/lang/String"
  | 7 => .object "InnerCaptures$Fields"
  | 8 => .object "InnerCaptures$Locals"
  | 9 => .boolean
  | _ => .object "InnerCaptures$Type"
theorem nmX6 : ∀ a, a < 11 → ∀ b, b < 11 → a ≠ b → (TX6 a).2.1 ≠ (TX6 b).2.1 := by decide +kernel
theorem tyX6_ok : ∀ k, k < 11 → parseFieldDescriptor (TX6 k).2.2.1 = some (tyX6 k) := by decide +kernel
abbrev cX6_init : ByteArray := prog_8_method_1_code
def yX6_init : MethodName := ⟨RX6, "<init>", "(IILInnerCaptures$Type;II)V"⟩
abbrev cX6_classNameOf : ByteArray := prog_8_method_2_code
def yX6_classNameOf : MethodName := ⟨RX6, "classNameOf", "(LInnerCaptures$Type;II)Ljava/lang/String;"⟩
abbrev cX6_latestLocalAhead : ByteArray := prog_8_method_3_code
def yX6_latestLocalAhead : MethodName := ⟨RX6, "latestLocalAhead", "(I)I"⟩
abbrev cX6_copyLocalsAhead : ByteArray := prog_8_method_4_code
def yX6_copyLocalsAhead : MethodName := ⟨RX6, "copyLocalsAhead", "()[J"⟩
def RX7 : String := "InnerCaptures"
def TX7 : u_T := fun k => match k with
  | 0 => ("InnerCaptures", "types", "[LInnerCaptures$Type;", true)
  | 1 => ("InnerCaptures", "typeCount", "I", false)
  | 2 => ("InnerCaptures", "places", "[LInnerCaptures$Thing;", true)
  | 3 => ("InnerCaptures", "madeCount", "I", false)
  | 4 => ("InnerCaptures", "lambdas", "[LInnerCaptures$Lambda;", true)
  | 5 => ("InnerCaptures", "lambdaCount", "I", false)
  | 6 => ("InnerCaptures", "found", "LInnerCaptures$Cell;", true)
  | _ => ("InnerCaptures", "outcome", "I", false)
def tyX7 : Nat → FieldType := fun k => match k with
  | 0 => .array (.object "InnerCaptures$Type")
  | 1 => .int
  | 2 => .array (.object "InnerCaptures$Thing")
  | 3 => .int
  | 4 => .array (.object "InnerCaptures$Lambda")
  | 5 => .int
  | 6 => .object "InnerCaptures$Cell"
  | _ => .int
theorem nmX7 : ∀ a, a < 8 → ∀ b, b < 8 → a ≠ b → (TX7 a).2.1 ≠ (TX7 b).2.1 := by decide +kernel
theorem tyX7_ok : ∀ k, k < 8 → parseFieldDescriptor (TX7 k).2.2.1 = some (tyX7 k) := by decide +kernel
abbrev cX7_init : ByteArray := prog_1_method_1_code
def yX7_init : MethodName := ⟨RX7, "<init>", "()V"⟩
abbrev cX7_type : ByteArray := prog_1_method_2_code
def yX7_type : MethodName := ⟨RX7, "type", "(III)I"⟩
abbrev cX7_field : ByteArray := prog_1_method_3_code
def yX7_field : MethodName := ⟨RX7, "field", "(IIJZ)I"⟩
abbrev cX7_local : ByteArray := prog_1_method_4_code
def yX7_local : MethodName := ⟨RX7, "local", "(IIJ)I"⟩
abbrev cX7_assign : ByteArray := prog_1_method_5_code
def yX7_assign : MethodName := ⟨RX7, "assign", "(IIJ)I"⟩
abbrev cX7_method : ByteArray := prog_1_method_6_code
def yX7_method : MethodName := ⟨RX7, "method", "(IZ)I"⟩
abbrev cX7_parent : ByteArray := prog_1_method_7_code
def yX7_parent : MethodName := ⟨RX7, "parent", "(II)I"⟩
abbrev cX7_name : ByteArray := prog_1_method_8_code
def yX7_name : MethodName := ⟨RX7, "name", "(II)I"⟩
abbrev cX7_make : ByteArray := prog_1_method_9_code
def yX7_make : MethodName := ⟨RX7, "make", "(III)I"⟩
abbrev cX7_share : ByteArray := prog_1_method_10_code
def yX7_share : MethodName := ⟨RX7, "share", "(II)I"⟩
abbrev cX7_free : ByteArray := prog_1_method_11_code
def yX7_free : MethodName := ⟨RX7, "free", "(I)I"⟩
abbrev cX7_about : ByteArray := prog_1_method_12_code
def yX7_about : MethodName := ⟨RX7, "about", "(II)I"⟩
abbrev cX7_same : ByteArray := prog_1_method_13_code
def yX7_same : MethodName := ⟨RX7, "same", "(II)I"⟩
abbrev cX7_see : ByteArray := prog_1_method_14_code
def yX7_see : MethodName := ⟨RX7, "see", "(II)J"⟩
abbrev cX7_put : ByteArray := prog_1_method_15_code
def yX7_put : MethodName := ⟨RX7, "put", "(IIJ)I"⟩
abbrev cX7_that : ByteArray := prog_1_method_16_code
def yX7_that : MethodName := ⟨RX7, "that", "(III)I"⟩
abbrev cX7_constant : ByteArray := prog_1_method_17_code
def yX7_constant : MethodName := ⟨RX7, "constant", "(II)J"⟩
abbrev cX7_lambda : ByteArray := prog_1_method_18_code
def yX7_lambda : MethodName := ⟨RX7, "lambda", "(II)I"⟩
abbrev cX7_seen : ByteArray := prog_1_method_19_code
def yX7_seen : MethodName := ⟨RX7, "seen", "(II)J"⟩
abbrev cX7_why : ByteArray := prog_1_method_20_code
def yX7_why : MethodName := ⟨RX7, "why", "()I"⟩
abbrev cX7_count : ByteArray := prog_1_method_21_code
def yX7_count : MethodName := ⟨RX7, "count", "(I)I"⟩
abbrev cX7_typeAt : ByteArray := prog_1_method_22_code
def yX7_typeAt : MethodName := ⟨RX7, "typeAt", "(I)LInnerCaptures$Type;"⟩
abbrev cX7_lambdaAt : ByteArray := prog_1_method_23_code
def yX7_lambdaAt : MethodName := ⟨RX7, "lambdaAt", "(I)LInnerCaptures$Lambda;"⟩
abbrev cX7_isPlace : ByteArray := prog_1_method_24_code
def yX7_isPlace : MethodName := ⟨RX7, "isPlace", "(I)Z"⟩
abbrev cX7_isName : ByteArray := prog_1_method_25_code
def yX7_isName : MethodName := ⟨RX7, "isName", "(I)Z"⟩
abbrev cX7_heldPlaces : ByteArray := prog_1_method_26_code
def yX7_heldPlaces : MethodName := ⟨RX7, "heldPlaces", "()I"⟩
abbrev cX7_isMember : ByteArray := prog_1_method_27_code
def yX7_isMember : MethodName := ⟨RX7, "isMember", "(I)Z"⟩
abbrev cX7_standsInMethod : ByteArray := prog_1_method_28_code
def yX7_standsInMethod : MethodName := ⟨RX7, "standsInMethod", "(I)Z"⟩
abbrev cX7_isLetterTaken : ByteArray := prog_1_method_29_code
def yX7_isLetterTaken : MethodName := ⟨RX7, "isLetterTaken", "(ILInnerCaptures$Type;I)Z"⟩
abbrev cX7_hasTopWith : ByteArray := prog_1_method_30_code
def yX7_hasTopWith : MethodName := ⟨RX7, "hasTopWith", "(I)Z"⟩
abbrev cX7_hasMemberWith : ByteArray := prog_1_method_31_code
def yX7_hasMemberWith : MethodName := ⟨RX7, "hasMemberWith", "(LInnerCaptures$Type;I)Z"⟩
abbrev cX7_twinNumber : ByteArray := prog_1_method_32_code
def yX7_twinNumber : MethodName := ⟨RX7, "twinNumber", "(ILInnerCaptures$Type;I)I"⟩
abbrev cX7_hasTypeInMethod : ByteArray := prog_1_method_33_code
def yX7_hasTypeInMethod : MethodName := ⟨RX7, "hasTypeInMethod", "(LInnerCaptures$Type;)Z"⟩
abbrev cX7_isSameOrAbove : ByteArray := prog_1_method_34_code
def yX7_isSameOrAbove : MethodName := ⟨RX7, "isSameOrAbove", "(LInnerCaptures$Type;LInnerCaptures$Type;)Z"⟩
abbrev cX7_makeInto : ByteArray := prog_1_method_35_code
def yX7_makeInto : MethodName := ⟨RX7, "makeInto", "(III)I"⟩
abbrev cX7_levelCount : ByteArray := prog_1_method_36_code
def yX7_levelCount : MethodName := ⟨RX7, "levelCount", "(LInnerCaptures$Type;)I"⟩
abbrev cX7_levelsFor : ByteArray := prog_1_method_37_code
def yX7_levelsFor : MethodName := ⟨RX7, "levelsFor", "(LInnerCaptures$Type;LInnerCaptures$Thing;)[LInnerCaptures$Level;"⟩
abbrev cX7_nearestOf : ByteArray := prog_1_method_38_code
def yX7_nearestOf : MethodName := ⟨RX7, "nearestOf", "(LInnerCaptures$Type;LInnerCaptures$Type;LInnerCaptures$Thing;)LInnerCaptures$Thing;"⟩
abbrev cX7_findFromPlace : ByteArray := prog_1_method_39_code
def yX7_findFromPlace : MethodName := ⟨RX7, "findFromPlace", "(II)I"⟩
abbrev cX7_findFromLambda : ByteArray := prog_1_method_40_code
def yX7_findFromLambda : MethodName := ⟨RX7, "findFromLambda", "(II)I"⟩
abbrev cX7_findFromType : ByteArray := prog_1_method_41_code
def yX7_findFromType : MethodName := ⟨RX7, "findFromType", "(LInnerCaptures$Type;LInnerCaptures$Thing;I)I"⟩
abbrev cX7_ownerOfField : ByteArray := prog_1_method_42_code
def yX7_ownerOfField : MethodName := ⟨RX7, "ownerOfField", "(LInnerCaptures$Type;I)LInnerCaptures$Type;"⟩
abbrev cX7_findField : ByteArray := prog_1_method_43_code
def yX7_findField : MethodName := ⟨RX7, "findField", "(LInnerCaptures$Type;LInnerCaptures$Thing;I)I"⟩
abbrev cX7_findCopy : ByteArray := prog_1_method_44_code
def yX7_findCopy : MethodName := ⟨RX7, "findCopy", "(LInnerCaptures$Type;LInnerCaptures$Thing;I)I"⟩
abbrev cX7_holdThat : ByteArray := prog_1_method_45_code
def yX7_holdThat : MethodName := ⟨RX7, "holdThat", "(III)I"⟩
def RX8 : String := "InnerCapturesModel"
def TX8 : u_T := fun k => match k with
  | 0 => ("InnerCapturesModel", "types", "I", false)
  | 1 => ("InnerCapturesModel", "kinds", "[I", true)
  | 2 => ("InnerCapturesModel", "outers", "[I", true)
  | 3 => ("InnerCapturesModel", "letters", "[I", true)
  | 4 => ("InnerCapturesModel", "numbers", "[I", true)
  | 5 => ("InnerCapturesModel", "ahead", "[I", true)
  | 6 => ("InnerCapturesModel", "parents", "[I", true)
  | 7 => ("InnerCapturesModel", "fields", "[I", true)
  | 8 => ("InnerCapturesModel", "fieldName", "[I", true)
  | 9 => ("InnerCapturesModel", "fieldValue", "[J", true)
  | 10 => ("InnerCapturesModel", "isStatic", "[Z", true)
  | 11 => ("InnerCapturesModel", "isStaticMethod", "[Z", true)
  | 12 => ("InnerCapturesModel", "locals", "[I", true)
  | 13 => ("InnerCapturesModel", "localName", "[I", true)
  | 14 => ("InnerCapturesModel", "localValue", "[J", true)
  | 15 => ("InnerCapturesModel", "isAssigned", "[Z", true)
  | 16 => ("InnerCapturesModel", "objects", "I", false)
  | 17 => ("InnerCapturesModel", "typeOf", "[I", true)
  | 18 => ("InnerCapturesModel", "has", "[I", true)
  | 19 => ("InnerCapturesModel", "around", "[I", true)
  | 20 => ("InnerCapturesModel", "values", "[J", true)
  | 21 => ("InnerCapturesModel", "copies", "[J", true)
  | 22 => ("InnerCapturesModel", "places", "[I", true)
  | 23 => ("InnerCapturesModel", "lambdas", "I", false)
  | 24 => ("InnerCapturesModel", "lambdaType", "[I", true)
  | 25 => ("InnerCapturesModel", "lambdaObject", "[I", true)
  | 26 => ("InnerCapturesModel", "lambdaMany", "[I", true)
  | 27 => ("InnerCapturesModel", "lambdaCopy", "[J", true)
  | 28 => ("InnerCapturesModel", "why", "I", false)
  | 29 => ("InnerCapturesModel", "bytes", "[I", true)
  | 30 => ("InnerCapturesModel", "many", "I", false)
  | 31 => ("InnerCapturesModel", "foundField", "I", false)
  | _ => ("InnerCapturesModel", "foundObject", "I", false)
def tyX8 : Nat → FieldType := fun k => match k with
  | 0 => .int
  | 1 => .array .int
  | 2 => .array .int
  | 3 => .array .int
  | 4 => .array .int
  | 5 => .array .int
  | 6 => .array .int
  | 7 => .array .int
  | 8 => .array .int
  | 9 => .array .long
  | 10 => .array .boolean
  | 11 => .array .boolean
  | 12 => .array .int
  | 13 => .array .int
  | 14 => .array .long
  | 15 => .array .boolean
  | 16 => .int
  | 17 => .array .int
  | 18 => .array .int
  | 19 => .array .int
  | 20 => .array .long
  | 21 => .array .long
  | 22 => .array .int
  | 23 => .int
  | 24 => .array .int
  | 25 => .array .int
  | 26 => .array .int
  | 27 => .array .long
  | 28 => .int
  | 29 => .array .int
  | 30 => .int
  | 31 => .int
  | _ => .int
theorem nmX8 : ∀ a, a < 33 → ∀ b, b < 33 → a ≠ b → (TX8 a).2.1 ≠ (TX8 b).2.1 := by decide +kernel
theorem tyX8_ok : ∀ k, k < 33 → parseFieldDescriptor (TX8 k).2.2.1 = some (tyX8 k) := by decide +kernel
abbrev cX8_init : ByteArray := prog_10_method_1_code
def yX8_init : MethodName := ⟨RX8, "<init>", "()V"⟩
abbrev cX8_in : ByteArray := prog_10_method_2_code
def yX8_in : MethodName := ⟨RX8, "in", "(III)Z"⟩
abbrev cX8_isType : ByteArray := prog_10_method_3_code
def yX8_isType : MethodName := ⟨RX8, "isType", "(I)Z"⟩
abbrev cX8_isPlace : ByteArray := prog_10_method_4_code
def yX8_isPlace : MethodName := ⟨RX8, "isPlace", "(I)Z"⟩
abbrev cX8_isName : ByteArray := prog_10_method_5_code
def yX8_isName : MethodName := ⟨RX8, "isName", "(I)Z"⟩
abbrev cX8_isInMethod : ByteArray := prog_10_method_6_code
def yX8_isInMethod : MethodName := ⟨RX8, "isInMethod", "(I)Z"⟩
abbrev cX8_isBound : ByteArray := prog_10_method_7_code
def yX8_isBound : MethodName := ⟨RX8, "isBound", "(I)Z"⟩
abbrev cX8_isTaken : ByteArray := prog_10_method_8_code
def yX8_isTaken : MethodName := ⟨RX8, "isTaken", "(III)Z"⟩
abbrev cX8_type : ByteArray := prog_10_method_9_code
def yX8_type : MethodName := ⟨RX8, "type", "(III)I"⟩
abbrev cX8_fieldOf : ByteArray := prog_10_method_10_code
def yX8_fieldOf : MethodName := ⟨RX8, "fieldOf", "(II)I"⟩
abbrev cX8_field : ByteArray := prog_10_method_11_code
def yX8_field : MethodName := ⟨RX8, "field", "(IIJZ)I"⟩
abbrev cX8_local : ByteArray := prog_10_method_12_code
def yX8_local : MethodName := ⟨RX8, "local", "(IIJ)I"⟩
abbrev cX8_assign : ByteArray := prog_10_method_13_code
def yX8_assign : MethodName := ⟨RX8, "assign", "(IIJ)I"⟩
abbrev cX8_method : ByteArray := prog_10_method_14_code
def yX8_method : MethodName := ⟨RX8, "method", "(IZ)I"⟩
abbrev cX8_parent : ByteArray := prog_10_method_15_code
def yX8_parent : MethodName := ⟨RX8, "parent", "(II)I"⟩
abbrev cX8_put : ByteArray := prog_10_method_16_code
def yX8_put : MethodName := ⟨RX8, "put", "(I)V"⟩
abbrev cX8_name : ByteArray := prog_10_method_17_code
def yX8_name : MethodName := ⟨RX8, "name", "(II)I"⟩
abbrev cX8_isOf : ByteArray := prog_10_method_18_code
def yX8_isOf : MethodName := ⟨RX8, "isOf", "(II)Z"⟩
abbrev cX8_found : ByteArray := prog_10_method_19_code
def yX8_found : MethodName := ⟨RX8, "found", "(III)I"⟩
abbrev cX8_level : ByteArray := prog_10_method_20_code
def yX8_level : MethodName := ⟨RX8, "level", "(III)V"⟩
abbrev cX8_make : ByteArray := prog_10_method_21_code
def yX8_make : MethodName := ⟨RX8, "make", "(III)I"⟩
abbrev cX8_share : ByteArray := prog_10_method_22_code
def yX8_share : MethodName := ⟨RX8, "share", "(II)I"⟩
abbrev cX8_free : ByteArray := prog_10_method_23_code
def yX8_free : MethodName := ⟨RX8, "free", "(I)I"⟩
abbrev cX8_about : ByteArray := prog_10_method_24_code
def yX8_about : MethodName := ⟨RX8, "about", "(II)I"⟩
abbrev cX8_same : ByteArray := prog_10_method_25_code
def yX8_same : MethodName := ⟨RX8, "same", "(II)I"⟩
abbrev cX8_told : ByteArray := prog_10_method_26_code
def yX8_told : MethodName := ⟨RX8, "told", "(I)J"⟩
abbrev cX8_localOf : ByteArray := prog_10_method_27_code
def yX8_localOf : MethodName := ⟨RX8, "localOf", "(III)I"⟩
abbrev cX8_ofField : ByteArray := prog_10_method_28_code
def yX8_ofField : MethodName := ⟨RX8, "ofField", "(III)J"⟩
abbrev cX8_ofLocal : ByteArray := prog_10_method_29_code
def yX8_ofLocal : MethodName := ⟨RX8, "ofLocal", "(IIIZ)J"⟩
abbrev cX8_find : ByteArray := prog_10_method_30_code
def yX8_find : MethodName := ⟨RX8, "find", "(IIIZ)J"⟩
abbrev cX8_see : ByteArray := prog_10_method_31_code
def yX8_see : MethodName := ⟨RX8, "see", "(II)J"⟩
abbrev cX8_put_ : ByteArray := prog_10_method_32_code
def yX8_put_ : MethodName := ⟨RX8, "put", "(IIJ)I"⟩
abbrev cX8_that : ByteArray := prog_10_method_33_code
def yX8_that : MethodName := ⟨RX8, "that", "(III)I"⟩
abbrev cX8_constant : ByteArray := prog_10_method_34_code
def yX8_constant : MethodName := ⟨RX8, "constant", "(II)J"⟩
abbrev cX8_lambda : ByteArray := prog_10_method_35_code
def yX8_lambda : MethodName := ⟨RX8, "lambda", "(II)I"⟩
abbrev cX8_seen : ByteArray := prog_10_method_36_code
def yX8_seen : MethodName := ⟨RX8, "seen", "(II)J"⟩
abbrev cX8_why : ByteArray := prog_10_method_37_code
def yX8_why : MethodName := ⟨RX8, "why", "()I"⟩
abbrev cX8_count : ByteArray := prog_10_method_38_code
def yX8_count : MethodName := ⟨RX8, "count", "(I)I"⟩
def RJ5 : String := "java/lang/AbstractStringBuilder"
def TJ5 : u_T := fun k => match k with
  | _ => ("", "", "", false)
def tyJ5 : Nat → FieldType := fun k => match k with
  | _ => .int
theorem nmJ5 : ∀ a, a < 0 → ∀ b, b < 0 → a ≠ b → (TJ5 a).2.1 ≠ (TJ5 b).2.1 := by decide +kernel
theorem tyJ5_ok : ∀ k, k < 0 → parseFieldDescriptor (TJ5 k).2.2.1 = some (tyJ5 k) := by decide +kernel
abbrev cJ5_init_d00df : ByteArray := prog_11_method_2_code
def yJ5_init_d00df : MethodName := ⟨RJ5, "<init>", "(I)V"⟩
abbrev cJ5_length_8abf5 : ByteArray := prog_11_method_6_code
def yJ5_length_8abf5 : MethodName := ⟨RJ5, "length", "()I"⟩
abbrev cJ5_ensureCapacityInternal_d00df : ByteArray := prog_11_method_9_code
def yJ5_ensureCapacityInternal_d00df : MethodName := ⟨RJ5, "ensureCapacityInternal", "(I)V"⟩
abbrev cJ5_newCapacity_0f7a4 : ByteArray := prog_11_method_10_code
def yJ5_newCapacity_0f7a4 : MethodName := ⟨RJ5, "newCapacity", "(I)I"⟩
abbrev cJ5_inflate_da8c8 : ByteArray := prog_11_method_11_code
def yJ5_inflate_da8c8 : MethodName := ⟨RJ5, "inflate", "()V"⟩
abbrev cJ5_append_cf1ce : ByteArray := prog_11_method_22_code
def yJ5_append_cf1ce : MethodName := ⟨RJ5, "append", "(Ljava/lang/String;)Ljava/lang/AbstractStringBuilder;"⟩
abbrev cJ5_appendNull_278bc : ByteArray := prog_11_method_26_code
def yJ5_appendNull_278bc : MethodName := ⟨RJ5, "appendNull", "()Ljava/lang/AbstractStringBuilder;"⟩
abbrev cJ5_append_3fe6f : ByteArray := prog_11_method_31_code
def yJ5_append_3fe6f : MethodName := ⟨RJ5, "append", "(C)Ljava/lang/AbstractStringBuilder;"⟩
abbrev cJ5_append_c97b9 : ByteArray := prog_11_method_32_code
def yJ5_append_c97b9 : MethodName := ⟨RJ5, "append", "(I)Ljava/lang/AbstractStringBuilder;"⟩
abbrev cJ5_getValue_6d5f1 : ByteArray := prog_11_method_64_code
def yJ5_getValue_6d5f1 : MethodName := ⟨RJ5, "getValue", "()[B"⟩
abbrev cJ5_isLatin1_aae02 : ByteArray := prog_11_method_68_code
def yJ5_isLatin1_aae02 : MethodName := ⟨RJ5, "isLatin1", "()Z"⟩
abbrev cJ5_inflateIfNeededFor_a7421 : ByteArray := prog_11_method_71_code
def yJ5_inflateIfNeededFor_a7421 : MethodName := ⟨RJ5, "inflateIfNeededFor", "(Ljava/lang/String;)V"⟩
abbrev cJ5_putStringAt_47b60 : ByteArray := prog_11_method_73_code
def yJ5_putStringAt_47b60 : MethodName := ⟨RJ5, "putStringAt", "(ILjava/lang/String;)V"⟩
def RJx8e188 : String := "java/lang/Cloneable"
def TJx8e188 : u_T := fun k => match k with
  | _ => ("", "", "", false)
def tyJx8e188 : Nat → FieldType := fun k => match k with
  | _ => .int
theorem nmJx8e188 : ∀ a, a < 0 → ∀ b, b < 0 → a ≠ b → (TJx8e188 a).2.1 ≠ (TJx8e188 b).2.1 := by decide +kernel
theorem tyJx8e188_ok : ∀ k, k < 0 → parseFieldDescriptor (TJx8e188 k).2.2.1 = some (tyJx8e188 k) := by decide +kernel
def RJ6 : String := "java/lang/Integer"
def TJ6 : u_T := fun k => match k with
  | _ => ("", "", "", false)
def tyJ6 : Nat → FieldType := fun k => match k with
  | _ => .int
theorem nmJ6 : ∀ a, a < 0 → ∀ b, b < 0 → a ≠ b → (TJ6 a).2.1 ≠ (TJ6 b).2.1 := by decide +kernel
theorem tyJ6_ok : ∀ k, k < 0 → parseFieldDescriptor (TJ6 k).2.2.1 = some (tyJ6 k) := by decide +kernel
abbrev cJ6_getChars_ba4f3 : ByteArray := prog_13_method_12_code
def yJ6_getChars_ba4f3 : MethodName := ⟨RJ6, "getChars", "(II[B)I"⟩
abbrev cJ6_stringSize_0f7a4 : ByteArray := prog_13_method_13_code
def yJ6_stringSize_0f7a4 : MethodName := ⟨RJ6, "stringSize", "(I)I"⟩
def RJ9 : String := "java/lang/Math"
def TJ9 : u_T := fun k => match k with
  | _ => ("", "", "", false)
def tyJ9 : Nat → FieldType := fun k => match k with
  | _ => .int
theorem nmJ9 : ∀ a, a < 0 → ∀ b, b < 0 → a ≠ b → (TJ9 a).2.1 ≠ (TJ9 b).2.1 := by decide +kernel
theorem tyJ9_ok : ∀ k, k < 0 → parseFieldDescriptor (TJ9 k).2.2.1 = some (tyJ9 k) := by decide +kernel
abbrev cJ9_max_7cf53 : ByteArray := prog_14_method_65_code
def yJ9_max_7cf53 : MethodName := ⟨RJ9, "max", "(II)I"⟩
abbrev cJ9_min_7cf53 : ByteArray := prog_14_method_69_code
def yJ9_min_7cf53 : MethodName := ⟨RJ9, "min", "(II)I"⟩
def RJ0 : String := "java/lang/String"
def TJ0 : u_T := fun k => match k with
  | 0 => ("java/lang/String", "value", "[B", true)
  | 1 => ("java/lang/String", "coder", "B", true)
  | 2 => ("java/lang/String", "hash", "I", false)
  | _ => ("java/lang/String", "hashIsZero", "Z", false)
def tyJ0 : Nat → FieldType := fun k => match k with
  | 0 => .array .byte
  | 1 => .byte
  | 2 => .int
  | _ => .boolean
theorem nmJ0 : ∀ a, a < 4 → ∀ b, b < 4 → a ≠ b → (TJ0 a).2.1 ≠ (TJ0 b).2.1 := by decide +kernel
theorem tyJ0_ok : ∀ k, k < 4 → parseFieldDescriptor (TJ0 k).2.2.1 = some (tyJ0 k) := by decide +kernel
abbrev cJ0_init_81219 : ByteArray := prog_15_method_53_code
def yJ0_init_81219 : MethodName := ⟨RJ0, "<init>", "(Ljava/lang/StringBuilder;)V"⟩
abbrev cJ0_length_8abf5 : ByteArray := prog_15_method_54_code
def yJ0_length_8abf5 : MethodName := ⟨RJ0, "length", "()I"⟩
abbrev cJ0_charAt_5068e : ByteArray := prog_15_method_56_code
def yJ0_charAt_5068e : MethodName := ⟨RJ0, "charAt", "(I)C"⟩
abbrev cJ0_getBytes_840e7 : ByteArray := prog_15_method_147_code
def yJ0_getBytes_840e7 : MethodName := ⟨RJ0, "getBytes", "([BIB)V"⟩
abbrev cJ0_init_db425 : ByteArray := prog_15_method_150_code
def yJ0_init_db425 : MethodName := ⟨RJ0, "<init>", "(Ljava/lang/AbstractStringBuilder;Ljava/lang/Void;)V"⟩
abbrev cJ0_coder_7d493 : ByteArray := prog_15_method_152_code
def yJ0_coder_7d493 : MethodName := ⟨RJ0, "coder", "()B"⟩
abbrev cJ0_isLatin1_aae02 : ByteArray := prog_15_method_154_code
def yJ0_isLatin1_aae02 : MethodName := ⟨RJ0, "isLatin1", "()Z"⟩
abbrev cJ0_checkIndex_df160 : ByteArray := prog_15_method_155_code
def yJ0_checkIndex_df160 : MethodName := ⟨RJ0, "checkIndex", "(II)V"⟩
abbrev cJ0_checkBoundsOffCount_cabcc : ByteArray := prog_15_method_157_code
def yJ0_checkBoundsOffCount_cabcc : MethodName := ⟨RJ0, "checkBoundsOffCount", "(III)I"⟩
abbrev cJ0_checkBoundsBeginEnd_23922 : ByteArray := prog_15_method_158_code
def yJ0_checkBoundsBeginEnd_23922 : MethodName := ⟨RJ0, "checkBoundsBeginEnd", "(III)V"⟩
def RJ4 : String := "java/lang/StringBuilder"
def TJ4 : u_T := fun k => match k with
  | 0 => ("java/lang/AbstractStringBuilder", "value", "[B", false)
  | 1 => ("java/lang/AbstractStringBuilder", "coder", "B", false)
  | 2 => ("java/lang/AbstractStringBuilder", "maybeLatin1", "Z", false)
  | _ => ("java/lang/AbstractStringBuilder", "count", "I", false)
def tyJ4 : Nat → FieldType := fun k => match k with
  | 0 => .array .byte
  | 1 => .byte
  | 2 => .boolean
  | _ => .int
theorem nmJ4 : ∀ a, a < 4 → ∀ b, b < 4 → a ≠ b → (TJ4 a).2.1 ≠ (TJ4 b).2.1 := by decide +kernel
theorem tyJ4_ok : ∀ k, k < 4 → parseFieldDescriptor (TJ4 k).2.2.1 = some (tyJ4 k) := by decide +kernel
abbrev cJ4_init_da8c8 : ByteArray := prog_16_method_1_code
def yJ4_init_da8c8 : MethodName := ⟨RJ4, "<init>", "()V"⟩
abbrev cJ4_append_15ec4 : ByteArray := prog_16_method_7_code
def yJ4_append_15ec4 : MethodName := ⟨RJ4, "append", "(Ljava/lang/String;)Ljava/lang/StringBuilder;"⟩
abbrev cJ4_append_cf468 : ByteArray := prog_16_method_14_code
def yJ4_append_cf468 : MethodName := ⟨RJ4, "append", "(C)Ljava/lang/StringBuilder;"⟩
abbrev cJ4_append_bf812 : ByteArray := prog_16_method_15_code
def yJ4_append_bf812 : MethodName := ⟨RJ4, "append", "(I)Ljava/lang/StringBuilder;"⟩
abbrev cJ4_toString_0e30d : ByteArray := prog_16_method_42_code
def yJ4_toString_0e30d : MethodName := ⟨RJ4, "toString", "()Ljava/lang/String;"⟩
abbrev cJ4_length_8abf5 : ByteArray := prog_16_method_93_code
def yJ4_length_8abf5 : MethodName := ⟨RJ4, "length", "()I"⟩
def RJ1 : String := "java/lang/StringLatin1"
def TJ1 : u_T := fun k => match k with
  | _ => ("", "", "", false)
def tyJ1 : Nat → FieldType := fun k => match k with
  | _ => .int
theorem nmJ1 : ∀ a, a < 0 → ∀ b, b < 0 → a ≠ b → (TJ1 a).2.1 ≠ (TJ1 b).2.1 := by decide +kernel
theorem tyJ1_ok : ∀ k, k < 0 → parseFieldDescriptor (TJ1 k).2.2.1 = some (tyJ1 k) := by decide +kernel
abbrev cJ1_charAt_3b067 : ByteArray := prog_17_method_2_code
def yJ1_charAt_3b067 : MethodName := ⟨RJ1, "charAt", "([BI)C"⟩
abbrev cJ1_canEncode_fc78d : ByteArray := prog_17_method_3_code
def yJ1_canEncode_fc78d : MethodName := ⟨RJ1, "canEncode", "(C)Z"⟩
abbrev cJ1_inflate_0e8fd : ByteArray := prog_17_method_50_code
def yJ1_inflate_0e8fd : MethodName := ⟨RJ1, "inflate", "([BI[BII)V"⟩
def RJ2 : String := "java/lang/StringUTF16"
def TJ2 : u_T := fun k => match k with
  | _ => ("", "", "", false)
def tyJ2 : Nat → FieldType := fun k => match k with
  | _ => .int
theorem nmJ2 : ∀ a, a < 0 → ∀ b, b < 0 → a ≠ b → (TJ2 a).2.1 ≠ (TJ2 b).2.1 := by decide +kernel
theorem tyJ2_ok : ∀ k, k < 0 → parseFieldDescriptor (TJ2 k).2.2.1 = some (tyJ2 k) := by decide +kernel
abbrev cJ2_newBytesFor_77867 : ByteArray := prog_18_method_2_code
def yJ2_newBytesFor_77867 : MethodName := ⟨RJ2, "newBytesFor", "(I)[B"⟩
abbrev cJ2_newBytesLength_0f7a4 : ByteArray := prog_18_method_3_code
def yJ2_newBytesLength_0f7a4 : MethodName := ⟨RJ2, "newBytesLength", "(I)I"⟩
abbrev cJ2_putChar_b72d1 : ByteArray := prog_18_method_4_code
def yJ2_putChar_b72d1 : MethodName := ⟨RJ2, "putChar", "([BII)V"⟩
abbrev cJ2_getChar_3b067 : ByteArray := prog_18_method_5_code
def yJ2_getChar_3b067 : MethodName := ⟨RJ2, "getChar", "([BI)C"⟩
abbrev cJ2_length_9d52b : ByteArray := prog_18_method_6_code
def yJ2_length_9d52b : MethodName := ⟨RJ2, "length", "([B)I"⟩
abbrev cJ2_coderFromArrayLen_85cad : ByteArray := prog_18_method_15_code
def yJ2_coderFromArrayLen_85cad : MethodName := ⟨RJ2, "coderFromArrayLen", "([BI)B"⟩
abbrev cJ2_compress_39247 : ByteArray := prog_18_method_17_code
def yJ2_compress_39247 : MethodName := ⟨RJ2, "compress", "([BII)[B"⟩
abbrev cJ2_compress_5af95 : ByteArray := prog_18_method_22_code
def yJ2_compress_5af95 : MethodName := ⟨RJ2, "compress", "([BI[BII)I"⟩
abbrev cJ2_putCharSB_b72d1 : ByteArray := prog_18_method_71_code
def yJ2_putCharSB_b72d1 : MethodName := ⟨RJ2, "putCharSB", "([BII)V"⟩
abbrev cJ2_getChars_46870 : ByteArray := prog_18_method_77_code
def yJ2_getChars_46870 : MethodName := ⟨RJ2, "getChars", "(III[B)I"⟩
abbrev cJ2_putCharsAt_cd4e5 : ByteArray := prog_18_method_81_code
def yJ2_putCharsAt_cd4e5 : MethodName := ⟨RJ2, "putCharsAt", "([BICCCC)I"⟩
abbrev cJ2_charAt_3b067 : ByteArray := prog_18_method_83_code
def yJ2_charAt_3b067 : MethodName := ⟨RJ2, "charAt", "([BI)C"⟩
abbrev cJ2_inflate_0e8fd : ByteArray := prog_18_method_86_code
def yJ2_inflate_0e8fd : MethodName := ⟨RJ2, "inflate", "([BI[BII)V"⟩
abbrev cJ2_getChars_ba4f3 : ByteArray := prog_18_method_89_code
def yJ2_getChars_ba4f3 : MethodName := ⟨RJ2, "getChars", "(II[B)I"⟩
abbrev cJ2_checkIndex_2214a : ByteArray := prog_18_method_91_code
def yJ2_checkIndex_2214a : MethodName := ⟨RJ2, "checkIndex", "(I[B)V"⟩
abbrev cJ2_checkBoundsBeginEnd_d044e : ByteArray := prog_18_method_93_code
def yJ2_checkBoundsBeginEnd_d044e : MethodName := ⟨RJ2, "checkBoundsBeginEnd", "(II[B)V"⟩
abbrev cJ2_checkBoundsOffCount_d044e : ByteArray := prog_18_method_94_code
def yJ2_checkBoundsOffCount_d044e : MethodName := ⟨RJ2, "checkBoundsOffCount", "(II[B)V"⟩
def RJ10 : String := "java/lang/System"
def TJ10 : u_T := fun k => match k with
  | _ => ("", "", "", false)
def tyJ10 : Nat → FieldType := fun k => match k with
  | _ => .int
theorem nmJ10 : ∀ a, a < 0 → ∀ b, b < 0 → a ≠ b → (TJ10 a).2.1 ≠ (TJ10 b).2.1 := by decide +kernel
theorem tyJ10_ok : ∀ k, k < 0 → parseFieldDescriptor (TJ10 k).2.2.1 = some (tyJ10 k) := by decide +kernel
def RJ7 : String := "java/util/Arrays"
def TJ7 : u_T := fun k => match k with
  | _ => ("", "", "", false)
def tyJ7 : Nat → FieldType := fun k => match k with
  | _ => .int
theorem nmJ7 : ∀ a, a < 0 → ∀ b, b < 0 → a ≠ b → (TJ7 a).2.1 ≠ (TJ7 b).2.1 := by decide +kernel
theorem tyJ7_ok : ∀ k, k < 0 → parseFieldDescriptor (TJ7 k).2.2.1 = some (tyJ7 k) := by decide +kernel
abbrev cJ7_copyOf_9075b : ByteArray := prog_20_method_121_code
def yJ7_copyOf_9075b : MethodName := ⟨RJ7, "copyOf", "([BI)[B"⟩
abbrev cJ7_copyOf_c38d5 : ByteArray := prog_20_method_124_code
def yJ7_copyOf_c38d5 : MethodName := ⟨RJ7, "copyOf", "([JI)[J"⟩
abbrev cJ7_checkLength_df160 : ByteArray := prog_20_method_131_code
def yJ7_checkLength_df160 : MethodName := ⟨RJ7, "checkLength", "(II)V"⟩
abbrev cJ7_copyOfRange_39247 : ByteArray := prog_20_method_132_code
def yJ7_copyOfRange_39247 : MethodName := ⟨RJ7, "copyOfRange", "([BII)[B"⟩
abbrev cJ7_copyOfRangeByte_39247 : ByteArray := prog_20_method_133_code
def yJ7_copyOfRangeByte_39247 : MethodName := ⟨RJ7, "copyOfRangeByte", "([BII)[B"⟩
def RJ8 : String := "jdk/internal/util/ArraysSupport"
def TJ8 : u_T := fun k => match k with
  | _ => ("", "", "", false)
def tyJ8 : Nat → FieldType := fun k => match k with
  | _ => .int
theorem nmJ8 : ∀ a, a < 0 → ∀ b, b < 0 → a ≠ b → (TJ8 a).2.1 ≠ (TJ8 b).2.1 := by decide +kernel
theorem tyJ8_ok : ∀ k, k < 0 → parseFieldDescriptor (TJ8 k).2.2.1 = some (tyJ8 k) := by decide +kernel
abbrev cJ8_newLength_cabcc : ByteArray := prog_21_method_27_code
def yJ8_newLength_cabcc : MethodName := ⟨RJ8, "newLength", "(III)I"⟩
abbrev cJ8_hugeLength_7cf53 : ByteArray := prog_21_method_28_code
def yJ8_hugeLength_7cf53 : MethodName := ⟨RJ8, "hugeLength", "(II)I"⟩
def RJ3 : String := "jdk/internal/util/Preconditions"
def TJ3 : u_T := fun k => match k with
  | _ => ("", "", "", false)
def tyJ3 : Nat → FieldType := fun k => match k with
  | _ => .int
theorem nmJ3 : ∀ a, a < 0 → ∀ b, b < 0 → a ≠ b → (TJ3 a).2.1 ≠ (TJ3 b).2.1 := by decide +kernel
theorem tyJ3_ok : ∀ k, k < 0 → parseFieldDescriptor (TJ3 k).2.2.1 = some (tyJ3 k) := by decide +kernel
abbrev cJ3_checkIndex_8e157 : ByteArray := prog_22_method_11_code
def yJ3_checkIndex_8e157 : MethodName := ⟨RJ3, "checkIndex", "(IILjava/util/function/BiFunction;)I"⟩
abbrev cJ3_checkFromToIndex_8c36e : ByteArray := prog_22_method_12_code
def yJ3_checkFromToIndex_8c36e : MethodName := ⟨RJ3, "checkFromToIndex", "(IIILjava/util/function/BiFunction;)I"⟩
abbrev cJ3_checkFromIndexSize_8c36e : ByteArray := prog_22_method_13_code
def yJ3_checkFromIndexSize_8c36e : MethodName := ⟨RJ3, "checkFromIndexSize", "(IIILjava/util/function/BiFunction;)I"⟩
def RL : String := "InnerCapturesLaw"
abbrev cL_law : ByteArray := code
def yL_law : MethodName := ⟨RL, "law", "([I)Z"⟩
abbrev vwCl : List vw_C := [(RJ0, TJ0, 4), (RJ4, TJ4, 4), (RX0, TX0, 3), (RX1, TX1, 4), (RX2, TX2, 3), (RX3, TX3, 4), (RX4, TX4, 4), (RX5, TX5, 2), (RX6, TX6, 11), (RX7, TX7, 8), (RX8, TX8, 33)]
