section
-- ===== PART A: goes FIRST, ahead of the names: the tables' words, and 'selects' of the private methods out of them =====
/-- a private method of a class that the tables say can be made, by its rows of tables_1 -/
def lw_okq (q : MethodName × Nat) : Prop := (q.1.cls ≠ "java/lang/invoke/MethodHandle" ∧ q.1.cls ≠ "java/lang/invoke/VarHandle") ∧ Cond.instantiable q.1.cls q.2 ∈ tables_1 ∧ Cond.privateMethod q.1 ∈ tables_1 ∧ Cond.instanceMethod q.1 ∈ tables_1
theorem lw_p0 : lw_okq (⟨"InnerCaptures", "typeAt", "(I)LInnerCaptures$Type;"⟩, 8) := ⟨⟨by decide +kernel, by decide +kernel⟩, List.mem_of_getElem? (i := 22) (by decide +kernel), List.mem_of_getElem? (i := 84) (by decide +kernel), List.mem_of_getElem? (i := 85) (by decide +kernel)⟩
theorem lw_p1 : lw_okq (⟨"InnerCaptures", "isLetterTaken", "(ILInnerCaptures$Type;I)Z"⟩, 8) := ⟨⟨by decide +kernel, by decide +kernel⟩, List.mem_of_getElem? (i := 22) (by decide +kernel), List.mem_of_getElem? (i := 88) (by decide +kernel), List.mem_of_getElem? (i := 89) (by decide +kernel)⟩
theorem lw_p2 : lw_okq (⟨"InnerCaptures", "hasTopWith", "(I)Z"⟩, 8) := ⟨⟨by decide +kernel, by decide +kernel⟩, List.mem_of_getElem? (i := 22) (by decide +kernel), List.mem_of_getElem? (i := 92) (by decide +kernel), List.mem_of_getElem? (i := 93) (by decide +kernel)⟩
theorem lw_p3 : lw_okq (⟨"InnerCaptures", "hasMemberWith", "(LInnerCaptures$Type;I)Z"⟩, 8) := ⟨⟨by decide +kernel, by decide +kernel⟩, List.mem_of_getElem? (i := 22) (by decide +kernel), List.mem_of_getElem? (i := 99) (by decide +kernel), List.mem_of_getElem? (i := 100) (by decide +kernel)⟩
theorem lw_p4 : lw_okq (⟨"InnerCaptures", "twinNumber", "(ILInnerCaptures$Type;I)I"⟩, 8) := ⟨⟨by decide +kernel, by decide +kernel⟩, List.mem_of_getElem? (i := 22) (by decide +kernel), List.mem_of_getElem? (i := 103) (by decide +kernel), List.mem_of_getElem? (i := 104) (by decide +kernel)⟩
theorem lw_p5 : lw_okq (⟨"InnerCaptures", "hasTypeInMethod", "(LInnerCaptures$Type;)Z"⟩, 8) := ⟨⟨by decide +kernel, by decide +kernel⟩, List.mem_of_getElem? (i := 22) (by decide +kernel), List.mem_of_getElem? (i := 512) (by decide +kernel), List.mem_of_getElem? (i := 513) (by decide +kernel)⟩
theorem lw_p6 : lw_okq (⟨"InnerCaptures", "makeInto", "(III)I"⟩, 8) := ⟨⟨by decide +kernel, by decide +kernel⟩, List.mem_of_getElem? (i := 22) (by decide +kernel), List.mem_of_getElem? (i := 547) (by decide +kernel), List.mem_of_getElem? (i := 548) (by decide +kernel)⟩
theorem lw_p7 : lw_okq (⟨"InnerCaptures", "findFromPlace", "(II)I"⟩, 8) := ⟨⟨by decide +kernel, by decide +kernel⟩, List.mem_of_getElem? (i := 22) (by decide +kernel), List.mem_of_getElem? (i := 655) (by decide +kernel), List.mem_of_getElem? (i := 656) (by decide +kernel)⟩
theorem lw_p8 : lw_okq (⟨"InnerCaptures", "findFromType", "(LInnerCaptures$Type;LInnerCaptures$Thing;I)I"⟩, 8) := ⟨⟨by decide +kernel, by decide +kernel⟩, List.mem_of_getElem? (i := 22) (by decide +kernel), List.mem_of_getElem? (i := 659) (by decide +kernel), List.mem_of_getElem? (i := 660) (by decide +kernel)⟩
theorem lw_p9 : lw_okq (⟨"InnerCaptures", "findField", "(LInnerCaptures$Type;LInnerCaptures$Thing;I)I"⟩, 8) := ⟨⟨by decide +kernel, by decide +kernel⟩, List.mem_of_getElem? (i := 22) (by decide +kernel), List.mem_of_getElem? (i := 666) (by decide +kernel), List.mem_of_getElem? (i := 667) (by decide +kernel)⟩
theorem lw_p10 : lw_okq (⟨"InnerCaptures", "findCopy", "(LInnerCaptures$Type;LInnerCaptures$Thing;I)I"⟩, 8) := ⟨⟨by decide +kernel, by decide +kernel⟩, List.mem_of_getElem? (i := 22) (by decide +kernel), List.mem_of_getElem? (i := 690) (by decide +kernel), List.mem_of_getElem? (i := 691) (by decide +kernel)⟩
theorem lw_p11 : lw_okq (⟨"InnerCaptures$Cell", "isThere", "()Z"⟩, 3) := ⟨⟨by decide +kernel, by decide +kernel⟩, List.mem_of_getElem? (i := 36) (by decide +kernel), List.mem_of_getElem? (i := 698) (by decide +kernel), List.mem_of_getElem? (i := 699) (by decide +kernel)⟩
theorem lw_p12 : lw_okq (⟨"InnerCaptures", "holdThat", "(III)I"⟩, 8) := ⟨⟨by decide +kernel, by decide +kernel⟩, List.mem_of_getElem? (i := 22) (by decide +kernel), List.mem_of_getElem? (i := 714) (by decide +kernel), List.mem_of_getElem? (i := 715) (by decide +kernel)⟩
theorem lw_p13 : lw_okq (⟨"InnerCaptures", "findFromLambda", "(II)I"⟩, 8) := ⟨⟨by decide +kernel, by decide +kernel⟩, List.mem_of_getElem? (i := 22) (by decide +kernel), List.mem_of_getElem? (i := 749) (by decide +kernel), List.mem_of_getElem? (i := 750) (by decide +kernel)⟩
theorem lw_p14 : lw_okq (⟨"InnerCaptures", "heldPlaces", "()I"⟩, 8) := ⟨⟨by decide +kernel, by decide +kernel⟩, List.mem_of_getElem? (i := 22) (by decide +kernel), List.mem_of_getElem? (i := 762) (by decide +kernel), List.mem_of_getElem? (i := 763) (by decide +kernel)⟩
theorem lw_p15 : lw_okq (⟨"InnerCapturesModel", "isType", "(I)Z"⟩, 33) := ⟨⟨by decide +kernel, by decide +kernel⟩, List.mem_of_getElem? (i := 766) (by decide +kernel), List.mem_of_getElem? (i := 879) (by decide +kernel), List.mem_of_getElem? (i := 880) (by decide +kernel)⟩
def lw_privs_1 : List (MethodName × Nat) := [(⟨"InnerCaptures", "typeAt", "(I)LInnerCaptures$Type;"⟩, 8), (⟨"InnerCaptures", "isLetterTaken", "(ILInnerCaptures$Type;I)Z"⟩, 8), (⟨"InnerCaptures", "hasTopWith", "(I)Z"⟩, 8), (⟨"InnerCaptures", "hasMemberWith", "(LInnerCaptures$Type;I)Z"⟩, 8), (⟨"InnerCaptures", "twinNumber", "(ILInnerCaptures$Type;I)I"⟩, 8), (⟨"InnerCaptures", "hasTypeInMethod", "(LInnerCaptures$Type;)Z"⟩, 8), (⟨"InnerCaptures", "makeInto", "(III)I"⟩, 8), (⟨"InnerCaptures", "findFromPlace", "(II)I"⟩, 8), (⟨"InnerCaptures", "findFromType", "(LInnerCaptures$Type;LInnerCaptures$Thing;I)I"⟩, 8), (⟨"InnerCaptures", "findField", "(LInnerCaptures$Type;LInnerCaptures$Thing;I)I"⟩, 8), (⟨"InnerCaptures", "findCopy", "(LInnerCaptures$Type;LInnerCaptures$Thing;I)I"⟩, 8), (⟨"InnerCaptures$Cell", "isThere", "()Z"⟩, 3), (⟨"InnerCaptures", "holdThat", "(III)I"⟩, 8), (⟨"InnerCaptures", "findFromLambda", "(II)I"⟩, 8), (⟨"InnerCaptures", "heldPlaces", "()I"⟩, 8), (⟨"InnerCapturesModel", "isType", "(I)Z"⟩, 33)]
theorem lw_r1 : ∀ q ∈ lw_privs_1, lw_okq q := List.forall_mem_cons.mpr ⟨lw_p0, List.forall_mem_cons.mpr ⟨lw_p1, List.forall_mem_cons.mpr ⟨lw_p2, List.forall_mem_cons.mpr ⟨lw_p3, List.forall_mem_cons.mpr ⟨lw_p4, List.forall_mem_cons.mpr ⟨lw_p5, List.forall_mem_cons.mpr ⟨lw_p6, List.forall_mem_cons.mpr ⟨lw_p7, List.forall_mem_cons.mpr ⟨lw_p8, List.forall_mem_cons.mpr ⟨lw_p9, List.forall_mem_cons.mpr ⟨lw_p10, List.forall_mem_cons.mpr ⟨lw_p11, List.forall_mem_cons.mpr ⟨lw_p12, List.forall_mem_cons.mpr ⟨lw_p13, List.forall_mem_cons.mpr ⟨lw_p14, List.forall_mem_cons.mpr ⟨lw_p15, fun _ h => absurd h List.not_mem_nil⟩⟩⟩⟩⟩⟩⟩⟩⟩⟩⟩⟩⟩⟩⟩⟩
theorem lw_p16 : lw_okq (⟨"InnerCapturesModel", "isTaken", "(III)Z"⟩, 33) := ⟨⟨by decide +kernel, by decide +kernel⟩, List.mem_of_getElem? (i := 766) (by decide +kernel), List.mem_of_getElem? (i := 883) (by decide +kernel), List.mem_of_getElem? (i := 884) (by decide +kernel)⟩
theorem lw_p17 : lw_okq (⟨"InnerCapturesModel", "fieldOf", "(II)I"⟩, 33) := ⟨⟨by decide +kernel, by decide +kernel⟩, List.mem_of_getElem? (i := 766) (by decide +kernel), List.mem_of_getElem? (i := 897) (by decide +kernel), List.mem_of_getElem? (i := 898) (by decide +kernel)⟩
theorem lw_p18 : lw_okq (⟨"InnerCapturesModel", "put", "(I)V"⟩, 33) := ⟨⟨by decide +kernel, by decide +kernel⟩, List.mem_of_getElem? (i := 766) (by decide +kernel), List.mem_of_getElem? (i := 921) (by decide +kernel), List.mem_of_getElem? (i := 922) (by decide +kernel)⟩
theorem lw_p19 : lw_okq (⟨"InnerCapturesModel", "isBound", "(I)Z"⟩, 33) := ⟨⟨by decide +kernel, by decide +kernel⟩, List.mem_of_getElem? (i := 766) (by decide +kernel), List.mem_of_getElem? (i := 932) (by decide +kernel), List.mem_of_getElem? (i := 933) (by decide +kernel)⟩
theorem lw_p20 : lw_okq (⟨"InnerCapturesModel", "isOf", "(II)Z"⟩, 33) := ⟨⟨by decide +kernel, by decide +kernel⟩, List.mem_of_getElem? (i := 766) (by decide +kernel), List.mem_of_getElem? (i := 936) (by decide +kernel), List.mem_of_getElem? (i := 937) (by decide +kernel)⟩
theorem lw_p21 : lw_okq (⟨"InnerCapturesModel", "level", "(III)V"⟩, 33) := ⟨⟨by decide +kernel, by decide +kernel⟩, List.mem_of_getElem? (i := 766) (by decide +kernel), List.mem_of_getElem? (i := 940) (by decide +kernel), List.mem_of_getElem? (i := 941) (by decide +kernel)⟩
theorem lw_p22 : lw_okq (⟨"InnerCapturesModel", "found", "(III)I"⟩, 33) := ⟨⟨by decide +kernel, by decide +kernel⟩, List.mem_of_getElem? (i := 766) (by decide +kernel), List.mem_of_getElem? (i := 944) (by decide +kernel), List.mem_of_getElem? (i := 945) (by decide +kernel)⟩
theorem lw_p23 : lw_okq (⟨"InnerCapturesModel", "told", "(I)J"⟩, 33) := ⟨⟨by decide +kernel, by decide +kernel⟩, List.mem_of_getElem? (i := 766) (by decide +kernel), List.mem_of_getElem? (i := 968) (by decide +kernel), List.mem_of_getElem? (i := 969) (by decide +kernel)⟩
theorem lw_p24 : lw_okq (⟨"InnerCapturesModel", "find", "(IIIZ)J"⟩, 33) := ⟨⟨by decide +kernel, by decide +kernel⟩, List.mem_of_getElem? (i := 766) (by decide +kernel), List.mem_of_getElem? (i := 972) (by decide +kernel), List.mem_of_getElem? (i := 973) (by decide +kernel)⟩
theorem lw_p25 : lw_okq (⟨"InnerCapturesModel", "ofField", "(III)J"⟩, 33) := ⟨⟨by decide +kernel, by decide +kernel⟩, List.mem_of_getElem? (i := 766) (by decide +kernel), List.mem_of_getElem? (i := 976) (by decide +kernel), List.mem_of_getElem? (i := 977) (by decide +kernel)⟩
theorem lw_p26 : lw_okq (⟨"InnerCapturesModel", "localOf", "(III)I"⟩, 33) := ⟨⟨by decide +kernel, by decide +kernel⟩, List.mem_of_getElem? (i := 766) (by decide +kernel), List.mem_of_getElem? (i := 980) (by decide +kernel), List.mem_of_getElem? (i := 981) (by decide +kernel)⟩
theorem lw_p27 : lw_okq (⟨"InnerCapturesModel", "ofLocal", "(IIIZ)J"⟩, 33) := ⟨⟨by decide +kernel, by decide +kernel⟩, List.mem_of_getElem? (i := 766) (by decide +kernel), List.mem_of_getElem? (i := 984) (by decide +kernel), List.mem_of_getElem? (i := 985) (by decide +kernel)⟩
def lw_privs_2 : List (MethodName × Nat) := [(⟨"InnerCapturesModel", "isTaken", "(III)Z"⟩, 33), (⟨"InnerCapturesModel", "fieldOf", "(II)I"⟩, 33), (⟨"InnerCapturesModel", "put", "(I)V"⟩, 33), (⟨"InnerCapturesModel", "isBound", "(I)Z"⟩, 33), (⟨"InnerCapturesModel", "isOf", "(II)Z"⟩, 33), (⟨"InnerCapturesModel", "level", "(III)V"⟩, 33), (⟨"InnerCapturesModel", "found", "(III)I"⟩, 33), (⟨"InnerCapturesModel", "told", "(I)J"⟩, 33), (⟨"InnerCapturesModel", "find", "(IIIZ)J"⟩, 33), (⟨"InnerCapturesModel", "ofField", "(III)J"⟩, 33), (⟨"InnerCapturesModel", "localOf", "(III)I"⟩, 33), (⟨"InnerCapturesModel", "ofLocal", "(IIIZ)J"⟩, 33)]
theorem lw_r2 : ∀ q ∈ lw_privs_2, lw_okq q := List.forall_mem_cons.mpr ⟨lw_p16, List.forall_mem_cons.mpr ⟨lw_p17, List.forall_mem_cons.mpr ⟨lw_p18, List.forall_mem_cons.mpr ⟨lw_p19, List.forall_mem_cons.mpr ⟨lw_p20, List.forall_mem_cons.mpr ⟨lw_p21, List.forall_mem_cons.mpr ⟨lw_p22, List.forall_mem_cons.mpr ⟨lw_p23, List.forall_mem_cons.mpr ⟨lw_p24, List.forall_mem_cons.mpr ⟨lw_p25, List.forall_mem_cons.mpr ⟨lw_p26, List.forall_mem_cons.mpr ⟨lw_p27, fun _ h => absurd h List.not_mem_nil⟩⟩⟩⟩⟩⟩⟩⟩⟩⟩⟩⟩
def lw_privs : List (MethodName × Nat) := lw_privs_1 ++ (lw_privs_2)
def lw_tbl : List Cond := k2_sels lw_privs ++ tables_1
theorem lw_privs_ok : ∀ q ∈ lw_privs, lw_okq q := by
  show ∀ q ∈ lw_privs_1 ++ (lw_privs_2), lw_okq q
  exact List.forall_mem_append.mpr ⟨lw_r1, lw_r2⟩
end
section
def RX0 : String := "InnerCaptures$Cell"
def TX0 : u_T := fun k => match k with
  | 0 => ("InnerCaptures$Cell", "row", "[J", false)
  | 1 => ("InnerCaptures$Cell", "index", "I", false)
  | _ => ("InnerCaptures$Cell", "isCopy", "Z", false)
def tyX0 : Nat → FieldType := fun k => match k with
  | 0 => .array .long
  | 1 => .int
  | _ => .boolean
theorem nmX0 : ∀ a, a < 3 → ∀ b, b < 3 → a ≠ b → (TX0 a).2.1 ≠ (TX0 b).2.1 := by decide +kernel
theorem tyX0_ok : ∀ k, k < 3 → parseFieldDescriptor (TX0 k).2.2.1 = some (tyX0 k) := by decide +kernel
abbrev cX0_init : ByteArray := prog_2_method_1_code
def yX0_init : MethodName := ⟨RX0, "<init>", "()V"⟩
abbrev cX0_pointAt : ByteArray := prog_2_method_2_code
def yX0_pointAt : MethodName := ⟨RX0, "pointAt", "([JIZ)V"⟩
abbrev cX0_isThere : ByteArray := prog_2_method_3_code
def yX0_isThere : MethodName := ⟨RX0, "isThere", "()Z"⟩
abbrev cX0_read : ByteArray := prog_2_method_4_code
def yX0_read : MethodName := ⟨RX0, "read", "()J"⟩
abbrev cX0_write : ByteArray := prog_2_method_5_code
def yX0_write : MethodName := ⟨RX0, "write", "(J)V"⟩
def RX1 : String := "InnerCaptures$Fields"
def TX1 : u_T := fun k => match k with
  | 0 => ("InnerCaptures$Fields", "names", "[I", true)
  | 1 => ("InnerCaptures$Fields", "values", "[J", true)
  | 2 => ("InnerCaptures$Fields", "statics", "[Z", true)
  | _ => ("InnerCaptures$Fields", "size", "I", false)
def tyX1 : Nat → FieldType := fun k => match k with
  | 0 => .array .int
  | 1 => .array .long
  | 2 => .array .boolean
  | _ => .int
theorem nmX1 : ∀ a, a < 4 → ∀ b, b < 4 → a ≠ b → (TX1 a).2.1 ≠ (TX1 b).2.1 := by decide +kernel
theorem tyX1_ok : ∀ k, k < 4 → parseFieldDescriptor (TX1 k).2.2.1 = some (tyX1 k) := by decide +kernel
abbrev cX1_init : ByteArray := prog_3_method_1_code
def yX1_init : MethodName := ⟨RX1, "<init>", "()V"⟩
abbrev cX1_add : ByteArray := prog_3_method_2_code
def yX1_add : MethodName := ⟨RX1, "add", "(IJZ)V"⟩
abbrev cX1_has : ByteArray := prog_3_method_3_code
def yX1_has : MethodName := ⟨RX1, "has", "(I)Z"⟩
abbrev cX1_isStatic : ByteArray := prog_3_method_4_code
def yX1_isStatic : MethodName := ⟨RX1, "isStatic", "(I)Z"⟩
abbrev cX1_indexOf : ByteArray := prog_3_method_5_code
def yX1_indexOf : MethodName := ⟨RX1, "indexOf", "(I)I"⟩
abbrev cX1_firstCells : ByteArray := prog_3_method_6_code
def yX1_firstCells : MethodName := ⟨RX1, "firstCells", "()[J"⟩
def RX2 : String := "InnerCaptures$Lambda"
def TX2 : u_T := fun k => match k with
  | 0 => ("InnerCaptures$Lambda", "home", "LInnerCaptures$Type;", true)
  | 1 => ("InnerCaptures$Lambda", "kept", "LInnerCaptures$Thing;", true)
  | _ => ("InnerCaptures$Lambda", "copies", "[J", true)
def tyX2 : Nat → FieldType := fun k => match k with
  | 0 => .object "InnerCaptures$Type"
  | 1 => .object "InnerCaptures$Thing"
  | _ => .array .long
theorem nmX2 : ∀ a, a < 3 → ∀ b, b < 3 → a ≠ b → (TX2 a).2.1 ≠ (TX2 b).2.1 := by decide +kernel
theorem tyX2_ok : ∀ k, k < 3 → parseFieldDescriptor (TX2 k).2.2.1 = some (tyX2 k) := by decide +kernel
abbrev cX2_init : ByteArray := prog_4_method_1_code
def yX2_init : MethodName := ⟨RX2, "<init>", "(LInnerCaptures$Type;LInnerCaptures$Thing;[J)V"⟩
def RX3 : String := "InnerCaptures$Level"
def TX3 : u_T := fun k => match k with
  | 0 => ("InnerCaptures$Level", "levelType", "LInnerCaptures$Type;", true)
  | 1 => ("InnerCaptures$Level", "around", "LInnerCaptures$Thing;", true)
  | 2 => ("InnerCaptures$Level", "cells", "[J", true)
  | _ => ("InnerCaptures$Level", "copies", "[J", true)
def tyX3 : Nat → FieldType := fun k => match k with
  | 0 => .object "InnerCaptures$Type"
  | 1 => .object "InnerCaptures$Thing"
  | 2 => .array .long
  | _ => .array .long
theorem nmX3 : ∀ a, a < 4 → ∀ b, b < 4 → a ≠ b → (TX3 a).2.1 ≠ (TX3 b).2.1 := by decide +kernel
theorem tyX3_ok : ∀ k, k < 4 → parseFieldDescriptor (TX3 k).2.2.1 = some (tyX3 k) := by decide +kernel
abbrev cX3_init : ByteArray := prog_5_method_1_code
def yX3_init : MethodName := ⟨RX3, "<init>", "(LInnerCaptures$Type;LInnerCaptures$Thing;)V"⟩
def RX4 : String := "InnerCaptures$Locals"
def TX4 : u_T := fun k => match k with
  | 0 => ("InnerCaptures$Locals", "names", "[I", true)
  | 1 => ("InnerCaptures$Locals", "values", "[J", true)
  | 2 => ("InnerCaptures$Locals", "assigned", "[Z", true)
  | _ => ("InnerCaptures$Locals", "size", "I", false)
def tyX4 : Nat → FieldType := fun k => match k with
  | 0 => .array .int
  | 1 => .array .long
  | 2 => .array .boolean
  | _ => .int
theorem nmX4 : ∀ a, a < 4 → ∀ b, b < 4 → a ≠ b → (TX4 a).2.1 ≠ (TX4 b).2.1 := by decide +kernel
theorem tyX4_ok : ∀ k, k < 4 → parseFieldDescriptor (TX4 k).2.2.1 = some (tyX4 k) := by decide +kernel
abbrev cX4_init : ByteArray := prog_6_method_1_code
def yX4_init : MethodName := ⟨RX4, "<init>", "()V"⟩
abbrev cX4_add : ByteArray := prog_6_method_2_code
def yX4_add : MethodName := ⟨RX4, "add", "(IJ)V"⟩
abbrev cX4_has : ByteArray := prog_6_method_3_code
def yX4_has : MethodName := ⟨RX4, "has", "(I)Z"⟩
abbrev cX4_isAssigned : ByteArray := prog_6_method_4_code
def yX4_isAssigned : MethodName := ⟨RX4, "isAssigned", "(I)Z"⟩
abbrev cX4_set : ByteArray := prog_6_method_5_code
def yX4_set : MethodName := ⟨RX4, "set", "(IJ)V"⟩
abbrev cX4_latest : ByteArray := prog_6_method_6_code
def yX4_latest : MethodName := ⟨RX4, "latest", "(II)I"⟩
abbrev cX4_copyOfFirst : ByteArray := prog_6_method_7_code
def yX4_copyOfFirst : MethodName := ⟨RX4, "copyOfFirst", "(I)[J"⟩
def RX5 : String := "InnerCaptures$Thing"
def TX5 : u_T := fun k => match k with
  | 0 => ("InnerCaptures$Thing", "ownType", "LInnerCaptures$Type;", true)
  | _ => ("InnerCaptures$Thing", "levels", "[LInnerCaptures$Level;", true)
def tyX5 : Nat → FieldType := fun k => match k with
  | 0 => .object "InnerCaptures$Type"
  | _ => .array (.object "InnerCaptures$Level")
theorem nmX5 : ∀ a, a < 2 → ∀ b, b < 2 → a ≠ b → (TX5 a).2.1 ≠ (TX5 b).2.1 := by decide +kernel
theorem tyX5_ok : ∀ k, k < 2 → parseFieldDescriptor (TX5 k).2.2.1 = some (tyX5 k) := by decide +kernel
abbrev cX5_init : ByteArray := prog_7_method_1_code
def yX5_init : MethodName := ⟨RX5, "<init>", "(LInnerCaptures$Type;[LInnerCaptures$Level;)V"⟩
abbrev cX5_levelOf : ByteArray := prog_7_method_2_code
def yX5_levelOf : MethodName := ⟨RX5, "levelOf", "(LInnerCaptures$Type;)LInnerCaptures$Level;"⟩
abbrev cX5_aroundAt : ByteArray := prog_7_method_3_code
def yX5_aroundAt : MethodName := ⟨RX5, "aroundAt", "(LInnerCaptures$Type;)LInnerCaptures$Thing;"⟩
def RX6 : String := "InnerCaptures$Type"
def TX6 : u_T := fun k => match k with
  | 0 => ("InnerCaptures$Type", "number", "I", true)
  | 1 => ("InnerCaptures$Type", "kind", "I", true)
  | 2 => ("InnerCaptures$Type", "outer", "LInnerCaptures$Type;", true)
  | 3 => ("InnerCaptures$Type", "letter", "I", true)
  | 4 => ("InnerCaptures$Type", "localsAhead", "I", true)
  | 5 => ("InnerCaptures$Type", "isBound", "Z", true)
  | 6 => ("InnerCaptures$Type", "className", "Ljava/lang/String;", true)
  | 7 => ("InnerCaptures$Type", "fields", "LInnerCaptures$Fields;", true)
  | 8 => ("InnerCaptures$Type", "locals", "LInnerCaptures$Locals;", true)
  | 9 => ("InnerCaptures$Type", "isMethodStatic", "Z", false)
  | _ => ("InnerCaptures$Type", "parentType", "LInnerCaptures$Type;", false)
def tyX6 : Nat → FieldType := fun k => match k with
  | 0 => .int
  | 1 => .int
  | 2 => .object "InnerCaptures$Type"
  | 3 => .int
  | 4 => .int
  | 5 => .boolean
  | 6 => .object "java/lang/String"
  | 7 => .object "InnerCaptures$Fields"
  | 8 => .object "InnerCaptures$Locals"
  | 9 => .boolean
  | _ => .object "InnerCaptures$Type"
theorem nmX6 : ∀ a, a < 11 → ∀ b, b < 11 → a ≠ b → (TX6 a).2.1 ≠ (TX6 b).2.1 := by decide +kernel
theorem tyX6_ok : ∀ k, k < 11 → parseFieldDescriptor (TX6 k).2.2.1 = some (tyX6 k) := by decide +kernel
abbrev cX6_init : ByteArray := prog_8_method_1_code
def yX6_init : MethodName := ⟨RX6, "<init>", "(IILInnerCaptures$Type;II)V"⟩
abbrev cX6_classNameOf : ByteArray := prog_8_method_2_code
def yX6_classNameOf : MethodName := ⟨RX6, "classNameOf", "(LInnerCaptures$Type;II)Ljava/lang/String;"⟩
abbrev cX6_latestLocalAhead : ByteArray := prog_8_method_3_code
def yX6_latestLocalAhead : MethodName := ⟨RX6, "latestLocalAhead", "(I)I"⟩
abbrev cX6_copyLocalsAhead : ByteArray := prog_8_method_4_code
def yX6_copyLocalsAhead : MethodName := ⟨RX6, "copyLocalsAhead", "()[J"⟩
def RX7 : String := "InnerCaptures"
def TX7 : u_T := fun k => match k with
  | 0 => ("InnerCaptures", "types", "[LInnerCaptures$Type;", true)
  | 1 => ("InnerCaptures", "typeCount", "I", false)
  | 2 => ("InnerCaptures", "places", "[LInnerCaptures$Thing;", true)
  | 3 => ("InnerCaptures", "madeCount", "I", false)
  | 4 => ("InnerCaptures", "lambdas", "[LInnerCaptures$Lambda;", true)
  | 5 => ("InnerCaptures", "lambdaCount", "I", false)
  | 6 => ("InnerCaptures", "found", "LInnerCaptures$Cell;", true)
  | _ => ("InnerCaptures", "outcome", "I", false)
def tyX7 : Nat → FieldType := fun k => match k with
  | 0 => .array (.object "InnerCaptures$Type")
  | 1 => .int
  | 2 => .array (.object "InnerCaptures$Thing")
  | 3 => .int
  | 4 => .array (.object "InnerCaptures$Lambda")
  | 5 => .int
  | 6 => .object "InnerCaptures$Cell"
  | _ => .int
theorem nmX7 : ∀ a, a < 8 → ∀ b, b < 8 → a ≠ b → (TX7 a).2.1 ≠ (TX7 b).2.1 := by decide +kernel
theorem tyX7_ok : ∀ k, k < 8 → parseFieldDescriptor (TX7 k).2.2.1 = some (tyX7 k) := by decide +kernel
abbrev cX7_init : ByteArray := prog_1_method_1_code
def yX7_init : MethodName := ⟨RX7, "<init>", "()V"⟩
abbrev cX7_type : ByteArray := prog_1_method_2_code
def yX7_type : MethodName := ⟨RX7, "type", "(III)I"⟩
abbrev cX7_field : ByteArray := prog_1_method_3_code
def yX7_field : MethodName := ⟨RX7, "field", "(IIJZ)I"⟩
abbrev cX7_local : ByteArray := prog_1_method_4_code
def yX7_local : MethodName := ⟨RX7, "local", "(IIJ)I"⟩
abbrev cX7_assign : ByteArray := prog_1_method_5_code
def yX7_assign : MethodName := ⟨RX7, "assign", "(IIJ)I"⟩
abbrev cX7_method : ByteArray := prog_1_method_6_code
def yX7_method : MethodName := ⟨RX7, "method", "(IZ)I"⟩
abbrev cX7_parent : ByteArray := prog_1_method_7_code
def yX7_parent : MethodName := ⟨RX7, "parent", "(II)I"⟩
abbrev cX7_name : ByteArray := prog_1_method_8_code
def yX7_name : MethodName := ⟨RX7, "name", "(II)I"⟩
abbrev cX7_make : ByteArray := prog_1_method_9_code
def yX7_make : MethodName := ⟨RX7, "make", "(III)I"⟩
abbrev cX7_share : ByteArray := prog_1_method_10_code
def yX7_share : MethodName := ⟨RX7, "share", "(II)I"⟩
abbrev cX7_free : ByteArray := prog_1_method_11_code
def yX7_free : MethodName := ⟨RX7, "free", "(I)I"⟩
abbrev cX7_about : ByteArray := prog_1_method_12_code
def yX7_about : MethodName := ⟨RX7, "about", "(II)I"⟩
abbrev cX7_same : ByteArray := prog_1_method_13_code
def yX7_same : MethodName := ⟨RX7, "same", "(II)I"⟩
abbrev cX7_see : ByteArray := prog_1_method_14_code
def yX7_see : MethodName := ⟨RX7, "see", "(II)J"⟩
abbrev cX7_put : ByteArray := prog_1_method_15_code
def yX7_put : MethodName := ⟨RX7, "put", "(IIJ)I"⟩
abbrev cX7_that : ByteArray := prog_1_method_16_code
def yX7_that : MethodName := ⟨RX7, "that", "(III)I"⟩
abbrev cX7_constant : ByteArray := prog_1_method_17_code
def yX7_constant : MethodName := ⟨RX7, "constant", "(II)J"⟩
abbrev cX7_lambda : ByteArray := prog_1_method_18_code
def yX7_lambda : MethodName := ⟨RX7, "lambda", "(II)I"⟩
abbrev cX7_seen : ByteArray := prog_1_method_19_code
def yX7_seen : MethodName := ⟨RX7, "seen", "(II)J"⟩
abbrev cX7_why : ByteArray := prog_1_method_20_code
def yX7_why : MethodName := ⟨RX7, "why", "()I"⟩
abbrev cX7_count : ByteArray := prog_1_method_21_code
def yX7_count : MethodName := ⟨RX7, "count", "(I)I"⟩
abbrev cX7_typeAt : ByteArray := prog_1_method_22_code
def yX7_typeAt : MethodName := ⟨RX7, "typeAt", "(I)LInnerCaptures$Type;"⟩
abbrev cX7_isPlace : ByteArray := prog_1_method_23_code
def yX7_isPlace : MethodName := ⟨RX7, "isPlace", "(I)Z"⟩
abbrev cX7_isName : ByteArray := prog_1_method_24_code
def yX7_isName : MethodName := ⟨RX7, "isName", "(I)Z"⟩
abbrev cX7_heldPlaces : ByteArray := prog_1_method_25_code
def yX7_heldPlaces : MethodName := ⟨RX7, "heldPlaces", "()I"⟩
abbrev cX7_isMember : ByteArray := prog_1_method_26_code
def yX7_isMember : MethodName := ⟨RX7, "isMember", "(I)Z"⟩
abbrev cX7_standsInMethod : ByteArray := prog_1_method_27_code
def yX7_standsInMethod : MethodName := ⟨RX7, "standsInMethod", "(I)Z"⟩
abbrev cX7_isLetterTaken : ByteArray := prog_1_method_28_code
def yX7_isLetterTaken : MethodName := ⟨RX7, "isLetterTaken", "(ILInnerCaptures$Type;I)Z"⟩
abbrev cX7_hasTopWith : ByteArray := prog_1_method_29_code
def yX7_hasTopWith : MethodName := ⟨RX7, "hasTopWith", "(I)Z"⟩
abbrev cX7_hasMemberWith : ByteArray := prog_1_method_30_code
def yX7_hasMemberWith : MethodName := ⟨RX7, "hasMemberWith", "(LInnerCaptures$Type;I)Z"⟩
abbrev cX7_twinNumber : ByteArray := prog_1_method_31_code
def yX7_twinNumber : MethodName := ⟨RX7, "twinNumber", "(ILInnerCaptures$Type;I)I"⟩
abbrev cX7_hasTypeInMethod : ByteArray := prog_1_method_32_code
def yX7_hasTypeInMethod : MethodName := ⟨RX7, "hasTypeInMethod", "(LInnerCaptures$Type;)Z"⟩
abbrev cX7_isSameOrAbove : ByteArray := prog_1_method_33_code
def yX7_isSameOrAbove : MethodName := ⟨RX7, "isSameOrAbove", "(LInnerCaptures$Type;LInnerCaptures$Type;)Z"⟩
abbrev cX7_makeInto : ByteArray := prog_1_method_34_code
def yX7_makeInto : MethodName := ⟨RX7, "makeInto", "(III)I"⟩
abbrev cX7_levelCount : ByteArray := prog_1_method_35_code
def yX7_levelCount : MethodName := ⟨RX7, "levelCount", "(LInnerCaptures$Type;)I"⟩
abbrev cX7_levelsFor : ByteArray := prog_1_method_36_code
def yX7_levelsFor : MethodName := ⟨RX7, "levelsFor", "(LInnerCaptures$Type;LInnerCaptures$Thing;)[LInnerCaptures$Level;"⟩
abbrev cX7_nearestOf : ByteArray := prog_1_method_37_code
def yX7_nearestOf : MethodName := ⟨RX7, "nearestOf", "(LInnerCaptures$Type;LInnerCaptures$Type;LInnerCaptures$Thing;)LInnerCaptures$Thing;"⟩
abbrev cX7_findFromPlace : ByteArray := prog_1_method_38_code
def yX7_findFromPlace : MethodName := ⟨RX7, "findFromPlace", "(II)I"⟩
abbrev cX7_findFromLambda : ByteArray := prog_1_method_39_code
def yX7_findFromLambda : MethodName := ⟨RX7, "findFromLambda", "(II)I"⟩
abbrev cX7_findFromType : ByteArray := prog_1_method_40_code
def yX7_findFromType : MethodName := ⟨RX7, "findFromType", "(LInnerCaptures$Type;LInnerCaptures$Thing;I)I"⟩
abbrev cX7_ownerOfField : ByteArray := prog_1_method_41_code
def yX7_ownerOfField : MethodName := ⟨RX7, "ownerOfField", "(LInnerCaptures$Type;I)LInnerCaptures$Type;"⟩
abbrev cX7_findField : ByteArray := prog_1_method_42_code
def yX7_findField : MethodName := ⟨RX7, "findField", "(LInnerCaptures$Type;LInnerCaptures$Thing;I)I"⟩
abbrev cX7_findCopy : ByteArray := prog_1_method_43_code
def yX7_findCopy : MethodName := ⟨RX7, "findCopy", "(LInnerCaptures$Type;LInnerCaptures$Thing;I)I"⟩
abbrev cX7_holdThat : ByteArray := prog_1_method_44_code
def yX7_holdThat : MethodName := ⟨RX7, "holdThat", "(III)I"⟩
def RX8 : String := "InnerCapturesModel"
def TX8 : u_T := fun k => match k with
  | 0 => ("InnerCapturesModel", "types", "I", false)
  | 1 => ("InnerCapturesModel", "kinds", "[I", true)
  | 2 => ("InnerCapturesModel", "outers", "[I", true)
  | 3 => ("InnerCapturesModel", "letters", "[I", true)
  | 4 => ("InnerCapturesModel", "numbers", "[I", true)
  | 5 => ("InnerCapturesModel", "ahead", "[I", true)
  | 6 => ("InnerCapturesModel", "parents", "[I", true)
  | 7 => ("InnerCapturesModel", "fields", "[I", true)
  | 8 => ("InnerCapturesModel", "fieldName", "[I", true)
  | 9 => ("InnerCapturesModel", "fieldValue", "[J", true)
  | 10 => ("InnerCapturesModel", "isStatic", "[Z", true)
  | 11 => ("InnerCapturesModel", "isStaticMethod", "[Z", true)
  | 12 => ("InnerCapturesModel", "locals", "[I", true)
  | 13 => ("InnerCapturesModel", "localName", "[I", true)
  | 14 => ("InnerCapturesModel", "localValue", "[J", true)
  | 15 => ("InnerCapturesModel", "isAssigned", "[Z", true)
  | 16 => ("InnerCapturesModel", "objects", "I", false)
  | 17 => ("InnerCapturesModel", "typeOf", "[I", true)
  | 18 => ("InnerCapturesModel", "has", "[I", true)
  | 19 => ("InnerCapturesModel", "around", "[I", true)
  | 20 => ("InnerCapturesModel", "values", "[J", true)
  | 21 => ("InnerCapturesModel", "copies", "[J", true)
  | 22 => ("InnerCapturesModel", "places", "[I", true)
  | 23 => ("InnerCapturesModel", "lambdas", "I", false)
  | 24 => ("InnerCapturesModel", "lambdaType", "[I", true)
  | 25 => ("InnerCapturesModel", "lambdaObject", "[I", true)
  | 26 => ("InnerCapturesModel", "lambdaMany", "[I", true)
  | 27 => ("InnerCapturesModel", "lambdaCopy", "[J", true)
  | 28 => ("InnerCapturesModel", "why", "I", false)
  | 29 => ("InnerCapturesModel", "bytes", "[I", true)
  | 30 => ("InnerCapturesModel", "many", "I", false)
  | 31 => ("InnerCapturesModel", "foundField", "I", false)
  | _ => ("InnerCapturesModel", "foundObject", "I", false)
def tyX8 : Nat → FieldType := fun k => match k with
  | 0 => .int
  | 1 => .array .int
  | 2 => .array .int
  | 3 => .array .int
  | 4 => .array .int
  | 5 => .array .int
  | 6 => .array .int
  | 7 => .array .int
  | 8 => .array .int
  | 9 => .array .long
  | 10 => .array .boolean
  | 11 => .array .boolean
  | 12 => .array .int
  | 13 => .array .int
  | 14 => .array .long
  | 15 => .array .boolean
  | 16 => .int
  | 17 => .array .int
  | 18 => .array .int
  | 19 => .array .int
  | 20 => .array .long
  | 21 => .array .long
  | 22 => .array .int
  | 23 => .int
  | 24 => .array .int
  | 25 => .array .int
  | 26 => .array .int
  | 27 => .array .long
  | 28 => .int
  | 29 => .array .int
  | 30 => .int
  | 31 => .int
  | _ => .int
theorem nmX8 : ∀ a, a < 33 → ∀ b, b < 33 → a ≠ b → (TX8 a).2.1 ≠ (TX8 b).2.1 := by decide +kernel
theorem tyX8_ok : ∀ k, k < 33 → parseFieldDescriptor (TX8 k).2.2.1 = some (tyX8 k) := by decide +kernel
abbrev cX8_init : ByteArray := prog_10_method_1_code
def yX8_init : MethodName := ⟨RX8, "<init>", "()V"⟩
abbrev cX8_in : ByteArray := prog_10_method_2_code
def yX8_in : MethodName := ⟨RX8, "in", "(III)Z"⟩
abbrev cX8_isType : ByteArray := prog_10_method_3_code
def yX8_isType : MethodName := ⟨RX8, "isType", "(I)Z"⟩
abbrev cX8_isPlace : ByteArray := prog_10_method_4_code
def yX8_isPlace : MethodName := ⟨RX8, "isPlace", "(I)Z"⟩
abbrev cX8_isName : ByteArray := prog_10_method_5_code
def yX8_isName : MethodName := ⟨RX8, "isName", "(I)Z"⟩
abbrev cX8_isInMethod : ByteArray := prog_10_method_6_code
def yX8_isInMethod : MethodName := ⟨RX8, "isInMethod", "(I)Z"⟩
abbrev cX8_isBound : ByteArray := prog_10_method_7_code
def yX8_isBound : MethodName := ⟨RX8, "isBound", "(I)Z"⟩
abbrev cX8_isTaken : ByteArray := prog_10_method_8_code
def yX8_isTaken : MethodName := ⟨RX8, "isTaken", "(III)Z"⟩
abbrev cX8_type : ByteArray := prog_10_method_9_code
def yX8_type : MethodName := ⟨RX8, "type", "(III)I"⟩
abbrev cX8_fieldOf : ByteArray := prog_10_method_10_code
def yX8_fieldOf : MethodName := ⟨RX8, "fieldOf", "(II)I"⟩
abbrev cX8_field : ByteArray := prog_10_method_11_code
def yX8_field : MethodName := ⟨RX8, "field", "(IIJZ)I"⟩
abbrev cX8_local : ByteArray := prog_10_method_12_code
def yX8_local : MethodName := ⟨RX8, "local", "(IIJ)I"⟩
abbrev cX8_assign : ByteArray := prog_10_method_13_code
def yX8_assign : MethodName := ⟨RX8, "assign", "(IIJ)I"⟩
abbrev cX8_method : ByteArray := prog_10_method_14_code
def yX8_method : MethodName := ⟨RX8, "method", "(IZ)I"⟩
abbrev cX8_parent : ByteArray := prog_10_method_15_code
def yX8_parent : MethodName := ⟨RX8, "parent", "(II)I"⟩
abbrev cX8_put : ByteArray := prog_10_method_16_code
def yX8_put : MethodName := ⟨RX8, "put", "(I)V"⟩
abbrev cX8_name : ByteArray := prog_10_method_17_code
def yX8_name : MethodName := ⟨RX8, "name", "(II)I"⟩
abbrev cX8_isOf : ByteArray := prog_10_method_18_code
def yX8_isOf : MethodName := ⟨RX8, "isOf", "(II)Z"⟩
abbrev cX8_found : ByteArray := prog_10_method_19_code
def yX8_found : MethodName := ⟨RX8, "found", "(III)I"⟩
abbrev cX8_level : ByteArray := prog_10_method_20_code
def yX8_level : MethodName := ⟨RX8, "level", "(III)V"⟩
abbrev cX8_make : ByteArray := prog_10_method_21_code
def yX8_make : MethodName := ⟨RX8, "make", "(III)I"⟩
abbrev cX8_share : ByteArray := prog_10_method_22_code
def yX8_share : MethodName := ⟨RX8, "share", "(II)I"⟩
abbrev cX8_free : ByteArray := prog_10_method_23_code
def yX8_free : MethodName := ⟨RX8, "free", "(I)I"⟩
abbrev cX8_about : ByteArray := prog_10_method_24_code
def yX8_about : MethodName := ⟨RX8, "about", "(II)I"⟩
abbrev cX8_same : ByteArray := prog_10_method_25_code
def yX8_same : MethodName := ⟨RX8, "same", "(II)I"⟩
abbrev cX8_told : ByteArray := prog_10_method_26_code
def yX8_told : MethodName := ⟨RX8, "told", "(I)J"⟩
abbrev cX8_localOf : ByteArray := prog_10_method_27_code
def yX8_localOf : MethodName := ⟨RX8, "localOf", "(III)I"⟩
abbrev cX8_ofField : ByteArray := prog_10_method_28_code
def yX8_ofField : MethodName := ⟨RX8, "ofField", "(III)J"⟩
abbrev cX8_ofLocal : ByteArray := prog_10_method_29_code
def yX8_ofLocal : MethodName := ⟨RX8, "ofLocal", "(IIIZ)J"⟩
abbrev cX8_find : ByteArray := prog_10_method_30_code
def yX8_find : MethodName := ⟨RX8, "find", "(IIIZ)J"⟩
abbrev cX8_see : ByteArray := prog_10_method_31_code
def yX8_see : MethodName := ⟨RX8, "see", "(II)J"⟩
abbrev cX8_put_ : ByteArray := prog_10_method_32_code
def yX8_put_ : MethodName := ⟨RX8, "put", "(IIJ)I"⟩
abbrev cX8_that : ByteArray := prog_10_method_33_code
def yX8_that : MethodName := ⟨RX8, "that", "(III)I"⟩
abbrev cX8_constant : ByteArray := prog_10_method_34_code
def yX8_constant : MethodName := ⟨RX8, "constant", "(II)J"⟩
abbrev cX8_lambda : ByteArray := prog_10_method_35_code
def yX8_lambda : MethodName := ⟨RX8, "lambda", "(II)I"⟩
abbrev cX8_seen : ByteArray := prog_10_method_36_code
def yX8_seen : MethodName := ⟨RX8, "seen", "(II)J"⟩
abbrev cX8_why : ByteArray := prog_10_method_37_code
def yX8_why : MethodName := ⟨RX8, "why", "()I"⟩
abbrev cX8_count : ByteArray := prog_10_method_38_code
def yX8_count : MethodName := ⟨RX8, "count", "(I)I"⟩
def RJ5 : String := "java/lang/AbstractStringBuilder"
def TJ5 : u_T := fun k => match k with
  | _ => ("", "", "", false)
def tyJ5 : Nat → FieldType := fun k => match k with
  | _ => .int
theorem nmJ5 : ∀ a, a < 0 → ∀ b, b < 0 → a ≠ b → (TJ5 a).2.1 ≠ (TJ5 b).2.1 := by decide +kernel
theorem tyJ5_ok : ∀ k, k < 0 → parseFieldDescriptor (TJ5 k).2.2.1 = some (tyJ5 k) := by decide +kernel
abbrev cJ5_init_d00df : ByteArray := prog_11_method_2_code
def yJ5_init_d00df : MethodName := ⟨RJ5, "<init>", "(I)V"⟩
abbrev cJ5_length_8abf5 : ByteArray := prog_11_method_6_code
def yJ5_length_8abf5 : MethodName := ⟨RJ5, "length", "()I"⟩
abbrev cJ5_ensureCapacityInternal_d00df : ByteArray := prog_11_method_9_code
def yJ5_ensureCapacityInternal_d00df : MethodName := ⟨RJ5, "ensureCapacityInternal", "(I)V"⟩
abbrev cJ5_newCapacity_0f7a4 : ByteArray := prog_11_method_10_code
def yJ5_newCapacity_0f7a4 : MethodName := ⟨RJ5, "newCapacity", "(I)I"⟩
abbrev cJ5_inflate_da8c8 : ByteArray := prog_11_method_11_code
def yJ5_inflate_da8c8 : MethodName := ⟨RJ5, "inflate", "()V"⟩
abbrev cJ5_append_cf1ce : ByteArray := prog_11_method_22_code
def yJ5_append_cf1ce : MethodName := ⟨RJ5, "append", "(Ljava/lang/String;)Ljava/lang/AbstractStringBuilder;"⟩
abbrev cJ5_appendNull_278bc : ByteArray := prog_11_method_26_code
def yJ5_appendNull_278bc : MethodName := ⟨RJ5, "appendNull", "()Ljava/lang/AbstractStringBuilder;"⟩
abbrev cJ5_append_3fe6f : ByteArray := prog_11_method_31_code
def yJ5_append_3fe6f : MethodName := ⟨RJ5, "append", "(C)Ljava/lang/AbstractStringBuilder;"⟩
abbrev cJ5_append_c97b9 : ByteArray := prog_11_method_32_code
def yJ5_append_c97b9 : MethodName := ⟨RJ5, "append", "(I)Ljava/lang/AbstractStringBuilder;"⟩
abbrev cJ5_getValue_6d5f1 : ByteArray := prog_11_method_64_code
def yJ5_getValue_6d5f1 : MethodName := ⟨RJ5, "getValue", "()[B"⟩
abbrev cJ5_isLatin1_aae02 : ByteArray := prog_11_method_68_code
def yJ5_isLatin1_aae02 : MethodName := ⟨RJ5, "isLatin1", "()Z"⟩
abbrev cJ5_inflateIfNeededFor_a7421 : ByteArray := prog_11_method_71_code
def yJ5_inflateIfNeededFor_a7421 : MethodName := ⟨RJ5, "inflateIfNeededFor", "(Ljava/lang/String;)V"⟩
abbrev cJ5_putStringAt_47b60 : ByteArray := prog_11_method_73_code
def yJ5_putStringAt_47b60 : MethodName := ⟨RJ5, "putStringAt", "(ILjava/lang/String;)V"⟩
def RJx8e188 : String := "java/lang/Cloneable"
def TJx8e188 : u_T := fun k => match k with
  | _ => ("", "", "", false)
def tyJx8e188 : Nat → FieldType := fun k => match k with
  | _ => .int
theorem nmJx8e188 : ∀ a, a < 0 → ∀ b, b < 0 → a ≠ b → (TJx8e188 a).2.1 ≠ (TJx8e188 b).2.1 := by decide +kernel
theorem tyJx8e188_ok : ∀ k, k < 0 → parseFieldDescriptor (TJx8e188 k).2.2.1 = some (tyJx8e188 k) := by decide +kernel
def RJ6 : String := "java/lang/Integer"
def TJ6 : u_T := fun k => match k with
  | _ => ("", "", "", false)
def tyJ6 : Nat → FieldType := fun k => match k with
  | _ => .int
theorem nmJ6 : ∀ a, a < 0 → ∀ b, b < 0 → a ≠ b → (TJ6 a).2.1 ≠ (TJ6 b).2.1 := by decide +kernel
theorem tyJ6_ok : ∀ k, k < 0 → parseFieldDescriptor (TJ6 k).2.2.1 = some (tyJ6 k) := by decide +kernel
abbrev cJ6_getChars_ba4f3 : ByteArray := prog_13_method_12_code
def yJ6_getChars_ba4f3 : MethodName := ⟨RJ6, "getChars", "(II[B)I"⟩
abbrev cJ6_stringSize_0f7a4 : ByteArray := prog_13_method_13_code
def yJ6_stringSize_0f7a4 : MethodName := ⟨RJ6, "stringSize", "(I)I"⟩
def RJ9 : String := "java/lang/Math"
def TJ9 : u_T := fun k => match k with
  | _ => ("", "", "", false)
def tyJ9 : Nat → FieldType := fun k => match k with
  | _ => .int
theorem nmJ9 : ∀ a, a < 0 → ∀ b, b < 0 → a ≠ b → (TJ9 a).2.1 ≠ (TJ9 b).2.1 := by decide +kernel
theorem tyJ9_ok : ∀ k, k < 0 → parseFieldDescriptor (TJ9 k).2.2.1 = some (tyJ9 k) := by decide +kernel
abbrev cJ9_max_7cf53 : ByteArray := prog_14_method_65_code
def yJ9_max_7cf53 : MethodName := ⟨RJ9, "max", "(II)I"⟩
abbrev cJ9_min_7cf53 : ByteArray := prog_14_method_69_code
def yJ9_min_7cf53 : MethodName := ⟨RJ9, "min", "(II)I"⟩
def RJ0 : String := "java/lang/String"
def TJ0 : u_T := fun k => match k with
  | 0 => ("java/lang/String", "value", "[B", true)
  | 1 => ("java/lang/String", "coder", "B", true)
  | 2 => ("java/lang/String", "hash", "I", false)
  | _ => ("java/lang/String", "hashIsZero", "Z", false)
def tyJ0 : Nat → FieldType := fun k => match k with
  | 0 => .array .byte
  | 1 => .byte
  | 2 => .int
  | _ => .boolean
theorem nmJ0 : ∀ a, a < 4 → ∀ b, b < 4 → a ≠ b → (TJ0 a).2.1 ≠ (TJ0 b).2.1 := by decide +kernel
theorem tyJ0_ok : ∀ k, k < 4 → parseFieldDescriptor (TJ0 k).2.2.1 = some (tyJ0 k) := by decide +kernel
abbrev cJ0_init_81219 : ByteArray := prog_15_method_53_code
def yJ0_init_81219 : MethodName := ⟨RJ0, "<init>", "(Ljava/lang/StringBuilder;)V"⟩
abbrev cJ0_length_8abf5 : ByteArray := prog_15_method_54_code
def yJ0_length_8abf5 : MethodName := ⟨RJ0, "length", "()I"⟩
abbrev cJ0_charAt_5068e : ByteArray := prog_15_method_56_code
def yJ0_charAt_5068e : MethodName := ⟨RJ0, "charAt", "(I)C"⟩
abbrev cJ0_getBytes_840e7 : ByteArray := prog_15_method_147_code
def yJ0_getBytes_840e7 : MethodName := ⟨RJ0, "getBytes", "([BIB)V"⟩
abbrev cJ0_init_db425 : ByteArray := prog_15_method_150_code
def yJ0_init_db425 : MethodName := ⟨RJ0, "<init>", "(Ljava/lang/AbstractStringBuilder;Ljava/lang/Void;)V"⟩
abbrev cJ0_coder_7d493 : ByteArray := prog_15_method_152_code
def yJ0_coder_7d493 : MethodName := ⟨RJ0, "coder", "()B"⟩
abbrev cJ0_isLatin1_aae02 : ByteArray := prog_15_method_154_code
def yJ0_isLatin1_aae02 : MethodName := ⟨RJ0, "isLatin1", "()Z"⟩
abbrev cJ0_checkIndex_df160 : ByteArray := prog_15_method_155_code
def yJ0_checkIndex_df160 : MethodName := ⟨RJ0, "checkIndex", "(II)V"⟩
abbrev cJ0_checkBoundsOffCount_cabcc : ByteArray := prog_15_method_157_code
def yJ0_checkBoundsOffCount_cabcc : MethodName := ⟨RJ0, "checkBoundsOffCount", "(III)I"⟩
abbrev cJ0_checkBoundsBeginEnd_23922 : ByteArray := prog_15_method_158_code
def yJ0_checkBoundsBeginEnd_23922 : MethodName := ⟨RJ0, "checkBoundsBeginEnd", "(III)V"⟩
def RJ4 : String := "java/lang/StringBuilder"
def TJ4 : u_T := fun k => match k with
  | 0 => ("java/lang/AbstractStringBuilder", "value", "[B", false)
  | 1 => ("java/lang/AbstractStringBuilder", "coder", "B", false)
  | 2 => ("java/lang/AbstractStringBuilder", "maybeLatin1", "Z", false)
  | _ => ("java/lang/AbstractStringBuilder", "count", "I", false)
def tyJ4 : Nat → FieldType := fun k => match k with
  | 0 => .array .byte
  | 1 => .byte
  | 2 => .boolean
  | _ => .int
theorem nmJ4 : ∀ a, a < 4 → ∀ b, b < 4 → a ≠ b → (TJ4 a).2.1 ≠ (TJ4 b).2.1 := by decide +kernel
theorem tyJ4_ok : ∀ k, k < 4 → parseFieldDescriptor (TJ4 k).2.2.1 = some (tyJ4 k) := by decide +kernel
abbrev cJ4_init_da8c8 : ByteArray := prog_16_method_1_code
def yJ4_init_da8c8 : MethodName := ⟨RJ4, "<init>", "()V"⟩
abbrev cJ4_append_15ec4 : ByteArray := prog_16_method_7_code
def yJ4_append_15ec4 : MethodName := ⟨RJ4, "append", "(Ljava/lang/String;)Ljava/lang/StringBuilder;"⟩
abbrev cJ4_append_cf468 : ByteArray := prog_16_method_14_code
def yJ4_append_cf468 : MethodName := ⟨RJ4, "append", "(C)Ljava/lang/StringBuilder;"⟩
abbrev cJ4_append_bf812 : ByteArray := prog_16_method_15_code
def yJ4_append_bf812 : MethodName := ⟨RJ4, "append", "(I)Ljava/lang/StringBuilder;"⟩
abbrev cJ4_toString_0e30d : ByteArray := prog_16_method_42_code
def yJ4_toString_0e30d : MethodName := ⟨RJ4, "toString", "()Ljava/lang/String;"⟩
abbrev cJ4_length_8abf5 : ByteArray := prog_16_method_93_code
def yJ4_length_8abf5 : MethodName := ⟨RJ4, "length", "()I"⟩
def RJ1 : String := "java/lang/StringLatin1"
def TJ1 : u_T := fun k => match k with
  | _ => ("", "", "", false)
def tyJ1 : Nat → FieldType := fun k => match k with
  | _ => .int
theorem nmJ1 : ∀ a, a < 0 → ∀ b, b < 0 → a ≠ b → (TJ1 a).2.1 ≠ (TJ1 b).2.1 := by decide +kernel
theorem tyJ1_ok : ∀ k, k < 0 → parseFieldDescriptor (TJ1 k).2.2.1 = some (tyJ1 k) := by decide +kernel
abbrev cJ1_charAt_3b067 : ByteArray := prog_17_method_2_code
def yJ1_charAt_3b067 : MethodName := ⟨RJ1, "charAt", "([BI)C"⟩
abbrev cJ1_canEncode_fc78d : ByteArray := prog_17_method_3_code
def yJ1_canEncode_fc78d : MethodName := ⟨RJ1, "canEncode", "(C)Z"⟩
abbrev cJ1_inflate_0e8fd : ByteArray := prog_17_method_50_code
def yJ1_inflate_0e8fd : MethodName := ⟨RJ1, "inflate", "([BI[BII)V"⟩
def RJ2 : String := "java/lang/StringUTF16"
def TJ2 : u_T := fun k => match k with
  | _ => ("", "", "", false)
def tyJ2 : Nat → FieldType := fun k => match k with
  | _ => .int
theorem nmJ2 : ∀ a, a < 0 → ∀ b, b < 0 → a ≠ b → (TJ2 a).2.1 ≠ (TJ2 b).2.1 := by decide +kernel
theorem tyJ2_ok : ∀ k, k < 0 → parseFieldDescriptor (TJ2 k).2.2.1 = some (tyJ2 k) := by decide +kernel
abbrev cJ2_newBytesFor_77867 : ByteArray := prog_18_method_2_code
def yJ2_newBytesFor_77867 : MethodName := ⟨RJ2, "newBytesFor", "(I)[B"⟩
abbrev cJ2_newBytesLength_0f7a4 : ByteArray := prog_18_method_3_code
def yJ2_newBytesLength_0f7a4 : MethodName := ⟨RJ2, "newBytesLength", "(I)I"⟩
abbrev cJ2_putChar_b72d1 : ByteArray := prog_18_method_4_code
def yJ2_putChar_b72d1 : MethodName := ⟨RJ2, "putChar", "([BII)V"⟩
abbrev cJ2_getChar_3b067 : ByteArray := prog_18_method_5_code
def yJ2_getChar_3b067 : MethodName := ⟨RJ2, "getChar", "([BI)C"⟩
abbrev cJ2_length_9d52b : ByteArray := prog_18_method_6_code
def yJ2_length_9d52b : MethodName := ⟨RJ2, "length", "([B)I"⟩
abbrev cJ2_coderFromArrayLen_85cad : ByteArray := prog_18_method_15_code
def yJ2_coderFromArrayLen_85cad : MethodName := ⟨RJ2, "coderFromArrayLen", "([BI)B"⟩
abbrev cJ2_compress_39247 : ByteArray := prog_18_method_17_code
def yJ2_compress_39247 : MethodName := ⟨RJ2, "compress", "([BII)[B"⟩
abbrev cJ2_compress_5af95 : ByteArray := prog_18_method_22_code
def yJ2_compress_5af95 : MethodName := ⟨RJ2, "compress", "([BI[BII)I"⟩
abbrev cJ2_putCharSB_b72d1 : ByteArray := prog_18_method_71_code
def yJ2_putCharSB_b72d1 : MethodName := ⟨RJ2, "putCharSB", "([BII)V"⟩
abbrev cJ2_getChars_46870 : ByteArray := prog_18_method_77_code
def yJ2_getChars_46870 : MethodName := ⟨RJ2, "getChars", "(III[B)I"⟩
abbrev cJ2_putCharsAt_cd4e5 : ByteArray := prog_18_method_81_code
def yJ2_putCharsAt_cd4e5 : MethodName := ⟨RJ2, "putCharsAt", "([BICCCC)I"⟩
abbrev cJ2_charAt_3b067 : ByteArray := prog_18_method_83_code
def yJ2_charAt_3b067 : MethodName := ⟨RJ2, "charAt", "([BI)C"⟩
abbrev cJ2_inflate_0e8fd : ByteArray := prog_18_method_86_code
def yJ2_inflate_0e8fd : MethodName := ⟨RJ2, "inflate", "([BI[BII)V"⟩
abbrev cJ2_getChars_ba4f3 : ByteArray := prog_18_method_89_code
def yJ2_getChars_ba4f3 : MethodName := ⟨RJ2, "getChars", "(II[B)I"⟩
abbrev cJ2_checkIndex_2214a : ByteArray := prog_18_method_91_code
def yJ2_checkIndex_2214a : MethodName := ⟨RJ2, "checkIndex", "(I[B)V"⟩
abbrev cJ2_checkBoundsBeginEnd_d044e : ByteArray := prog_18_method_93_code
def yJ2_checkBoundsBeginEnd_d044e : MethodName := ⟨RJ2, "checkBoundsBeginEnd", "(II[B)V"⟩
abbrev cJ2_checkBoundsOffCount_d044e : ByteArray := prog_18_method_94_code
def yJ2_checkBoundsOffCount_d044e : MethodName := ⟨RJ2, "checkBoundsOffCount", "(II[B)V"⟩
def RJ10 : String := "java/lang/System"
def TJ10 : u_T := fun k => match k with
  | _ => ("", "", "", false)
def tyJ10 : Nat → FieldType := fun k => match k with
  | _ => .int
theorem nmJ10 : ∀ a, a < 0 → ∀ b, b < 0 → a ≠ b → (TJ10 a).2.1 ≠ (TJ10 b).2.1 := by decide +kernel
theorem tyJ10_ok : ∀ k, k < 0 → parseFieldDescriptor (TJ10 k).2.2.1 = some (tyJ10 k) := by decide +kernel
def RJ7 : String := "java/util/Arrays"
def TJ7 : u_T := fun k => match k with
  | _ => ("", "", "", false)
def tyJ7 : Nat → FieldType := fun k => match k with
  | _ => .int
theorem nmJ7 : ∀ a, a < 0 → ∀ b, b < 0 → a ≠ b → (TJ7 a).2.1 ≠ (TJ7 b).2.1 := by decide +kernel
theorem tyJ7_ok : ∀ k, k < 0 → parseFieldDescriptor (TJ7 k).2.2.1 = some (tyJ7 k) := by decide +kernel
abbrev cJ7_copyOf_9075b : ByteArray := prog_20_method_121_code
def yJ7_copyOf_9075b : MethodName := ⟨RJ7, "copyOf", "([BI)[B"⟩
abbrev cJ7_copyOf_c38d5 : ByteArray := prog_20_method_124_code
def yJ7_copyOf_c38d5 : MethodName := ⟨RJ7, "copyOf", "([JI)[J"⟩
abbrev cJ7_checkLength_df160 : ByteArray := prog_20_method_131_code
def yJ7_checkLength_df160 : MethodName := ⟨RJ7, "checkLength", "(II)V"⟩
abbrev cJ7_copyOfRange_39247 : ByteArray := prog_20_method_132_code
def yJ7_copyOfRange_39247 : MethodName := ⟨RJ7, "copyOfRange", "([BII)[B"⟩
abbrev cJ7_copyOfRangeByte_39247 : ByteArray := prog_20_method_133_code
def yJ7_copyOfRangeByte_39247 : MethodName := ⟨RJ7, "copyOfRangeByte", "([BII)[B"⟩
def RJ8 : String := "jdk/internal/util/ArraysSupport"
def TJ8 : u_T := fun k => match k with
  | _ => ("", "", "", false)
def tyJ8 : Nat → FieldType := fun k => match k with
  | _ => .int
theorem nmJ8 : ∀ a, a < 0 → ∀ b, b < 0 → a ≠ b → (TJ8 a).2.1 ≠ (TJ8 b).2.1 := by decide +kernel
theorem tyJ8_ok : ∀ k, k < 0 → parseFieldDescriptor (TJ8 k).2.2.1 = some (tyJ8 k) := by decide +kernel
abbrev cJ8_newLength_cabcc : ByteArray := prog_21_method_27_code
def yJ8_newLength_cabcc : MethodName := ⟨RJ8, "newLength", "(III)I"⟩
abbrev cJ8_hugeLength_7cf53 : ByteArray := prog_21_method_28_code
def yJ8_hugeLength_7cf53 : MethodName := ⟨RJ8, "hugeLength", "(II)I"⟩
def RJ3 : String := "jdk/internal/util/Preconditions"
def TJ3 : u_T := fun k => match k with
  | _ => ("", "", "", false)
def tyJ3 : Nat → FieldType := fun k => match k with
  | _ => .int
theorem nmJ3 : ∀ a, a < 0 → ∀ b, b < 0 → a ≠ b → (TJ3 a).2.1 ≠ (TJ3 b).2.1 := by decide +kernel
theorem tyJ3_ok : ∀ k, k < 0 → parseFieldDescriptor (TJ3 k).2.2.1 = some (tyJ3 k) := by decide +kernel
abbrev cJ3_checkIndex_8e157 : ByteArray := prog_22_method_11_code
def yJ3_checkIndex_8e157 : MethodName := ⟨RJ3, "checkIndex", "(IILjava/util/function/BiFunction;)I"⟩
abbrev cJ3_checkFromToIndex_8c36e : ByteArray := prog_22_method_12_code
def yJ3_checkFromToIndex_8c36e : MethodName := ⟨RJ3, "checkFromToIndex", "(IIILjava/util/function/BiFunction;)I"⟩
abbrev cJ3_checkFromIndexSize_8c36e : ByteArray := prog_22_method_13_code
def yJ3_checkFromIndexSize_8c36e : MethodName := ⟨RJ3, "checkFromIndexSize", "(IIILjava/util/function/BiFunction;)I"⟩
def RL : String := "InnerCapturesLaw"
abbrev cL_law : ByteArray := code
def yL_law : MethodName := ⟨RL, "law", "([I)Z"⟩
abbrev vwCl : List vw_C := [(RJ0, TJ0, 4), (RJ4, TJ4, 4), (RX0, TX0, 3), (RX1, TX1, 4), (RX2, TX2, 3), (RX3, TX3, 4), (RX4, TX4, 4), (RX5, TX5, 2), (RX6, TX6, 11), (RX7, TX7, 8), (RX8, TX8, 33)]
end
section
theorem dX0_init_0 : decode cX0_init 0 = .ok (.aload_n 0, 1) := by decide +kernel
theorem dX0_init_1 : decode cX0_init 1 = .ok (.invokespecial 1, 3) := by decide +kernel
theorem dX0_init_4 : decode cX0_init 4 = .ok (.aload_n 0, 1) := by decide +kernel
theorem dX0_init_5 : decode cX0_init 5 = .ok (.getstatic 7, 3) := by decide +kernel
theorem dX0_init_8 : decode cX0_init 8 = .ok (.putfield 13, 3) := by decide +kernel
theorem dX0_init_11 : decode cX0_init 11 = .ok (.aload_n 0, 1) := by decide +kernel
theorem dX0_init_12 : decode cX0_init 12 = .ok (.iconst 0, 1) := by decide +kernel
theorem dX0_init_13 : decode cX0_init 13 = .ok (.putfield 18, 3) := by decide +kernel
theorem dX0_init_16 : decode cX0_init 16 = .ok (.aload_n 0, 1) := by decide +kernel
theorem dX0_init_17 : decode cX0_init 17 = .ok (.iconst 0, 1) := by decide +kernel
theorem dX0_init_18 : decode cX0_init 18 = .ok (.putfield 22, 3) := by decide +kernel
theorem dX0_init_21 : decode cX0_init 21 = .ok (.return_, 1) := by decide +kernel
theorem dX0_pointAt_0 : decode cX0_pointAt 0 = .ok (.aload_n 0, 1) := by decide +kernel
theorem dX0_pointAt_1 : decode cX0_pointAt 1 = .ok (.aload_n 1, 1) := by decide +kernel
theorem dX0_pointAt_2 : decode cX0_pointAt 2 = .ok (.putfield 13, 3) := by decide +kernel
theorem dX0_pointAt_5 : decode cX0_pointAt 5 = .ok (.aload_n 0, 1) := by decide +kernel
theorem dX0_pointAt_6 : decode cX0_pointAt 6 = .ok (.iload_n 2, 1) := by decide +kernel
theorem dX0_pointAt_7 : decode cX0_pointAt 7 = .ok (.putfield 18, 3) := by decide +kernel
theorem dX0_pointAt_10 : decode cX0_pointAt 10 = .ok (.aload_n 0, 1) := by decide +kernel
theorem dX0_pointAt_11 : decode cX0_pointAt 11 = .ok (.iload_n 3, 1) := by decide +kernel
theorem dX0_pointAt_12 : decode cX0_pointAt 12 = .ok (.putfield 22, 3) := by decide +kernel
theorem dX0_pointAt_15 : decode cX0_pointAt 15 = .ok (.return_, 1) := by decide +kernel
theorem dX0_isThere_0 : decode cX0_isThere 0 = .ok (.aload_n 0, 1) := by decide +kernel
theorem dX0_isThere_1 : decode cX0_isThere 1 = .ok (.getfield 13, 3) := by decide +kernel
theorem dX0_isThere_4 : decode cX0_isThere 4 = .ok (.ifnull 26, 3) := by decide +kernel
theorem dX0_isThere_7 : decode cX0_isThere 7 = .ok (.aload_n 0, 1) := by decide +kernel
theorem dX0_isThere_8 : decode cX0_isThere 8 = .ok (.getfield 18, 3) := by decide +kernel
theorem dX0_isThere_11 : decode cX0_isThere 11 = .ok (.ifCond .lt 19, 3) := by decide +kernel
theorem dX0_isThere_14 : decode cX0_isThere 14 = .ok (.aload_n 0, 1) := by decide +kernel
theorem dX0_isThere_15 : decode cX0_isThere 15 = .ok (.getfield 18, 3) := by decide +kernel
theorem dX0_isThere_18 : decode cX0_isThere 18 = .ok (.aload_n 0, 1) := by decide +kernel
theorem dX0_isThere_19 : decode cX0_isThere 19 = .ok (.getfield 13, 3) := by decide +kernel
theorem dX0_isThere_22 : decode cX0_isThere 22 = .ok (.arraylength, 1) := by decide +kernel
theorem dX0_isThere_23 : decode cX0_isThere 23 = .ok (.if_icmp .ge 7, 3) := by decide +kernel
theorem dX0_isThere_26 : decode cX0_isThere 26 = .ok (.iconst 1, 1) := by decide +kernel
theorem dX0_isThere_27 : decode cX0_isThere 27 = .ok (.goto 4, 3) := by decide +kernel
theorem dX0_isThere_30 : decode cX0_isThere 30 = .ok (.iconst 0, 1) := by decide +kernel
theorem dX0_isThere_31 : decode cX0_isThere 31 = .ok (.ireturn, 1) := by decide +kernel
theorem dX0_read_0 : decode cX0_read 0 = .ok (.aload_n 0, 1) := by decide +kernel
theorem dX0_read_1 : decode cX0_read 1 = .ok (.invokevirtual 26, 3) := by decide +kernel
theorem dX0_read_4 : decode cX0_read 4 = .ok (.ifCond .eq 15, 3) := by decide +kernel
theorem dX0_read_7 : decode cX0_read 7 = .ok (.aload_n 0, 1) := by decide +kernel
theorem dX0_read_8 : decode cX0_read 8 = .ok (.getfield 13, 3) := by decide +kernel
theorem dX0_read_11 : decode cX0_read 11 = .ok (.aload_n 0, 1) := by decide +kernel
theorem dX0_read_12 : decode cX0_read 12 = .ok (.getfield 18, 3) := by decide +kernel
theorem dX0_read_15 : decode cX0_read 15 = .ok (.laload, 1) := by decide +kernel
theorem dX0_read_16 : decode cX0_read 16 = .ok (.goto 4, 3) := by decide +kernel
theorem dX0_read_19 : decode cX0_read 19 = .ok (.lconst 0, 1) := by decide +kernel
theorem dX0_read_20 : decode cX0_read 20 = .ok (.lreturn, 1) := by decide +kernel
theorem dX0_write_0 : decode cX0_write 0 = .ok (.aload_n 0, 1) := by decide +kernel
theorem dX0_write_1 : decode cX0_write 1 = .ok (.invokevirtual 26, 3) := by decide +kernel
theorem dX0_write_4 : decode cX0_write 4 = .ok (.ifCond .eq 13, 3) := by decide +kernel
theorem dX0_write_7 : decode cX0_write 7 = .ok (.aload_n 0, 1) := by decide +kernel
theorem dX0_write_8 : decode cX0_write 8 = .ok (.getfield 13, 3) := by decide +kernel
theorem dX0_write_11 : decode cX0_write 11 = .ok (.aload_n 0, 1) := by decide +kernel
theorem dX0_write_12 : decode cX0_write 12 = .ok (.getfield 18, 3) := by decide +kernel
theorem dX0_write_15 : decode cX0_write 15 = .ok (.lload_n 1, 1) := by decide +kernel
theorem dX0_write_16 : decode cX0_write 16 = .ok (.lastore, 1) := by decide +kernel
theorem dX0_write_17 : decode cX0_write 17 = .ok (.return_, 1) := by decide +kernel
theorem dX1_init_0 : decode cX1_init 0 = .ok (.aload_n 0, 1) := by decide +kernel
theorem dX1_init_1 : decode cX1_init 1 = .ok (.invokespecial 3, 3) := by decide +kernel
theorem dX1_init_4 : decode cX1_init 4 = .ok (.aload_n 0, 1) := by decide +kernel
theorem dX1_init_5 : decode cX1_init 5 = .ok (.iconst 4, 1) := by decide +kernel
theorem dX1_init_6 : decode cX1_init 6 = .ok (.newarray .int, 2) := by decide +kernel
theorem dX1_init_8 : decode cX1_init 8 = .ok (.putfield 9, 3) := by decide +kernel
theorem dX1_init_11 : decode cX1_init 11 = .ok (.aload_n 0, 1) := by decide +kernel
theorem dX1_init_12 : decode cX1_init 12 = .ok (.iconst 4, 1) := by decide +kernel
theorem dX1_init_13 : decode cX1_init 13 = .ok (.newarray .long, 2) := by decide +kernel
theorem dX1_init_15 : decode cX1_init 15 = .ok (.putfield 15, 3) := by decide +kernel
theorem dX1_init_18 : decode cX1_init 18 = .ok (.aload_n 0, 1) := by decide +kernel
theorem dX1_init_19 : decode cX1_init 19 = .ok (.iconst 4, 1) := by decide +kernel
theorem dX1_init_20 : decode cX1_init 20 = .ok (.newarray .boolean, 2) := by decide +kernel
theorem dX1_init_22 : decode cX1_init 22 = .ok (.putfield 19, 3) := by decide +kernel
theorem dX1_init_25 : decode cX1_init 25 = .ok (.aload_n 0, 1) := by decide +kernel
theorem dX1_init_26 : decode cX1_init 26 = .ok (.iconst 0, 1) := by decide +kernel
theorem dX1_init_27 : decode cX1_init 27 = .ok (.putfield 23, 3) := by decide +kernel
theorem dX1_init_30 : decode cX1_init 30 = .ok (.return_, 1) := by decide +kernel
theorem dX1_add_0 : decode cX1_add 0 = .ok (.aload_n 0, 1) := by decide +kernel
theorem dX1_add_1 : decode cX1_add 1 = .ok (.getfield 23, 3) := by decide +kernel
theorem dX1_add_4 : decode cX1_add 4 = .ok (.iconst 4, 1) := by decide +kernel
theorem dX1_add_5 : decode cX1_add 5 = .ok (.if_icmp .lt 4, 3) := by decide +kernel
theorem dX1_add_8 : decode cX1_add 8 = .ok (.return_, 1) := by decide +kernel
theorem dX1_add_9 : decode cX1_add 9 = .ok (.aload_n 0, 1) := by decide +kernel
theorem dX1_add_10 : decode cX1_add 10 = .ok (.getfield 9, 3) := by decide +kernel
theorem dX1_add_13 : decode cX1_add 13 = .ok (.aload_n 0, 1) := by decide +kernel
theorem dX1_add_14 : decode cX1_add 14 = .ok (.getfield 23, 3) := by decide +kernel
theorem dX1_add_17 : decode cX1_add 17 = .ok (.iload_n 1, 1) := by decide +kernel
theorem dX1_add_18 : decode cX1_add 18 = .ok (.iastore, 1) := by decide +kernel
theorem dX1_add_19 : decode cX1_add 19 = .ok (.aload_n 0, 1) := by decide +kernel
theorem dX1_add_20 : decode cX1_add 20 = .ok (.getfield 15, 3) := by decide +kernel
theorem dX1_add_23 : decode cX1_add 23 = .ok (.aload_n 0, 1) := by decide +kernel
theorem dX1_add_24 : decode cX1_add 24 = .ok (.getfield 23, 3) := by decide +kernel
theorem dX1_add_27 : decode cX1_add 27 = .ok (.lload_n 2, 1) := by decide +kernel
theorem dX1_add_28 : decode cX1_add 28 = .ok (.lastore, 1) := by decide +kernel
theorem dX1_add_29 : decode cX1_add 29 = .ok (.aload_n 0, 1) := by decide +kernel
theorem dX1_add_30 : decode cX1_add 30 = .ok (.getfield 19, 3) := by decide +kernel
theorem dX1_add_33 : decode cX1_add 33 = .ok (.aload_n 0, 1) := by decide +kernel
theorem dX1_add_34 : decode cX1_add 34 = .ok (.getfield 23, 3) := by decide +kernel
theorem dX1_add_37 : decode cX1_add 37 = .ok (.iload 4, 2) := by decide +kernel
theorem dX1_add_39 : decode cX1_add 39 = .ok (.bastore, 1) := by decide +kernel
theorem dX1_add_40 : decode cX1_add 40 = .ok (.aload_n 0, 1) := by decide +kernel
theorem dX1_add_41 : decode cX1_add 41 = .ok (.dup, 1) := by decide +kernel
theorem dX1_add_42 : decode cX1_add 42 = .ok (.getfield 23, 3) := by decide +kernel
theorem dX1_add_45 : decode cX1_add 45 = .ok (.iconst 1, 1) := by decide +kernel
theorem dX1_add_46 : decode cX1_add 46 = .ok (.iadd, 1) := by decide +kernel
theorem dX1_add_47 : decode cX1_add 47 = .ok (.putfield 23, 3) := by decide +kernel
theorem dX1_add_50 : decode cX1_add 50 = .ok (.return_, 1) := by decide +kernel
theorem dX1_has_0 : decode cX1_has 0 = .ok (.iload_n 1, 1) := by decide +kernel
theorem dX1_has_1 : decode cX1_has 1 = .ok (.ifCond .lt 15, 3) := by decide +kernel
theorem dX1_has_4 : decode cX1_has 4 = .ok (.iload_n 1, 1) := by decide +kernel
theorem dX1_has_5 : decode cX1_has 5 = .ok (.aload_n 0, 1) := by decide +kernel
theorem dX1_has_6 : decode cX1_has 6 = .ok (.getfield 23, 3) := by decide +kernel
theorem dX1_has_9 : decode cX1_has 9 = .ok (.if_icmp .ge 7, 3) := by decide +kernel
theorem dX1_has_12 : decode cX1_has 12 = .ok (.iconst 1, 1) := by decide +kernel
theorem dX1_has_13 : decode cX1_has 13 = .ok (.goto 4, 3) := by decide +kernel
theorem dX1_has_16 : decode cX1_has 16 = .ok (.iconst 0, 1) := by decide +kernel
theorem dX1_has_17 : decode cX1_has 17 = .ok (.ireturn, 1) := by decide +kernel
theorem dX1_isStatic_0 : decode cX1_isStatic 0 = .ok (.aload_n 0, 1) := by decide +kernel
theorem dX1_isStatic_1 : decode cX1_isStatic 1 = .ok (.iload_n 1, 1) := by decide +kernel
theorem dX1_isStatic_2 : decode cX1_isStatic 2 = .ok (.invokevirtual 27, 3) := by decide +kernel
theorem dX1_isStatic_5 : decode cX1_isStatic 5 = .ok (.ifCond .eq 16, 3) := by decide +kernel
theorem dX1_isStatic_8 : decode cX1_isStatic 8 = .ok (.aload_n 0, 1) := by decide +kernel
theorem dX1_isStatic_9 : decode cX1_isStatic 9 = .ok (.getfield 19, 3) := by decide +kernel
theorem dX1_isStatic_12 : decode cX1_isStatic 12 = .ok (.iload_n 1, 1) := by decide +kernel
theorem dX1_isStatic_13 : decode cX1_isStatic 13 = .ok (.baload, 1) := by decide +kernel
theorem dX1_isStatic_14 : decode cX1_isStatic 14 = .ok (.ifCond .eq 7, 3) := by decide +kernel
theorem dX1_isStatic_17 : decode cX1_isStatic 17 = .ok (.iconst 1, 1) := by decide +kernel
theorem dX1_isStatic_18 : decode cX1_isStatic 18 = .ok (.goto 4, 3) := by decide +kernel
theorem dX1_isStatic_21 : decode cX1_isStatic 21 = .ok (.iconst 0, 1) := by decide +kernel
theorem dX1_isStatic_22 : decode cX1_isStatic 22 = .ok (.ireturn, 1) := by decide +kernel
theorem dX1_indexOf_0 : decode cX1_indexOf 0 = .ok (.iconst 0, 1) := by decide +kernel
theorem dX1_indexOf_1 : decode cX1_indexOf 1 = .ok (.istore_n 2, 1) := by decide +kernel
theorem dX1_indexOf_2 : decode cX1_indexOf 2 = .ok (.iload_n 2, 1) := by decide +kernel
theorem dX1_indexOf_3 : decode cX1_indexOf 3 = .ok (.aload_n 0, 1) := by decide +kernel
theorem dX1_indexOf_4 : decode cX1_indexOf 4 = .ok (.getfield 23, 3) := by decide +kernel
theorem dX1_indexOf_7 : decode cX1_indexOf 7 = .ok (.if_icmp .ge 21, 3) := by decide +kernel
theorem dX1_indexOf_10 : decode cX1_indexOf 10 = .ok (.aload_n 0, 1) := by decide +kernel
theorem dX1_indexOf_11 : decode cX1_indexOf 11 = .ok (.getfield 9, 3) := by decide +kernel
theorem dX1_indexOf_14 : decode cX1_indexOf 14 = .ok (.iload_n 2, 1) := by decide +kernel
theorem dX1_indexOf_15 : decode cX1_indexOf 15 = .ok (.iaload, 1) := by decide +kernel
theorem dX1_indexOf_16 : decode cX1_indexOf 16 = .ok (.iload_n 1, 1) := by decide +kernel
theorem dX1_indexOf_17 : decode cX1_indexOf 17 = .ok (.if_icmp .ne 5, 3) := by decide +kernel
theorem dX1_indexOf_20 : decode cX1_indexOf 20 = .ok (.iload_n 2, 1) := by decide +kernel
theorem dX1_indexOf_21 : decode cX1_indexOf 21 = .ok (.ireturn, 1) := by decide +kernel
theorem dX1_indexOf_22 : decode cX1_indexOf 22 = .ok (.iinc 2 1, 3) := by decide +kernel
theorem dX1_indexOf_25 : decode cX1_indexOf 25 = .ok (.goto (-23), 3) := by decide +kernel
theorem dX1_indexOf_28 : decode cX1_indexOf 28 = .ok (.iconst (-1), 1) := by decide +kernel
theorem dX1_indexOf_29 : decode cX1_indexOf 29 = .ok (.ireturn, 1) := by decide +kernel
theorem dX1_firstCells_0 : decode cX1_firstCells 0 = .ok (.aload_n 0, 1) := by decide +kernel
theorem dX1_firstCells_1 : decode cX1_firstCells 1 = .ok (.getfield 23, 3) := by decide +kernel
theorem dX1_firstCells_4 : decode cX1_firstCells 4 = .ok (.ifCond .gt 9, 3) := by decide +kernel
theorem dX1_firstCells_7 : decode cX1_firstCells 7 = .ok (.getstatic 31, 3) := by decide +kernel
theorem dX1_firstCells_10 : decode cX1_firstCells 10 = .ok (.goto 14, 3) := by decide +kernel
theorem dX1_firstCells_13 : decode cX1_firstCells 13 = .ok (.aload_n 0, 1) := by decide +kernel
theorem dX1_firstCells_14 : decode cX1_firstCells 14 = .ok (.getfield 15, 3) := by decide +kernel
theorem dX1_firstCells_17 : decode cX1_firstCells 17 = .ok (.aload_n 0, 1) := by decide +kernel
theorem dX1_firstCells_18 : decode cX1_firstCells 18 = .ok (.getfield 23, 3) := by decide +kernel
theorem dX1_firstCells_21 : decode cX1_firstCells 21 = .ok (.invokestatic 34, 3) := by decide +kernel
theorem dX1_firstCells_24 : decode cX1_firstCells 24 = .ok (.areturn, 1) := by decide +kernel
theorem dX2_init_0 : decode cX2_init 0 = .ok (.aload_n 0, 1) := by decide +kernel
theorem dX2_init_1 : decode cX2_init 1 = .ok (.invokespecial 1, 3) := by decide +kernel
theorem dX2_init_4 : decode cX2_init 4 = .ok (.aload_n 0, 1) := by decide +kernel
theorem dX2_init_5 : decode cX2_init 5 = .ok (.aload_n 1, 1) := by decide +kernel
theorem dX2_init_6 : decode cX2_init 6 = .ok (.putfield 7, 3) := by decide +kernel
theorem dX2_init_9 : decode cX2_init 9 = .ok (.aload_n 0, 1) := by decide +kernel
theorem dX2_init_10 : decode cX2_init 10 = .ok (.aload_n 2, 1) := by decide +kernel
theorem dX2_init_11 : decode cX2_init 11 = .ok (.putfield 13, 3) := by decide +kernel
theorem dX2_init_14 : decode cX2_init 14 = .ok (.aload_n 0, 1) := by decide +kernel
theorem dX2_init_15 : decode cX2_init 15 = .ok (.aload_n 3, 1) := by decide +kernel
theorem dX2_init_16 : decode cX2_init 16 = .ok (.putfield 17, 3) := by decide +kernel
theorem dX2_init_19 : decode cX2_init 19 = .ok (.return_, 1) := by decide +kernel
theorem dX3_init_0 : decode cX3_init 0 = .ok (.aload_n 0, 1) := by decide +kernel
theorem dX3_init_1 : decode cX3_init 1 = .ok (.invokespecial 1, 3) := by decide +kernel
theorem dX3_init_4 : decode cX3_init 4 = .ok (.aload_n 0, 1) := by decide +kernel
theorem dX3_init_5 : decode cX3_init 5 = .ok (.aload_n 1, 1) := by decide +kernel
theorem dX3_init_6 : decode cX3_init 6 = .ok (.putfield 7, 3) := by decide +kernel
theorem dX3_init_9 : decode cX3_init 9 = .ok (.aload_n 0, 1) := by decide +kernel
theorem dX3_init_10 : decode cX3_init 10 = .ok (.aload_n 2, 1) := by decide +kernel
theorem dX3_init_11 : decode cX3_init 11 = .ok (.putfield 13, 3) := by decide +kernel
theorem dX3_init_14 : decode cX3_init 14 = .ok (.aload_n 0, 1) := by decide +kernel
theorem dX3_init_15 : decode cX3_init 15 = .ok (.aload_n 1, 1) := by decide +kernel
theorem dX3_init_16 : decode cX3_init 16 = .ok (.getfield 17, 3) := by decide +kernel
theorem dX3_init_19 : decode cX3_init 19 = .ok (.invokevirtual 23, 3) := by decide +kernel
theorem dX3_init_22 : decode cX3_init 22 = .ok (.putfield 29, 3) := by decide +kernel
theorem dX3_init_25 : decode cX3_init 25 = .ok (.aload_n 0, 1) := by decide +kernel
theorem dX3_init_26 : decode cX3_init 26 = .ok (.aload_n 1, 1) := by decide +kernel
theorem dX3_init_27 : decode cX3_init 27 = .ok (.invokevirtual 33, 3) := by decide +kernel
theorem dX3_init_30 : decode cX3_init 30 = .ok (.putfield 36, 3) := by decide +kernel
theorem dX3_init_33 : decode cX3_init 33 = .ok (.return_, 1) := by decide +kernel
theorem dX4_init_0 : decode cX4_init 0 = .ok (.aload_n 0, 1) := by decide +kernel
theorem dX4_init_1 : decode cX4_init 1 = .ok (.invokespecial 3, 3) := by decide +kernel
theorem dX4_init_4 : decode cX4_init 4 = .ok (.aload_n 0, 1) := by decide +kernel
theorem dX4_init_5 : decode cX4_init 5 = .ok (.iconst 4, 1) := by decide +kernel
theorem dX4_init_6 : decode cX4_init 6 = .ok (.newarray .int, 2) := by decide +kernel
theorem dX4_init_8 : decode cX4_init 8 = .ok (.putfield 9, 3) := by decide +kernel
theorem dX4_init_11 : decode cX4_init 11 = .ok (.aload_n 0, 1) := by decide +kernel
theorem dX4_init_12 : decode cX4_init 12 = .ok (.iconst 4, 1) := by decide +kernel
theorem dX4_init_13 : decode cX4_init 13 = .ok (.newarray .long, 2) := by decide +kernel
theorem dX4_init_15 : decode cX4_init 15 = .ok (.putfield 15, 3) := by decide +kernel
theorem dX4_init_18 : decode cX4_init 18 = .ok (.aload_n 0, 1) := by decide +kernel
theorem dX4_init_19 : decode cX4_init 19 = .ok (.iconst 4, 1) := by decide +kernel
theorem dX4_init_20 : decode cX4_init 20 = .ok (.newarray .boolean, 2) := by decide +kernel
theorem dX4_init_22 : decode cX4_init 22 = .ok (.putfield 19, 3) := by decide +kernel
theorem dX4_init_25 : decode cX4_init 25 = .ok (.aload_n 0, 1) := by decide +kernel
theorem dX4_init_26 : decode cX4_init 26 = .ok (.iconst 0, 1) := by decide +kernel
theorem dX4_init_27 : decode cX4_init 27 = .ok (.putfield 23, 3) := by decide +kernel
theorem dX4_init_30 : decode cX4_init 30 = .ok (.return_, 1) := by decide +kernel
theorem dX4_add_0 : decode cX4_add 0 = .ok (.aload_n 0, 1) := by decide +kernel
theorem dX4_add_1 : decode cX4_add 1 = .ok (.getfield 23, 3) := by decide +kernel
theorem dX4_add_4 : decode cX4_add 4 = .ok (.iconst 4, 1) := by decide +kernel
theorem dX4_add_5 : decode cX4_add 5 = .ok (.if_icmp .lt 4, 3) := by decide +kernel
theorem dX4_add_8 : decode cX4_add 8 = .ok (.return_, 1) := by decide +kernel
theorem dX4_add_9 : decode cX4_add 9 = .ok (.aload_n 0, 1) := by decide +kernel
theorem dX4_add_10 : decode cX4_add 10 = .ok (.getfield 9, 3) := by decide +kernel
theorem dX4_add_13 : decode cX4_add 13 = .ok (.aload_n 0, 1) := by decide +kernel
theorem dX4_add_14 : decode cX4_add 14 = .ok (.getfield 23, 3) := by decide +kernel
theorem dX4_add_17 : decode cX4_add 17 = .ok (.iload_n 1, 1) := by decide +kernel
theorem dX4_add_18 : decode cX4_add 18 = .ok (.iastore, 1) := by decide +kernel
theorem dX4_add_19 : decode cX4_add 19 = .ok (.aload_n 0, 1) := by decide +kernel
theorem dX4_add_20 : decode cX4_add 20 = .ok (.getfield 15, 3) := by decide +kernel
theorem dX4_add_23 : decode cX4_add 23 = .ok (.aload_n 0, 1) := by decide +kernel
theorem dX4_add_24 : decode cX4_add 24 = .ok (.getfield 23, 3) := by decide +kernel
theorem dX4_add_27 : decode cX4_add 27 = .ok (.lload_n 2, 1) := by decide +kernel
theorem dX4_add_28 : decode cX4_add 28 = .ok (.lastore, 1) := by decide +kernel
theorem dX4_add_29 : decode cX4_add 29 = .ok (.aload_n 0, 1) := by decide +kernel
theorem dX4_add_30 : decode cX4_add 30 = .ok (.dup, 1) := by decide +kernel
theorem dX4_add_31 : decode cX4_add 31 = .ok (.getfield 23, 3) := by decide +kernel
theorem dX4_add_34 : decode cX4_add 34 = .ok (.iconst 1, 1) := by decide +kernel
theorem dX4_add_35 : decode cX4_add 35 = .ok (.iadd, 1) := by decide +kernel
theorem dX4_add_36 : decode cX4_add 36 = .ok (.putfield 23, 3) := by decide +kernel
theorem dX4_add_39 : decode cX4_add 39 = .ok (.return_, 1) := by decide +kernel
theorem dX4_has_0 : decode cX4_has 0 = .ok (.iload_n 1, 1) := by decide +kernel
theorem dX4_has_1 : decode cX4_has 1 = .ok (.ifCond .lt 15, 3) := by decide +kernel
theorem dX4_has_4 : decode cX4_has 4 = .ok (.iload_n 1, 1) := by decide +kernel
theorem dX4_has_5 : decode cX4_has 5 = .ok (.aload_n 0, 1) := by decide +kernel
theorem dX4_has_6 : decode cX4_has 6 = .ok (.getfield 23, 3) := by decide +kernel
theorem dX4_has_9 : decode cX4_has 9 = .ok (.if_icmp .ge 7, 3) := by decide +kernel
theorem dX4_has_12 : decode cX4_has 12 = .ok (.iconst 1, 1) := by decide +kernel
theorem dX4_has_13 : decode cX4_has 13 = .ok (.goto 4, 3) := by decide +kernel
theorem dX4_has_16 : decode cX4_has 16 = .ok (.iconst 0, 1) := by decide +kernel
theorem dX4_has_17 : decode cX4_has 17 = .ok (.ireturn, 1) := by decide +kernel
theorem dX4_isAssigned_0 : decode cX4_isAssigned 0 = .ok (.aload_n 0, 1) := by decide +kernel
theorem dX4_isAssigned_1 : decode cX4_isAssigned 1 = .ok (.iload_n 1, 1) := by decide +kernel
theorem dX4_isAssigned_2 : decode cX4_isAssigned 2 = .ok (.invokevirtual 27, 3) := by decide +kernel
theorem dX4_isAssigned_5 : decode cX4_isAssigned 5 = .ok (.ifCond .eq 16, 3) := by decide +kernel
theorem dX4_isAssigned_8 : decode cX4_isAssigned 8 = .ok (.aload_n 0, 1) := by decide +kernel
theorem dX4_isAssigned_9 : decode cX4_isAssigned 9 = .ok (.getfield 19, 3) := by decide +kernel
theorem dX4_isAssigned_12 : decode cX4_isAssigned 12 = .ok (.iload_n 1, 1) := by decide +kernel
theorem dX4_isAssigned_13 : decode cX4_isAssigned 13 = .ok (.baload, 1) := by decide +kernel
theorem dX4_isAssigned_14 : decode cX4_isAssigned 14 = .ok (.ifCond .eq 7, 3) := by decide +kernel
theorem dX4_isAssigned_17 : decode cX4_isAssigned 17 = .ok (.iconst 1, 1) := by decide +kernel
theorem dX4_isAssigned_18 : decode cX4_isAssigned 18 = .ok (.goto 4, 3) := by decide +kernel
theorem dX4_isAssigned_21 : decode cX4_isAssigned 21 = .ok (.iconst 0, 1) := by decide +kernel
theorem dX4_isAssigned_22 : decode cX4_isAssigned 22 = .ok (.ireturn, 1) := by decide +kernel
theorem dX4_set_0 : decode cX4_set 0 = .ok (.aload_n 0, 1) := by decide +kernel
theorem dX4_set_1 : decode cX4_set 1 = .ok (.iload_n 1, 1) := by decide +kernel
theorem dX4_set_2 : decode cX4_set 2 = .ok (.invokevirtual 27, 3) := by decide +kernel
theorem dX4_set_5 : decode cX4_set 5 = .ok (.ifCond .eq 17, 3) := by decide +kernel
theorem dX4_set_8 : decode cX4_set 8 = .ok (.aload_n 0, 1) := by decide +kernel
theorem dX4_set_9 : decode cX4_set 9 = .ok (.getfield 15, 3) := by decide +kernel
theorem dX4_set_12 : decode cX4_set 12 = .ok (.iload_n 1, 1) := by decide +kernel
theorem dX4_set_13 : decode cX4_set 13 = .ok (.lload_n 2, 1) := by decide +kernel
theorem dX4_set_14 : decode cX4_set 14 = .ok (.lastore, 1) := by decide +kernel
theorem dX4_set_15 : decode cX4_set 15 = .ok (.aload_n 0, 1) := by decide +kernel
theorem dX4_set_16 : decode cX4_set 16 = .ok (.getfield 19, 3) := by decide +kernel
theorem dX4_set_19 : decode cX4_set 19 = .ok (.iload_n 1, 1) := by decide +kernel
theorem dX4_set_20 : decode cX4_set 20 = .ok (.iconst 1, 1) := by decide +kernel
theorem dX4_set_21 : decode cX4_set 21 = .ok (.bastore, 1) := by decide +kernel
theorem dX4_set_22 : decode cX4_set 22 = .ok (.return_, 1) := by decide +kernel
theorem dX4_latest_0 : decode cX4_latest 0 = .ok (.iload_n 2, 1) := by decide +kernel
theorem dX4_latest_1 : decode cX4_latest 1 = .ok (.aload_n 0, 1) := by decide +kernel
theorem dX4_latest_2 : decode cX4_latest 2 = .ok (.getfield 23, 3) := by decide +kernel
theorem dX4_latest_5 : decode cX4_latest 5 = .ok (.invokestatic 31, 3) := by decide +kernel
theorem dX4_latest_8 : decode cX4_latest 8 = .ok (.iconst 1, 1) := by decide +kernel
theorem dX4_latest_9 : decode cX4_latest 9 = .ok (.isub, 1) := by decide +kernel
theorem dX4_latest_10 : decode cX4_latest 10 = .ok (.istore_n 3, 1) := by decide +kernel
theorem dX4_latest_11 : decode cX4_latest 11 = .ok (.iload_n 3, 1) := by decide +kernel
theorem dX4_latest_12 : decode cX4_latest 12 = .ok (.ifCond .lt 21, 3) := by decide +kernel
theorem dX4_latest_15 : decode cX4_latest 15 = .ok (.aload_n 0, 1) := by decide +kernel
theorem dX4_latest_16 : decode cX4_latest 16 = .ok (.getfield 9, 3) := by decide +kernel
theorem dX4_latest_19 : decode cX4_latest 19 = .ok (.iload_n 3, 1) := by decide +kernel
theorem dX4_latest_20 : decode cX4_latest 20 = .ok (.iaload, 1) := by decide +kernel
theorem dX4_latest_21 : decode cX4_latest 21 = .ok (.iload_n 1, 1) := by decide +kernel
theorem dX4_latest_22 : decode cX4_latest 22 = .ok (.if_icmp .ne 5, 3) := by decide +kernel
theorem dX4_latest_25 : decode cX4_latest 25 = .ok (.iload_n 3, 1) := by decide +kernel
theorem dX4_latest_26 : decode cX4_latest 26 = .ok (.ireturn, 1) := by decide +kernel
theorem dX4_latest_27 : decode cX4_latest 27 = .ok (.iinc 3 (-1), 3) := by decide +kernel
theorem dX4_latest_30 : decode cX4_latest 30 = .ok (.goto (-19), 3) := by decide +kernel
theorem dX4_latest_33 : decode cX4_latest 33 = .ok (.iconst (-1), 1) := by decide +kernel
theorem dX4_latest_34 : decode cX4_latest 34 = .ok (.ireturn, 1) := by decide +kernel
theorem dX4_copyOfFirst_0 : decode cX4_copyOfFirst 0 = .ok (.iload_n 1, 1) := by decide +kernel
theorem dX4_copyOfFirst_1 : decode cX4_copyOfFirst 1 = .ok (.aload_n 0, 1) := by decide +kernel
theorem dX4_copyOfFirst_2 : decode cX4_copyOfFirst 2 = .ok (.getfield 23, 3) := by decide +kernel
theorem dX4_copyOfFirst_5 : decode cX4_copyOfFirst 5 = .ok (.invokestatic 31, 3) := by decide +kernel
theorem dX4_copyOfFirst_8 : decode cX4_copyOfFirst 8 = .ok (.istore_n 2, 1) := by decide +kernel
theorem dX4_copyOfFirst_9 : decode cX4_copyOfFirst 9 = .ok (.iload_n 2, 1) := by decide +kernel
theorem dX4_copyOfFirst_10 : decode cX4_copyOfFirst 10 = .ok (.ifCond .gt 9, 3) := by decide +kernel
theorem dX4_copyOfFirst_13 : decode cX4_copyOfFirst 13 = .ok (.getstatic 37, 3) := by decide +kernel
theorem dX4_copyOfFirst_16 : decode cX4_copyOfFirst 16 = .ok (.goto 11, 3) := by decide +kernel
theorem dX4_copyOfFirst_19 : decode cX4_copyOfFirst 19 = .ok (.aload_n 0, 1) := by decide +kernel
theorem dX4_copyOfFirst_20 : decode cX4_copyOfFirst 20 = .ok (.getfield 15, 3) := by decide +kernel
theorem dX4_copyOfFirst_23 : decode cX4_copyOfFirst 23 = .ok (.iload_n 2, 1) := by decide +kernel
theorem dX4_copyOfFirst_24 : decode cX4_copyOfFirst 24 = .ok (.invokestatic 40, 3) := by decide +kernel
theorem dX4_copyOfFirst_27 : decode cX4_copyOfFirst 27 = .ok (.areturn, 1) := by decide +kernel
theorem dX5_init_0 : decode cX5_init 0 = .ok (.aload_n 0, 1) := by decide +kernel
theorem dX5_init_1 : decode cX5_init 1 = .ok (.invokespecial 1, 3) := by decide +kernel
theorem dX5_init_4 : decode cX5_init 4 = .ok (.aload_n 0, 1) := by decide +kernel
theorem dX5_init_5 : decode cX5_init 5 = .ok (.aload_n 1, 1) := by decide +kernel
theorem dX5_init_6 : decode cX5_init 6 = .ok (.putfield 7, 3) := by decide +kernel
theorem dX5_init_9 : decode cX5_init 9 = .ok (.aload_n 0, 1) := by decide +kernel
theorem dX5_init_10 : decode cX5_init 10 = .ok (.aload_n 2, 1) := by decide +kernel
theorem dX5_init_11 : decode cX5_init 11 = .ok (.putfield 13, 3) := by decide +kernel
theorem dX5_init_14 : decode cX5_init 14 = .ok (.return_, 1) := by decide +kernel
theorem dX5_levelOf_0 : decode cX5_levelOf 0 = .ok (.iconst 0, 1) := by decide +kernel
theorem dX5_levelOf_1 : decode cX5_levelOf 1 = .ok (.istore_n 2, 1) := by decide +kernel
theorem dX5_levelOf_2 : decode cX5_levelOf 2 = .ok (.iload_n 2, 1) := by decide +kernel
theorem dX5_levelOf_3 : decode cX5_levelOf 3 = .ok (.aload_n 0, 1) := by decide +kernel
theorem dX5_levelOf_4 : decode cX5_levelOf 4 = .ok (.getfield 13, 3) := by decide +kernel
theorem dX5_levelOf_7 : decode cX5_levelOf 7 = .ok (.arraylength, 1) := by decide +kernel
theorem dX5_levelOf_8 : decode cX5_levelOf 8 = .ok (.if_icmp .ge 38, 3) := by decide +kernel
theorem dX5_levelOf_11 : decode cX5_levelOf 11 = .ok (.aload_n 0, 1) := by decide +kernel
theorem dX5_levelOf_12 : decode cX5_levelOf 12 = .ok (.getfield 13, 3) := by decide +kernel
theorem dX5_levelOf_15 : decode cX5_levelOf 15 = .ok (.iload_n 2, 1) := by decide +kernel
theorem dX5_levelOf_16 : decode cX5_levelOf 16 = .ok (.aaload, 1) := by decide +kernel
theorem dX5_levelOf_17 : decode cX5_levelOf 17 = .ok (.ifnull 23, 3) := by decide +kernel
theorem dX5_levelOf_20 : decode cX5_levelOf 20 = .ok (.aload_n 0, 1) := by decide +kernel
theorem dX5_levelOf_21 : decode cX5_levelOf 21 = .ok (.getfield 13, 3) := by decide +kernel
theorem dX5_levelOf_24 : decode cX5_levelOf 24 = .ok (.iload_n 2, 1) := by decide +kernel
theorem dX5_levelOf_25 : decode cX5_levelOf 25 = .ok (.aaload, 1) := by decide +kernel
theorem dX5_levelOf_26 : decode cX5_levelOf 26 = .ok (.getfield 17, 3) := by decide +kernel
theorem dX5_levelOf_29 : decode cX5_levelOf 29 = .ok (.aload_n 1, 1) := by decide +kernel
theorem dX5_levelOf_30 : decode cX5_levelOf 30 = .ok (.if_acmp .ne 10, 3) := by decide +kernel
theorem dX5_levelOf_33 : decode cX5_levelOf 33 = .ok (.aload_n 0, 1) := by decide +kernel
theorem dX5_levelOf_34 : decode cX5_levelOf 34 = .ok (.getfield 13, 3) := by decide +kernel
theorem dX5_levelOf_37 : decode cX5_levelOf 37 = .ok (.iload_n 2, 1) := by decide +kernel
theorem dX5_levelOf_38 : decode cX5_levelOf 38 = .ok (.aaload, 1) := by decide +kernel
theorem dX5_levelOf_39 : decode cX5_levelOf 39 = .ok (.areturn, 1) := by decide +kernel
theorem dX5_levelOf_40 : decode cX5_levelOf 40 = .ok (.iinc 2 1, 3) := by decide +kernel
theorem dX5_levelOf_43 : decode cX5_levelOf 43 = .ok (.goto (-41), 3) := by decide +kernel
theorem dX5_levelOf_46 : decode cX5_levelOf 46 = .ok (.aconst_null, 1) := by decide +kernel
theorem dX5_levelOf_47 : decode cX5_levelOf 47 = .ok (.areturn, 1) := by decide +kernel
theorem dX5_aroundAt_0 : decode cX5_aroundAt 0 = .ok (.aload_n 0, 1) := by decide +kernel
theorem dX5_aroundAt_1 : decode cX5_aroundAt 1 = .ok (.aload_n 1, 1) := by decide +kernel
theorem dX5_aroundAt_2 : decode cX5_aroundAt 2 = .ok (.invokevirtual 22, 3) := by decide +kernel
theorem dX5_aroundAt_5 : decode cX5_aroundAt 5 = .ok (.astore_n 2, 1) := by decide +kernel
theorem dX5_aroundAt_6 : decode cX5_aroundAt 6 = .ok (.aload_n 2, 1) := by decide +kernel
theorem dX5_aroundAt_7 : decode cX5_aroundAt 7 = .ok (.ifnonnull 7, 3) := by decide +kernel
theorem dX5_aroundAt_10 : decode cX5_aroundAt 10 = .ok (.aconst_null, 1) := by decide +kernel
theorem dX5_aroundAt_11 : decode cX5_aroundAt 11 = .ok (.goto 7, 3) := by decide +kernel
theorem dX5_aroundAt_14 : decode cX5_aroundAt 14 = .ok (.aload_n 2, 1) := by decide +kernel
theorem dX5_aroundAt_15 : decode cX5_aroundAt 15 = .ok (.getfield 26, 3) := by decide +kernel
theorem dX5_aroundAt_18 : decode cX5_aroundAt 18 = .ok (.areturn, 1) := by decide +kernel
theorem dX6_init_0 : decode cX6_init 0 = .ok (.aload_n 0, 1) := by decide +kernel
theorem dX6_init_1 : decode cX6_init 1 = .ok (.invokespecial 3, 3) := by decide +kernel
theorem dX6_init_4 : decode cX6_init 4 = .ok (.aload_n 0, 1) := by decide +kernel
theorem dX6_init_5 : decode cX6_init 5 = .ok (.new 9, 3) := by decide +kernel
theorem dX6_init_8 : decode cX6_init 8 = .ok (.dup, 1) := by decide +kernel
theorem dX6_init_9 : decode cX6_init 9 = .ok (.invokespecial 11, 3) := by decide +kernel
theorem dX6_init_12 : decode cX6_init 12 = .ok (.putfield 12, 3) := by decide +kernel
theorem dX6_init_15 : decode cX6_init 15 = .ok (.aload_n 0, 1) := by decide +kernel
theorem dX6_init_16 : decode cX6_init 16 = .ok (.new 18, 3) := by decide +kernel
theorem dX6_init_19 : decode cX6_init 19 = .ok (.dup, 1) := by decide +kernel
theorem dX6_init_20 : decode cX6_init 20 = .ok (.invokespecial 20, 3) := by decide +kernel
theorem dX6_init_23 : decode cX6_init 23 = .ok (.putfield 21, 3) := by decide +kernel
theorem dX6_init_26 : decode cX6_init 26 = .ok (.aload_n 0, 1) := by decide +kernel
theorem dX6_init_27 : decode cX6_init 27 = .ok (.iconst 0, 1) := by decide +kernel
theorem dX6_init_28 : decode cX6_init 28 = .ok (.putfield 25, 3) := by decide +kernel
theorem dX6_init_31 : decode cX6_init 31 = .ok (.aload_n 0, 1) := by decide +kernel
theorem dX6_init_32 : decode cX6_init 32 = .ok (.aconst_null, 1) := by decide +kernel
theorem dX6_init_33 : decode cX6_init 33 = .ok (.putfield 29, 3) := by decide +kernel
theorem dX6_init_36 : decode cX6_init 36 = .ok (.aload_n 0, 1) := by decide +kernel
theorem dX6_init_37 : decode cX6_init 37 = .ok (.iload_n 1, 1) := by decide +kernel
theorem dX6_init_38 : decode cX6_init 38 = .ok (.putfield 33, 3) := by decide +kernel
theorem dX6_init_41 : decode cX6_init 41 = .ok (.aload_n 0, 1) := by decide +kernel
theorem dX6_init_42 : decode cX6_init 42 = .ok (.iload_n 2, 1) := by decide +kernel
theorem dX6_init_43 : decode cX6_init 43 = .ok (.putfield 37, 3) := by decide +kernel
theorem dX6_init_46 : decode cX6_init 46 = .ok (.aload_n 0, 1) := by decide +kernel
theorem dX6_init_47 : decode cX6_init 47 = .ok (.aload_n 3, 1) := by decide +kernel
theorem dX6_init_48 : decode cX6_init 48 = .ok (.putfield 40, 3) := by decide +kernel
theorem dX6_init_51 : decode cX6_init 51 = .ok (.aload_n 0, 1) := by decide +kernel
theorem dX6_init_52 : decode cX6_init 52 = .ok (.iload 4, 2) := by decide +kernel
theorem dX6_init_54 : decode cX6_init 54 = .ok (.putfield 43, 3) := by decide +kernel
theorem dX6_init_57 : decode cX6_init 57 = .ok (.aload_n 3, 1) := by decide +kernel
theorem dX6_init_58 : decode cX6_init 58 = .ok (.ifnull 14, 3) := by decide +kernel
theorem dX6_init_61 : decode cX6_init 61 = .ok (.iload_n 2, 1) := by decide +kernel
theorem dX6_init_62 : decode cX6_init 62 = .ok (.invokestatic 46, 3) := by decide +kernel
theorem dX6_init_65 : decode cX6_init 65 = .ok (.ifCond .eq 7, 3) := by decide +kernel
theorem dX6_init_68 : decode cX6_init 68 = .ok (.iconst 1, 1) := by decide +kernel
theorem dX6_init_69 : decode cX6_init 69 = .ok (.goto 4, 3) := by decide +kernel
theorem dX6_init_72 : decode cX6_init 72 = .ok (.iconst 0, 1) := by decide +kernel
theorem dX6_init_73 : decode cX6_init 73 = .ok (.istore 6, 2) := by decide +kernel
theorem dX6_init_75 : decode cX6_init 75 = .ok (.aload_n 0, 1) := by decide +kernel
theorem dX6_init_76 : decode cX6_init 76 = .ok (.iload 6, 2) := by decide +kernel
theorem dX6_init_78 : decode cX6_init 78 = .ok (.ifCond .eq 13, 3) := by decide +kernel
theorem dX6_init_81 : decode cX6_init 81 = .ok (.aload_n 3, 1) := by decide +kernel
theorem dX6_init_82 : decode cX6_init 82 = .ok (.getfield 21, 3) := by decide +kernel
theorem dX6_init_85 : decode cX6_init 85 = .ok (.getfield 50, 3) := by decide +kernel
theorem dX6_init_88 : decode cX6_init 88 = .ok (.goto 4, 3) := by decide +kernel
theorem dX6_init_91 : decode cX6_init 91 = .ok (.iconst 0, 1) := by decide +kernel
theorem dX6_init_92 : decode cX6_init 92 = .ok (.putfield 53, 3) := by decide +kernel
theorem dX6_init_95 : decode cX6_init 95 = .ok (.aload_n 0, 1) := by decide +kernel
theorem dX6_init_96 : decode cX6_init 96 = .ok (.iload_n 2, 1) := by decide +kernel
theorem dX6_init_97 : decode cX6_init 97 = .ok (.iconst 2, 1) := by decide +kernel
theorem dX6_init_98 : decode cX6_init 98 = .ok (.if_icmp .eq 20, 3) := by decide +kernel
theorem dX6_init_101 : decode cX6_init 101 = .ok (.iload 6, 2) := by decide +kernel
theorem dX6_init_103 : decode cX6_init 103 = .ok (.ifCond .eq 19, 3) := by decide +kernel
theorem dX6_init_106 : decode cX6_init 106 = .ok (.iload_n 2, 1) := by decide +kernel
theorem dX6_init_107 : decode cX6_init 107 = .ok (.iconst 4, 1) := by decide +kernel
theorem dX6_init_108 : decode cX6_init 108 = .ok (.if_icmp .eq 14, 3) := by decide +kernel
theorem dX6_init_111 : decode cX6_init 111 = .ok (.aload_n 3, 1) := by decide +kernel
theorem dX6_init_112 : decode cX6_init 112 = .ok (.getfield 25, 3) := by decide +kernel
theorem dX6_init_115 : decode cX6_init 115 = .ok (.ifCond .ne 7, 3) := by decide +kernel
theorem dX6_init_118 : decode cX6_init 118 = .ok (.iconst 1, 1) := by decide +kernel
theorem dX6_init_119 : decode cX6_init 119 = .ok (.goto 4, 3) := by decide +kernel
theorem dX6_init_122 : decode cX6_init 122 = .ok (.iconst 0, 1) := by decide +kernel
theorem dX6_init_123 : decode cX6_init 123 = .ok (.putfield 56, 3) := by decide +kernel
theorem dX6_init_126 : decode cX6_init 126 = .ok (.aload_n 0, 1) := by decide +kernel
theorem dX6_init_127 : decode cX6_init 127 = .ok (.aload_n 3, 1) := by decide +kernel
theorem dX6_init_128 : decode cX6_init 128 = .ok (.iload 4, 2) := by decide +kernel
theorem dX6_init_130 : decode cX6_init 130 = .ok (.iload 5, 2) := by decide +kernel
theorem dX6_init_132 : decode cX6_init 132 = .ok (.invokestatic 59, 3) := by decide +kernel
theorem dX6_init_135 : decode cX6_init 135 = .ok (.putfield 63, 3) := by decide +kernel
theorem dX6_init_138 : decode cX6_init 138 = .ok (.return_, 1) := by decide +kernel
theorem dX6_classNameOf_0 : decode cX6_classNameOf 0 = .ok (.new 67, 3) := by decide +kernel
theorem dX6_classNameOf_3 : decode cX6_classNameOf 3 = .ok (.dup, 1) := by decide +kernel
theorem dX6_classNameOf_4 : decode cX6_classNameOf 4 = .ok (.invokespecial 69, 3) := by decide +kernel
theorem dX6_classNameOf_7 : decode cX6_classNameOf 7 = .ok (.astore_n 3, 1) := by decide +kernel
theorem dX6_classNameOf_8 : decode cX6_classNameOf 8 = .ok (.aload_n 0, 1) := by decide +kernel
theorem dX6_classNameOf_9 : decode cX6_classNameOf 9 = .ok (.ifnull 19, 3) := by decide +kernel
theorem dX6_classNameOf_12 : decode cX6_classNameOf 12 = .ok (.aload_n 3, 1) := by decide +kernel
theorem dX6_classNameOf_13 : decode cX6_classNameOf 13 = .ok (.aload_n 0, 1) := by decide +kernel
theorem dX6_classNameOf_14 : decode cX6_classNameOf 14 = .ok (.getfield 63, 3) := by decide +kernel
theorem dX6_classNameOf_17 : decode cX6_classNameOf 17 = .ok (.invokevirtual 70, 3) := by decide +kernel
theorem dX6_classNameOf_20 : decode cX6_classNameOf 20 = .ok (.pop, 1) := by decide +kernel
theorem dX6_classNameOf_21 : decode cX6_classNameOf 21 = .ok (.aload_n 3, 1) := by decide +kernel
theorem dX6_classNameOf_22 : decode cX6_classNameOf 22 = .ok (.bipush 36, 2) := by decide +kernel
theorem dX6_classNameOf_24 : decode cX6_classNameOf 24 = .ok (.invokevirtual 74, 3) := by decide +kernel
theorem dX6_classNameOf_27 : decode cX6_classNameOf 27 = .ok (.pop, 1) := by decide +kernel
theorem dX6_classNameOf_28 : decode cX6_classNameOf 28 = .ok (.iload_n 2, 1) := by decide +kernel
theorem dX6_classNameOf_29 : decode cX6_classNameOf 29 = .ok (.ifCond .le 9, 3) := by decide +kernel
theorem dX6_classNameOf_32 : decode cX6_classNameOf 32 = .ok (.aload_n 3, 1) := by decide +kernel
theorem dX6_classNameOf_33 : decode cX6_classNameOf 33 = .ok (.iload_n 2, 1) := by decide +kernel
theorem dX6_classNameOf_34 : decode cX6_classNameOf 34 = .ok (.invokevirtual 77, 3) := by decide +kernel
theorem dX6_classNameOf_37 : decode cX6_classNameOf 37 = .ok (.pop, 1) := by decide +kernel
theorem dX6_classNameOf_38 : decode cX6_classNameOf 38 = .ok (.iload_n 1, 1) := by decide +kernel
theorem dX6_classNameOf_39 : decode cX6_classNameOf 39 = .ok (.iconst (-1), 1) := by decide +kernel
theorem dX6_classNameOf_40 : decode cX6_classNameOf 40 = .ok (.if_icmp .eq 13, 3) := by decide +kernel
theorem dX6_classNameOf_43 : decode cX6_classNameOf 43 = .ok (.aload_n 3, 1) := by decide +kernel
theorem dX6_classNameOf_44 : decode cX6_classNameOf 44 = .ok (.bipush 65, 2) := by decide +kernel
theorem dX6_classNameOf_46 : decode cX6_classNameOf 46 = .ok (.iload_n 1, 1) := by decide +kernel
theorem dX6_classNameOf_47 : decode cX6_classNameOf 47 = .ok (.iadd, 1) := by decide +kernel
theorem dX6_classNameOf_48 : decode cX6_classNameOf 48 = .ok (.i2c, 1) := by decide +kernel
theorem dX6_classNameOf_49 : decode cX6_classNameOf 49 = .ok (.invokevirtual 74, 3) := by decide +kernel
theorem dX6_classNameOf_52 : decode cX6_classNameOf 52 = .ok (.pop, 1) := by decide +kernel
theorem dX6_classNameOf_53 : decode cX6_classNameOf 53 = .ok (.aload_n 3, 1) := by decide +kernel
theorem dX6_classNameOf_54 : decode cX6_classNameOf 54 = .ok (.invokevirtual 80, 3) := by decide +kernel
theorem dX6_classNameOf_57 : decode cX6_classNameOf 57 = .ok (.areturn, 1) := by decide +kernel
theorem dX6_latestLocalAhead_0 : decode cX6_latestLocalAhead 0 = .ok (.aload_n 0, 1) := by decide +kernel
theorem dX6_latestLocalAhead_1 : decode cX6_latestLocalAhead 1 = .ok (.getfield 40, 3) := by decide +kernel
theorem dX6_latestLocalAhead_4 : decode cX6_latestLocalAhead 4 = .ok (.ifnonnull 7, 3) := by decide +kernel
theorem dX6_latestLocalAhead_7 : decode cX6_latestLocalAhead 7 = .ok (.iconst (-1), 1) := by decide +kernel
theorem dX6_latestLocalAhead_8 : decode cX6_latestLocalAhead 8 = .ok (.goto 18, 3) := by decide +kernel
theorem dX6_latestLocalAhead_11 : decode cX6_latestLocalAhead 11 = .ok (.aload_n 0, 1) := by decide +kernel
theorem dX6_latestLocalAhead_12 : decode cX6_latestLocalAhead 12 = .ok (.getfield 40, 3) := by decide +kernel
theorem dX6_latestLocalAhead_15 : decode cX6_latestLocalAhead 15 = .ok (.getfield 21, 3) := by decide +kernel
theorem dX6_latestLocalAhead_18 : decode cX6_latestLocalAhead 18 = .ok (.iload_n 1, 1) := by decide +kernel
theorem dX6_latestLocalAhead_19 : decode cX6_latestLocalAhead 19 = .ok (.aload_n 0, 1) := by decide +kernel
theorem dX6_latestLocalAhead_20 : decode cX6_latestLocalAhead 20 = .ok (.getfield 53, 3) := by decide +kernel
theorem dX6_latestLocalAhead_23 : decode cX6_latestLocalAhead 23 = .ok (.invokevirtual 84, 3) := by decide +kernel
theorem dX6_latestLocalAhead_26 : decode cX6_latestLocalAhead 26 = .ok (.ireturn, 1) := by decide +kernel
theorem dX6_copyLocalsAhead_0 : decode cX6_copyLocalsAhead 0 = .ok (.aload_n 0, 1) := by decide +kernel
theorem dX6_copyLocalsAhead_1 : decode cX6_copyLocalsAhead 1 = .ok (.getfield 40, 3) := by decide +kernel
theorem dX6_copyLocalsAhead_4 : decode cX6_copyLocalsAhead 4 = .ok (.ifnull 11, 3) := by decide +kernel
theorem dX6_copyLocalsAhead_7 : decode cX6_copyLocalsAhead 7 = .ok (.aload_n 0, 1) := by decide +kernel
theorem dX6_copyLocalsAhead_8 : decode cX6_copyLocalsAhead 8 = .ok (.getfield 37, 3) := by decide +kernel
theorem dX6_copyLocalsAhead_11 : decode cX6_copyLocalsAhead 11 = .ok (.iconst 4, 1) := by decide +kernel
theorem dX6_copyLocalsAhead_12 : decode cX6_copyLocalsAhead 12 = .ok (.if_icmp .ne 7, 3) := by decide +kernel
theorem dX6_copyLocalsAhead_15 : decode cX6_copyLocalsAhead 15 = .ok (.getstatic 88, 3) := by decide +kernel
theorem dX6_copyLocalsAhead_18 : decode cX6_copyLocalsAhead 18 = .ok (.areturn, 1) := by decide +kernel
theorem dX6_copyLocalsAhead_19 : decode cX6_copyLocalsAhead 19 = .ok (.aload_n 0, 1) := by decide +kernel
theorem dX6_copyLocalsAhead_20 : decode cX6_copyLocalsAhead 20 = .ok (.getfield 40, 3) := by decide +kernel
theorem dX6_copyLocalsAhead_23 : decode cX6_copyLocalsAhead 23 = .ok (.getfield 21, 3) := by decide +kernel
theorem dX6_copyLocalsAhead_26 : decode cX6_copyLocalsAhead 26 = .ok (.aload_n 0, 1) := by decide +kernel
theorem dX6_copyLocalsAhead_27 : decode cX6_copyLocalsAhead 27 = .ok (.getfield 53, 3) := by decide +kernel
theorem dX6_copyLocalsAhead_30 : decode cX6_copyLocalsAhead 30 = .ok (.invokevirtual 92, 3) := by decide +kernel
theorem dX6_copyLocalsAhead_33 : decode cX6_copyLocalsAhead 33 = .ok (.areturn, 1) := by decide +kernel
theorem dX7_init_0 : decode cX7_init 0 = .ok (.aload_n 0, 1) := by decide +kernel
theorem dX7_init_1 : decode cX7_init 1 = .ok (.invokespecial 1, 3) := by decide +kernel
theorem dX7_init_4 : decode cX7_init 4 = .ok (.aload_n 0, 1) := by decide +kernel
theorem dX7_init_5 : decode cX7_init 5 = .ok (.bipush 12, 2) := by decide +kernel
theorem dX7_init_7 : decode cX7_init 7 = .ok (.anewarray 9, 3) := by decide +kernel
theorem dX7_init_10 : decode cX7_init 10 = .ok (.putfield 11, 3) := by decide +kernel
theorem dX7_init_13 : decode cX7_init 13 = .ok (.aload_n 0, 1) := by decide +kernel
theorem dX7_init_14 : decode cX7_init 14 = .ok (.iconst 0, 1) := by decide +kernel
theorem dX7_init_15 : decode cX7_init 15 = .ok (.putfield 15, 3) := by decide +kernel
theorem dX7_init_18 : decode cX7_init 18 = .ok (.aload_n 0, 1) := by decide +kernel
theorem dX7_init_19 : decode cX7_init 19 = .ok (.bipush 8, 2) := by decide +kernel
theorem dX7_init_21 : decode cX7_init 21 = .ok (.anewarray 19, 3) := by decide +kernel
theorem dX7_init_24 : decode cX7_init 24 = .ok (.putfield 21, 3) := by decide +kernel
theorem dX7_init_27 : decode cX7_init 27 = .ok (.aload_n 0, 1) := by decide +kernel
theorem dX7_init_28 : decode cX7_init 28 = .ok (.iconst 0, 1) := by decide +kernel
theorem dX7_init_29 : decode cX7_init 29 = .ok (.putfield 25, 3) := by decide +kernel
theorem dX7_init_32 : decode cX7_init 32 = .ok (.aload_n 0, 1) := by decide +kernel
theorem dX7_init_33 : decode cX7_init 33 = .ok (.bipush 6, 2) := by decide +kernel
theorem dX7_init_35 : decode cX7_init 35 = .ok (.anewarray 28, 3) := by decide +kernel
theorem dX7_init_38 : decode cX7_init 38 = .ok (.putfield 30, 3) := by decide +kernel
theorem dX7_init_41 : decode cX7_init 41 = .ok (.aload_n 0, 1) := by decide +kernel
theorem dX7_init_42 : decode cX7_init 42 = .ok (.iconst 0, 1) := by decide +kernel
theorem dX7_init_43 : decode cX7_init 43 = .ok (.putfield 34, 3) := by decide +kernel
theorem dX7_init_46 : decode cX7_init 46 = .ok (.aload_n 0, 1) := by decide +kernel
theorem dX7_init_47 : decode cX7_init 47 = .ok (.new 37, 3) := by decide +kernel
theorem dX7_init_50 : decode cX7_init 50 = .ok (.dup, 1) := by decide +kernel
theorem dX7_init_51 : decode cX7_init 51 = .ok (.invokespecial 39, 3) := by decide +kernel
theorem dX7_init_54 : decode cX7_init 54 = .ok (.putfield 40, 3) := by decide +kernel
theorem dX7_init_57 : decode cX7_init 57 = .ok (.aload_n 0, 1) := by decide +kernel
theorem dX7_init_58 : decode cX7_init 58 = .ok (.iconst 0, 1) := by decide +kernel
theorem dX7_init_59 : decode cX7_init 59 = .ok (.putfield 44, 3) := by decide +kernel
theorem dX7_init_62 : decode cX7_init 62 = .ok (.return_, 1) := by decide +kernel
theorem dX7_type_0 : decode cX7_type 0 = .ok (.iload_n 1, 1) := by decide +kernel
theorem dX7_type_1 : decode cX7_type 1 = .ok (.ifCond .lt 8, 3) := by decide +kernel
theorem dX7_type_4 : decode cX7_type 4 = .ok (.iload_n 1, 1) := by decide +kernel
theorem dX7_type_5 : decode cX7_type 5 = .ok (.iconst 5, 1) := by decide +kernel
theorem dX7_type_6 : decode cX7_type 6 = .ok (.if_icmp .le 5, 3) := by decide +kernel
theorem dX7_type_9 : decode cX7_type 9 = .ok (.iconst (-1), 1) := by decide +kernel
theorem dX7_type_10 : decode cX7_type 10 = .ok (.ireturn, 1) := by decide +kernel
theorem dX7_type_11 : decode cX7_type 11 = .ok (.iload_n 1, 1) := by decide +kernel
theorem dX7_type_12 : decode cX7_type 12 = .ok (.iconst 5, 1) := by decide +kernel
theorem dX7_type_13 : decode cX7_type 13 = .ok (.if_icmp .eq 15, 3) := by decide +kernel
theorem dX7_type_16 : decode cX7_type 16 = .ok (.iload_n 3, 1) := by decide +kernel
theorem dX7_type_17 : decode cX7_type 17 = .ok (.ifCond .lt 9, 3) := by decide +kernel
theorem dX7_type_20 : decode cX7_type 20 = .ok (.iload_n 3, 1) := by decide +kernel
theorem dX7_type_21 : decode cX7_type 21 = .ok (.bipush 26, 2) := by decide +kernel
theorem dX7_type_23 : decode cX7_type 23 = .ok (.if_icmp .lt 5, 3) := by decide +kernel
theorem dX7_type_26 : decode cX7_type 26 = .ok (.iconst (-1), 1) := by decide +kernel
theorem dX7_type_27 : decode cX7_type 27 = .ok (.ireturn, 1) := by decide +kernel
theorem dX7_type_28 : decode cX7_type 28 = .ok (.iload_n 1, 1) := by decide +kernel
theorem dX7_type_29 : decode cX7_type 29 = .ok (.ifCond .ne 7, 3) := by decide +kernel
theorem dX7_type_32 : decode cX7_type 32 = .ok (.aconst_null, 1) := by decide +kernel
theorem dX7_type_33 : decode cX7_type 33 = .ok (.goto 8, 3) := by decide +kernel
theorem dX7_type_36 : decode cX7_type 36 = .ok (.aload_n 0, 1) := by decide +kernel
theorem dX7_type_37 : decode cX7_type 37 = .ok (.iload_n 2, 1) := by decide +kernel
theorem dX7_type_38 : decode cX7_type 38 = .ok (.invokevirtual 47, 3) := by decide +kernel
theorem dX7_type_41 : decode cX7_type 41 = .ok (.astore 4, 2) := by decide +kernel
theorem dX7_type_43 : decode cX7_type 43 = .ok (.iload_n 1, 1) := by decide +kernel
theorem dX7_type_44 : decode cX7_type 44 = .ok (.ifCond .eq 10, 3) := by decide +kernel
theorem dX7_type_47 : decode cX7_type 47 = .ok (.aload 4, 2) := by decide +kernel
theorem dX7_type_49 : decode cX7_type 49 = .ok (.ifnonnull 5, 3) := by decide +kernel
theorem dX7_type_52 : decode cX7_type 52 = .ok (.iconst (-1), 1) := by decide +kernel
theorem dX7_type_53 : decode cX7_type 53 = .ok (.ireturn, 1) := by decide +kernel
theorem dX7_type_54 : decode cX7_type 54 = .ok (.aload_n 0, 1) := by decide +kernel
theorem dX7_type_55 : decode cX7_type 55 = .ok (.getfield 15, 3) := by decide +kernel
theorem dX7_type_58 : decode cX7_type 58 = .ok (.bipush 12, 2) := by decide +kernel
theorem dX7_type_60 : decode cX7_type 60 = .ok (.if_icmp .lt 6, 3) := by decide +kernel
theorem dX7_type_63 : decode cX7_type 63 = .ok (.bipush (-2), 2) := by decide +kernel
theorem dX7_type_65 : decode cX7_type 65 = .ok (.ireturn, 1) := by decide +kernel
theorem dX7_type_66 : decode cX7_type 66 = .ok (.iload_n 1, 1) := by decide +kernel
theorem dX7_type_67 : decode cX7_type 67 = .ok (.iconst 5, 1) := by decide +kernel
theorem dX7_type_68 : decode cX7_type 68 = .ok (.if_icmp .ne 7, 3) := by decide +kernel
theorem dX7_type_71 : decode cX7_type 71 = .ok (.iconst (-1), 1) := by decide +kernel
theorem dX7_type_72 : decode cX7_type 72 = .ok (.goto 4, 3) := by decide +kernel
theorem dX7_type_75 : decode cX7_type 75 = .ok (.iload_n 3, 1) := by decide +kernel
theorem dX7_type_76 : decode cX7_type 76 = .ok (.istore 5, 2) := by decide +kernel
theorem dX7_type_78 : decode cX7_type 78 = .ok (.aload_n 0, 1) := by decide +kernel
theorem dX7_type_79 : decode cX7_type 79 = .ok (.iload_n 1, 1) := by decide +kernel
theorem dX7_type_80 : decode cX7_type 80 = .ok (.aload 4, 2) := by decide +kernel
theorem dX7_type_82 : decode cX7_type 82 = .ok (.iload 5, 2) := by decide +kernel
theorem dX7_type_84 : decode cX7_type 84 = .ok (.invokevirtual 51, 3) := by decide +kernel
theorem dX7_type_87 : decode cX7_type 87 = .ok (.ifCond .eq 6, 3) := by decide +kernel
theorem dX7_type_90 : decode cX7_type 90 = .ok (.bipush (-4), 2) := by decide +kernel
theorem dX7_type_92 : decode cX7_type 92 = .ok (.ireturn, 1) := by decide +kernel
theorem dX7_type_93 : decode cX7_type 93 = .ok (.aload_n 0, 1) := by decide +kernel
theorem dX7_type_94 : decode cX7_type 94 = .ok (.iload_n 1, 1) := by decide +kernel
theorem dX7_type_95 : decode cX7_type 95 = .ok (.aload 4, 2) := by decide +kernel
theorem dX7_type_97 : decode cX7_type 97 = .ok (.iload 5, 2) := by decide +kernel
theorem dX7_type_99 : decode cX7_type 99 = .ok (.invokevirtual 55, 3) := by decide +kernel
theorem dX7_type_102 : decode cX7_type 102 = .ok (.istore 6, 2) := by decide +kernel
theorem dX7_type_104 : decode cX7_type 104 = .ok (.aload_n 0, 1) := by decide +kernel
theorem dX7_type_105 : decode cX7_type 105 = .ok (.getfield 11, 3) := by decide +kernel
theorem dX7_type_108 : decode cX7_type 108 = .ok (.aload_n 0, 1) := by decide +kernel
theorem dX7_type_109 : decode cX7_type 109 = .ok (.getfield 15, 3) := by decide +kernel
theorem dX7_type_112 : decode cX7_type 112 = .ok (.new 9, 3) := by decide +kernel
theorem dX7_type_115 : decode cX7_type 115 = .ok (.dup, 1) := by decide +kernel
theorem dX7_type_116 : decode cX7_type 116 = .ok (.aload_n 0, 1) := by decide +kernel
theorem dX7_type_117 : decode cX7_type 117 = .ok (.getfield 15, 3) := by decide +kernel
theorem dX7_type_120 : decode cX7_type 120 = .ok (.iload_n 1, 1) := by decide +kernel
theorem dX7_type_121 : decode cX7_type 121 = .ok (.aload 4, 2) := by decide +kernel
theorem dX7_type_123 : decode cX7_type 123 = .ok (.iload 5, 2) := by decide +kernel
theorem dX7_type_125 : decode cX7_type 125 = .ok (.iload 6, 2) := by decide +kernel
theorem dX7_type_127 : decode cX7_type 127 = .ok (.invokespecial 59, 3) := by decide +kernel
theorem dX7_type_130 : decode cX7_type 130 = .ok (.aastore, 1) := by decide +kernel
theorem dX7_type_131 : decode cX7_type 131 = .ok (.aload_n 0, 1) := by decide +kernel
theorem dX7_type_132 : decode cX7_type 132 = .ok (.dup, 1) := by decide +kernel
theorem dX7_type_133 : decode cX7_type 133 = .ok (.getfield 15, 3) := by decide +kernel
theorem dX7_type_136 : decode cX7_type 136 = .ok (.iconst 1, 1) := by decide +kernel
theorem dX7_type_137 : decode cX7_type 137 = .ok (.iadd, 1) := by decide +kernel
theorem dX7_type_138 : decode cX7_type 138 = .ok (.putfield 15, 3) := by decide +kernel
theorem dX7_type_141 : decode cX7_type 141 = .ok (.aload_n 0, 1) := by decide +kernel
theorem dX7_type_142 : decode cX7_type 142 = .ok (.getfield 15, 3) := by decide +kernel
theorem dX7_type_145 : decode cX7_type 145 = .ok (.iconst 1, 1) := by decide +kernel
theorem dX7_type_146 : decode cX7_type 146 = .ok (.isub, 1) := by decide +kernel
theorem dX7_type_147 : decode cX7_type 147 = .ok (.ireturn, 1) := by decide +kernel
theorem dX7_field_0 : decode cX7_field 0 = .ok (.aload_n 0, 1) := by decide +kernel
theorem dX7_field_1 : decode cX7_field 1 = .ok (.iload_n 1, 1) := by decide +kernel
theorem dX7_field_2 : decode cX7_field 2 = .ok (.invokevirtual 47, 3) := by decide +kernel
theorem dX7_field_5 : decode cX7_field 5 = .ok (.astore 6, 2) := by decide +kernel
theorem dX7_field_7 : decode cX7_field 7 = .ok (.aload 6, 2) := by decide +kernel
theorem dX7_field_9 : decode cX7_field 9 = .ok (.ifnull 10, 3) := by decide +kernel
theorem dX7_field_12 : decode cX7_field 12 = .ok (.iload_n 2, 1) := by decide +kernel
theorem dX7_field_13 : decode cX7_field 13 = .ok (.invokestatic 62, 3) := by decide +kernel
theorem dX7_field_16 : decode cX7_field 16 = .ok (.ifCond .ne 5, 3) := by decide +kernel
theorem dX7_field_19 : decode cX7_field 19 = .ok (.iconst (-1), 1) := by decide +kernel
theorem dX7_field_20 : decode cX7_field 20 = .ok (.ireturn, 1) := by decide +kernel
theorem dX7_field_21 : decode cX7_field 21 = .ok (.aload 6, 2) := by decide +kernel
theorem dX7_field_23 : decode cX7_field 23 = .ok (.getfield 66, 3) := by decide +kernel
theorem dX7_field_26 : decode cX7_field 26 = .ok (.astore 7, 2) := by decide +kernel
theorem dX7_field_28 : decode cX7_field 28 = .ok (.aload 7, 2) := by decide +kernel
theorem dX7_field_30 : decode cX7_field 30 = .ok (.getfield 70, 3) := by decide +kernel
theorem dX7_field_33 : decode cX7_field 33 = .ok (.iconst 4, 1) := by decide +kernel
theorem dX7_field_34 : decode cX7_field 34 = .ok (.if_icmp .lt 6, 3) := by decide +kernel
theorem dX7_field_37 : decode cX7_field 37 = .ok (.bipush (-2), 2) := by decide +kernel
theorem dX7_field_39 : decode cX7_field 39 = .ok (.ireturn, 1) := by decide +kernel
theorem dX7_field_40 : decode cX7_field 40 = .ok (.aload 7, 2) := by decide +kernel
theorem dX7_field_42 : decode cX7_field 42 = .ok (.iload_n 2, 1) := by decide +kernel
theorem dX7_field_43 : decode cX7_field 43 = .ok (.invokevirtual 75, 3) := by decide +kernel
theorem dX7_field_46 : decode cX7_field 46 = .ok (.iconst (-1), 1) := by decide +kernel
theorem dX7_field_47 : decode cX7_field 47 = .ok (.if_icmp .eq 6, 3) := by decide +kernel
theorem dX7_field_50 : decode cX7_field 50 = .ok (.bipush (-4), 2) := by decide +kernel
theorem dX7_field_52 : decode cX7_field 52 = .ok (.ireturn, 1) := by decide +kernel
theorem dX7_field_53 : decode cX7_field 53 = .ok (.aload 7, 2) := by decide +kernel
theorem dX7_field_55 : decode cX7_field 55 = .ok (.iload_n 2, 1) := by decide +kernel
theorem dX7_field_56 : decode cX7_field 56 = .ok (.lload_n 3, 1) := by decide +kernel
theorem dX7_field_57 : decode cX7_field 57 = .ok (.iload 5, 2) := by decide +kernel
theorem dX7_field_59 : decode cX7_field 59 = .ok (.invokevirtual 79, 3) := by decide +kernel
theorem dX7_field_62 : decode cX7_field 62 = .ok (.aload 7, 2) := by decide +kernel
theorem dX7_field_64 : decode cX7_field 64 = .ok (.getfield 70, 3) := by decide +kernel
theorem dX7_field_67 : decode cX7_field 67 = .ok (.ireturn, 1) := by decide +kernel
theorem dX7_local_0 : decode cX7_local 0 = .ok (.aload_n 0, 1) := by decide +kernel
theorem dX7_local_1 : decode cX7_local 1 = .ok (.iload_n 1, 1) := by decide +kernel
theorem dX7_local_2 : decode cX7_local 2 = .ok (.invokevirtual 47, 3) := by decide +kernel
theorem dX7_local_5 : decode cX7_local 5 = .ok (.astore 5, 2) := by decide +kernel
theorem dX7_local_7 : decode cX7_local 7 = .ok (.aload 5, 2) := by decide +kernel
theorem dX7_local_9 : decode cX7_local 9 = .ok (.ifnull 10, 3) := by decide +kernel
theorem dX7_local_12 : decode cX7_local 12 = .ok (.iload_n 2, 1) := by decide +kernel
theorem dX7_local_13 : decode cX7_local 13 = .ok (.invokestatic 62, 3) := by decide +kernel
theorem dX7_local_16 : decode cX7_local 16 = .ok (.ifCond .ne 5, 3) := by decide +kernel
theorem dX7_local_19 : decode cX7_local 19 = .ok (.iconst (-1), 1) := by decide +kernel
theorem dX7_local_20 : decode cX7_local 20 = .ok (.ireturn, 1) := by decide +kernel
theorem dX7_local_21 : decode cX7_local 21 = .ok (.aload 5, 2) := by decide +kernel
theorem dX7_local_23 : decode cX7_local 23 = .ok (.getfield 83, 3) := by decide +kernel
theorem dX7_local_26 : decode cX7_local 26 = .ok (.astore 6, 2) := by decide +kernel
theorem dX7_local_28 : decode cX7_local 28 = .ok (.aload 6, 2) := by decide +kernel
theorem dX7_local_30 : decode cX7_local 30 = .ok (.getfield 87, 3) := by decide +kernel
theorem dX7_local_33 : decode cX7_local 33 = .ok (.iconst 4, 1) := by decide +kernel
theorem dX7_local_34 : decode cX7_local 34 = .ok (.if_icmp .lt 6, 3) := by decide +kernel
theorem dX7_local_37 : decode cX7_local 37 = .ok (.bipush (-2), 2) := by decide +kernel
theorem dX7_local_39 : decode cX7_local 39 = .ok (.ireturn, 1) := by decide +kernel
theorem dX7_local_40 : decode cX7_local 40 = .ok (.aload 6, 2) := by decide +kernel
theorem dX7_local_42 : decode cX7_local 42 = .ok (.iload_n 2, 1) := by decide +kernel
theorem dX7_local_43 : decode cX7_local 43 = .ok (.lload_n 3, 1) := by decide +kernel
theorem dX7_local_44 : decode cX7_local 44 = .ok (.invokevirtual 90, 3) := by decide +kernel
theorem dX7_local_47 : decode cX7_local 47 = .ok (.aload 6, 2) := by decide +kernel
theorem dX7_local_49 : decode cX7_local 49 = .ok (.getfield 87, 3) := by decide +kernel
theorem dX7_local_52 : decode cX7_local 52 = .ok (.ireturn, 1) := by decide +kernel
theorem dX7_assign_0 : decode cX7_assign 0 = .ok (.aload_n 0, 1) := by decide +kernel
theorem dX7_assign_1 : decode cX7_assign 1 = .ok (.iload_n 1, 1) := by decide +kernel
theorem dX7_assign_2 : decode cX7_assign 2 = .ok (.invokevirtual 47, 3) := by decide +kernel
theorem dX7_assign_5 : decode cX7_assign 5 = .ok (.astore 5, 2) := by decide +kernel
theorem dX7_assign_7 : decode cX7_assign 7 = .ok (.aload 5, 2) := by decide +kernel
theorem dX7_assign_9 : decode cX7_assign 9 = .ok (.ifnull 15, 3) := by decide +kernel
theorem dX7_assign_12 : decode cX7_assign 12 = .ok (.aload 5, 2) := by decide +kernel
theorem dX7_assign_14 : decode cX7_assign 14 = .ok (.getfield 83, 3) := by decide +kernel
theorem dX7_assign_17 : decode cX7_assign 17 = .ok (.iload_n 2, 1) := by decide +kernel
theorem dX7_assign_18 : decode cX7_assign 18 = .ok (.invokevirtual 93, 3) := by decide +kernel
theorem dX7_assign_21 : decode cX7_assign 21 = .ok (.ifCond .ne 5, 3) := by decide +kernel
theorem dX7_assign_24 : decode cX7_assign 24 = .ok (.iconst (-1), 1) := by decide +kernel
theorem dX7_assign_25 : decode cX7_assign 25 = .ok (.ireturn, 1) := by decide +kernel
theorem dX7_assign_26 : decode cX7_assign 26 = .ok (.aload 5, 2) := by decide +kernel
theorem dX7_assign_28 : decode cX7_assign 28 = .ok (.getfield 83, 3) := by decide +kernel
theorem dX7_assign_31 : decode cX7_assign 31 = .ok (.iload_n 2, 1) := by decide +kernel
theorem dX7_assign_32 : decode cX7_assign 32 = .ok (.invokevirtual 96, 3) := by decide +kernel
theorem dX7_assign_35 : decode cX7_assign 35 = .ok (.istore 6, 2) := by decide +kernel
theorem dX7_assign_37 : decode cX7_assign 37 = .ok (.aload 5, 2) := by decide +kernel
theorem dX7_assign_39 : decode cX7_assign 39 = .ok (.getfield 83, 3) := by decide +kernel
theorem dX7_assign_42 : decode cX7_assign 42 = .ok (.iload_n 2, 1) := by decide +kernel
theorem dX7_assign_43 : decode cX7_assign 43 = .ok (.lload_n 3, 1) := by decide +kernel
theorem dX7_assign_44 : decode cX7_assign 44 = .ok (.invokevirtual 99, 3) := by decide +kernel
theorem dX7_assign_47 : decode cX7_assign 47 = .ok (.iload 6, 2) := by decide +kernel
theorem dX7_assign_49 : decode cX7_assign 49 = .ok (.ifCond .eq 7, 3) := by decide +kernel
theorem dX7_assign_52 : decode cX7_assign 52 = .ok (.iconst 1, 1) := by decide +kernel
theorem dX7_assign_53 : decode cX7_assign 53 = .ok (.goto 4, 3) := by decide +kernel
theorem dX7_assign_56 : decode cX7_assign 56 = .ok (.iconst 0, 1) := by decide +kernel
theorem dX7_assign_57 : decode cX7_assign 57 = .ok (.ireturn, 1) := by decide +kernel
theorem dX7_method_0 : decode cX7_method 0 = .ok (.aload_n 0, 1) := by decide +kernel
theorem dX7_method_1 : decode cX7_method 1 = .ok (.iload_n 1, 1) := by decide +kernel
theorem dX7_method_2 : decode cX7_method 2 = .ok (.invokevirtual 47, 3) := by decide +kernel
theorem dX7_method_5 : decode cX7_method 5 = .ok (.astore_n 3, 1) := by decide +kernel
theorem dX7_method_6 : decode cX7_method 6 = .ok (.aload_n 3, 1) := by decide +kernel
theorem dX7_method_7 : decode cX7_method 7 = .ok (.ifnonnull 5, 3) := by decide +kernel
theorem dX7_method_10 : decode cX7_method 10 = .ok (.iconst (-1), 1) := by decide +kernel
theorem dX7_method_11 : decode cX7_method 11 = .ok (.ireturn, 1) := by decide +kernel
theorem dX7_method_12 : decode cX7_method 12 = .ok (.aload_n 0, 1) := by decide +kernel
theorem dX7_method_13 : decode cX7_method 13 = .ok (.aload_n 3, 1) := by decide +kernel
theorem dX7_method_14 : decode cX7_method 14 = .ok (.invokevirtual 102, 3) := by decide +kernel
theorem dX7_method_17 : decode cX7_method 17 = .ok (.ifCond .eq 6, 3) := by decide +kernel
theorem dX7_method_20 : decode cX7_method 20 = .ok (.bipush (-4), 2) := by decide +kernel
theorem dX7_method_22 : decode cX7_method 22 = .ok (.ireturn, 1) := by decide +kernel
theorem dX7_method_23 : decode cX7_method 23 = .ok (.aload_n 3, 1) := by decide +kernel
theorem dX7_method_24 : decode cX7_method 24 = .ok (.getfield 106, 3) := by decide +kernel
theorem dX7_method_27 : decode cX7_method 27 = .ok (.istore 4, 2) := by decide +kernel
theorem dX7_method_29 : decode cX7_method 29 = .ok (.aload_n 3, 1) := by decide +kernel
theorem dX7_method_30 : decode cX7_method 30 = .ok (.iload_n 2, 1) := by decide +kernel
theorem dX7_method_31 : decode cX7_method 31 = .ok (.putfield 106, 3) := by decide +kernel
theorem dX7_method_34 : decode cX7_method 34 = .ok (.iload 4, 2) := by decide +kernel
theorem dX7_method_36 : decode cX7_method 36 = .ok (.ifCond .eq 7, 3) := by decide +kernel
theorem dX7_method_39 : decode cX7_method 39 = .ok (.iconst 1, 1) := by decide +kernel
theorem dX7_method_40 : decode cX7_method 40 = .ok (.goto 4, 3) := by decide +kernel
theorem dX7_method_43 : decode cX7_method 43 = .ok (.iconst 0, 1) := by decide +kernel
theorem dX7_method_44 : decode cX7_method 44 = .ok (.ireturn, 1) := by decide +kernel
theorem dX7_parent_0 : decode cX7_parent 0 = .ok (.aload_n 0, 1) := by decide +kernel
theorem dX7_parent_1 : decode cX7_parent 1 = .ok (.iload_n 1, 1) := by decide +kernel
theorem dX7_parent_2 : decode cX7_parent 2 = .ok (.invokevirtual 47, 3) := by decide +kernel
theorem dX7_parent_5 : decode cX7_parent 5 = .ok (.astore_n 3, 1) := by decide +kernel
theorem dX7_parent_6 : decode cX7_parent 6 = .ok (.aload_n 0, 1) := by decide +kernel
theorem dX7_parent_7 : decode cX7_parent 7 = .ok (.iload_n 2, 1) := by decide +kernel
theorem dX7_parent_8 : decode cX7_parent 8 = .ok (.invokevirtual 47, 3) := by decide +kernel
theorem dX7_parent_11 : decode cX7_parent 11 = .ok (.astore 4, 2) := by decide +kernel
theorem dX7_parent_13 : decode cX7_parent 13 = .ok (.aload_n 3, 1) := by decide +kernel
theorem dX7_parent_14 : decode cX7_parent 14 = .ok (.ifnull 8, 3) := by decide +kernel
theorem dX7_parent_17 : decode cX7_parent 17 = .ok (.aload 4, 2) := by decide +kernel
theorem dX7_parent_19 : decode cX7_parent 19 = .ok (.ifnonnull 5, 3) := by decide +kernel
theorem dX7_parent_22 : decode cX7_parent 22 = .ok (.iconst (-1), 1) := by decide +kernel
theorem dX7_parent_23 : decode cX7_parent 23 = .ok (.ireturn, 1) := by decide +kernel
theorem dX7_parent_24 : decode cX7_parent 24 = .ok (.aload_n 3, 1) := by decide +kernel
theorem dX7_parent_25 : decode cX7_parent 25 = .ok (.getfield 110, 3) := by decide +kernel
theorem dX7_parent_28 : decode cX7_parent 28 = .ok (.iconst 4, 1) := by decide +kernel
theorem dX7_parent_29 : decode cX7_parent 29 = .ok (.if_icmp .eq 12, 3) := by decide +kernel
theorem dX7_parent_32 : decode cX7_parent 32 = .ok (.aload 4, 2) := by decide +kernel
theorem dX7_parent_34 : decode cX7_parent 34 = .ok (.getfield 110, 3) := by decide +kernel
theorem dX7_parent_37 : decode cX7_parent 37 = .ok (.iconst 4, 1) := by decide +kernel
theorem dX7_parent_38 : decode cX7_parent 38 = .ok (.if_icmp .ne 5, 3) := by decide +kernel
theorem dX7_parent_41 : decode cX7_parent 41 = .ok (.iconst (-1), 1) := by decide +kernel
theorem dX7_parent_42 : decode cX7_parent 42 = .ok (.ireturn, 1) := by decide +kernel
theorem dX7_parent_43 : decode cX7_parent 43 = .ok (.aload_n 3, 1) := by decide +kernel
theorem dX7_parent_44 : decode cX7_parent 44 = .ok (.getfield 113, 3) := by decide +kernel
theorem dX7_parent_47 : decode cX7_parent 47 = .ok (.ifnonnull 12, 3) := by decide +kernel
theorem dX7_parent_50 : decode cX7_parent 50 = .ok (.aload_n 3, 1) := by decide +kernel
theorem dX7_parent_51 : decode cX7_parent 51 = .ok (.aload 4, 2) := by decide +kernel
theorem dX7_parent_53 : decode cX7_parent 53 = .ok (.invokestatic 117, 3) := by decide +kernel
theorem dX7_parent_56 : decode cX7_parent 56 = .ok (.ifCond .eq 6, 3) := by decide +kernel
theorem dX7_parent_59 : decode cX7_parent 59 = .ok (.bipush (-4), 2) := by decide +kernel
theorem dX7_parent_61 : decode cX7_parent 61 = .ok (.ireturn, 1) := by decide +kernel
theorem dX7_parent_62 : decode cX7_parent 62 = .ok (.aload_n 3, 1) := by decide +kernel
theorem dX7_parent_63 : decode cX7_parent 63 = .ok (.aload 4, 2) := by decide +kernel
theorem dX7_parent_65 : decode cX7_parent 65 = .ok (.putfield 113, 3) := by decide +kernel
theorem dX7_parent_68 : decode cX7_parent 68 = .ok (.iconst 1, 1) := by decide +kernel
theorem dX7_parent_69 : decode cX7_parent 69 = .ok (.ireturn, 1) := by decide +kernel
theorem dX7_name_0 : decode cX7_name 0 = .ok (.aload_n 0, 1) := by decide +kernel
theorem dX7_name_1 : decode cX7_name 1 = .ok (.iload_n 1, 1) := by decide +kernel
theorem dX7_name_2 : decode cX7_name 2 = .ok (.invokevirtual 47, 3) := by decide +kernel
theorem dX7_name_5 : decode cX7_name 5 = .ok (.astore_n 3, 1) := by decide +kernel
theorem dX7_name_6 : decode cX7_name 6 = .ok (.aload_n 3, 1) := by decide +kernel
theorem dX7_name_7 : decode cX7_name 7 = .ok (.ifnonnull 5, 3) := by decide +kernel
theorem dX7_name_10 : decode cX7_name 10 = .ok (.iconst (-1), 1) := by decide +kernel
theorem dX7_name_11 : decode cX7_name 11 = .ok (.ireturn, 1) := by decide +kernel
theorem dX7_name_12 : decode cX7_name 12 = .ok (.aload_n 3, 1) := by decide +kernel
theorem dX7_name_13 : decode cX7_name 13 = .ok (.getfield 121, 3) := by decide +kernel
theorem dX7_name_16 : decode cX7_name 16 = .ok (.astore 4, 2) := by decide +kernel
theorem dX7_name_18 : decode cX7_name 18 = .ok (.iload_n 2, 1) := by decide +kernel
theorem dX7_name_19 : decode cX7_name 19 = .ok (.bipush (-3), 2) := by decide +kernel
theorem dX7_name_21 : decode cX7_name 21 = .ok (.if_icmp .ne 9, 3) := by decide +kernel
theorem dX7_name_24 : decode cX7_name 24 = .ok (.aload 4, 2) := by decide +kernel
theorem dX7_name_26 : decode cX7_name 26 = .ok (.invokevirtual 125, 3) := by decide +kernel
theorem dX7_name_29 : decode cX7_name 29 = .ok (.ireturn, 1) := by decide +kernel
theorem dX7_name_30 : decode cX7_name 30 = .ok (.iload_n 2, 1) := by decide +kernel
theorem dX7_name_31 : decode cX7_name 31 = .ok (.ifCond .lt 12, 3) := by decide +kernel
theorem dX7_name_34 : decode cX7_name 34 = .ok (.iload_n 2, 1) := by decide +kernel
theorem dX7_name_35 : decode cX7_name 35 = .ok (.aload 4, 2) := by decide +kernel
theorem dX7_name_37 : decode cX7_name 37 = .ok (.invokevirtual 125, 3) := by decide +kernel
theorem dX7_name_40 : decode cX7_name 40 = .ok (.if_icmp .lt 5, 3) := by decide +kernel
theorem dX7_name_43 : decode cX7_name 43 = .ok (.iconst (-1), 1) := by decide +kernel
theorem dX7_name_44 : decode cX7_name 44 = .ok (.ireturn, 1) := by decide +kernel
theorem dX7_name_45 : decode cX7_name 45 = .ok (.aload 4, 2) := by decide +kernel
theorem dX7_name_47 : decode cX7_name 47 = .ok (.iload_n 2, 1) := by decide +kernel
theorem dX7_name_48 : decode cX7_name 48 = .ok (.invokevirtual 131, 3) := by decide +kernel
theorem dX7_name_51 : decode cX7_name 51 = .ok (.ireturn, 1) := by decide +kernel
theorem dX7_make_0 : decode cX7_make 0 = .ok (.aload_n 0, 1) := by decide +kernel
theorem dX7_make_1 : decode cX7_make 1 = .ok (.aload_n 0, 1) := by decide +kernel
theorem dX7_make_2 : decode cX7_make 2 = .ok (.iload_n 1, 1) := by decide +kernel
theorem dX7_make_3 : decode cX7_make 3 = .ok (.iload_n 2, 1) := by decide +kernel
theorem dX7_make_4 : decode cX7_make 4 = .ok (.iload_n 3, 1) := by decide +kernel
theorem dX7_make_5 : decode cX7_make 5 = .ok (.invokevirtual 135, 3) := by decide +kernel
theorem dX7_make_8 : decode cX7_make 8 = .ok (.putfield 44, 3) := by decide +kernel
theorem dX7_make_11 : decode cX7_make 11 = .ok (.aload_n 0, 1) := by decide +kernel
theorem dX7_make_12 : decode cX7_make 12 = .ok (.getfield 44, 3) := by decide +kernel
theorem dX7_make_15 : decode cX7_make 15 = .ok (.ireturn, 1) := by decide +kernel
theorem dX7_share_0 : decode cX7_share 0 = .ok (.iload_n 1, 1) := by decide +kernel
theorem dX7_share_1 : decode cX7_share 1 = .ok (.invokestatic 139, 3) := by decide +kernel
theorem dX7_share_4 : decode cX7_share 4 = .ok (.ifCond .eq 10, 3) := by decide +kernel
theorem dX7_share_7 : decode cX7_share 7 = .ok (.iload_n 2, 1) := by decide +kernel
theorem dX7_share_8 : decode cX7_share 8 = .ok (.invokestatic 139, 3) := by decide +kernel
theorem dX7_share_11 : decode cX7_share 11 = .ok (.ifCond .ne 5, 3) := by decide +kernel
theorem dX7_share_14 : decode cX7_share 14 = .ok (.iconst (-1), 1) := by decide +kernel
theorem dX7_share_15 : decode cX7_share 15 = .ok (.ireturn, 1) := by decide +kernel
theorem dX7_share_16 : decode cX7_share 16 = .ok (.aload_n 0, 1) := by decide +kernel
theorem dX7_share_17 : decode cX7_share 17 = .ok (.getfield 21, 3) := by decide +kernel
theorem dX7_share_20 : decode cX7_share 20 = .ok (.iload_n 2, 1) := by decide +kernel
theorem dX7_share_21 : decode cX7_share 21 = .ok (.aload_n 0, 1) := by decide +kernel
theorem dX7_share_22 : decode cX7_share 22 = .ok (.getfield 21, 3) := by decide +kernel
theorem dX7_share_25 : decode cX7_share 25 = .ok (.iload_n 1, 1) := by decide +kernel
theorem dX7_share_26 : decode cX7_share 26 = .ok (.aaload, 1) := by decide +kernel
theorem dX7_share_27 : decode cX7_share 27 = .ok (.aastore, 1) := by decide +kernel
theorem dX7_share_28 : decode cX7_share 28 = .ok (.aload_n 0, 1) := by decide +kernel
theorem dX7_share_29 : decode cX7_share 29 = .ok (.getfield 21, 3) := by decide +kernel
theorem dX7_share_32 : decode cX7_share 32 = .ok (.iload_n 2, 1) := by decide +kernel
theorem dX7_share_33 : decode cX7_share 33 = .ok (.aaload, 1) := by decide +kernel
theorem dX7_share_34 : decode cX7_share 34 = .ok (.ifnull 7, 3) := by decide +kernel
theorem dX7_share_37 : decode cX7_share 37 = .ok (.iconst 1, 1) := by decide +kernel
theorem dX7_share_38 : decode cX7_share 38 = .ok (.goto 4, 3) := by decide +kernel
theorem dX7_share_41 : decode cX7_share 41 = .ok (.iconst 0, 1) := by decide +kernel
theorem dX7_share_42 : decode cX7_share 42 = .ok (.ireturn, 1) := by decide +kernel
theorem dX7_free_0 : decode cX7_free 0 = .ok (.iload_n 1, 1) := by decide +kernel
theorem dX7_free_1 : decode cX7_free 1 = .ok (.invokestatic 139, 3) := by decide +kernel
theorem dX7_free_4 : decode cX7_free 4 = .ok (.ifCond .ne 5, 3) := by decide +kernel
theorem dX7_free_7 : decode cX7_free 7 = .ok (.iconst (-1), 1) := by decide +kernel
theorem dX7_free_8 : decode cX7_free 8 = .ok (.ireturn, 1) := by decide +kernel
theorem dX7_free_9 : decode cX7_free 9 = .ok (.aload_n 0, 1) := by decide +kernel
theorem dX7_free_10 : decode cX7_free 10 = .ok (.getfield 21, 3) := by decide +kernel
theorem dX7_free_13 : decode cX7_free 13 = .ok (.iload_n 1, 1) := by decide +kernel
theorem dX7_free_14 : decode cX7_free 14 = .ok (.aaload, 1) := by decide +kernel
theorem dX7_free_15 : decode cX7_free 15 = .ok (.ifnull 7, 3) := by decide +kernel
theorem dX7_free_18 : decode cX7_free 18 = .ok (.iconst 1, 1) := by decide +kernel
theorem dX7_free_19 : decode cX7_free 19 = .ok (.goto 4, 3) := by decide +kernel
theorem dX7_free_22 : decode cX7_free 22 = .ok (.iconst 0, 1) := by decide +kernel
theorem dX7_free_23 : decode cX7_free 23 = .ok (.istore_n 2, 1) := by decide +kernel
theorem dX7_free_24 : decode cX7_free 24 = .ok (.aload_n 0, 1) := by decide +kernel
theorem dX7_free_25 : decode cX7_free 25 = .ok (.getfield 21, 3) := by decide +kernel
theorem dX7_free_28 : decode cX7_free 28 = .ok (.iload_n 1, 1) := by decide +kernel
theorem dX7_free_29 : decode cX7_free 29 = .ok (.aconst_null, 1) := by decide +kernel
theorem dX7_free_30 : decode cX7_free 30 = .ok (.aastore, 1) := by decide +kernel
theorem dX7_free_31 : decode cX7_free 31 = .ok (.iload_n 2, 1) := by decide +kernel
theorem dX7_free_32 : decode cX7_free 32 = .ok (.ifCond .eq 7, 3) := by decide +kernel
theorem dX7_free_35 : decode cX7_free 35 = .ok (.iconst 1, 1) := by decide +kernel
theorem dX7_free_36 : decode cX7_free 36 = .ok (.goto 4, 3) := by decide +kernel
theorem dX7_free_39 : decode cX7_free 39 = .ok (.iconst 0, 1) := by decide +kernel
theorem dX7_free_40 : decode cX7_free 40 = .ok (.ireturn, 1) := by decide +kernel
theorem dX7_about_0 : decode cX7_about 0 = .ok (.iload_n 1, 1) := by decide +kernel
theorem dX7_about_1 : decode cX7_about 1 = .ok (.invokestatic 139, 3) := by decide +kernel
theorem dX7_about_4 : decode cX7_about 4 = .ok (.ifCond .eq 12, 3) := by decide +kernel
theorem dX7_about_7 : decode cX7_about 7 = .ok (.iload_n 2, 1) := by decide +kernel
theorem dX7_about_8 : decode cX7_about 8 = .ok (.ifCond .lt 8, 3) := by decide +kernel
theorem dX7_about_11 : decode cX7_about 11 = .ok (.iload_n 2, 1) := by decide +kernel
theorem dX7_about_12 : decode cX7_about 12 = .ok (.iconst 3, 1) := by decide +kernel
theorem dX7_about_13 : decode cX7_about 13 = .ok (.if_icmp .le 5, 3) := by decide +kernel
theorem dX7_about_16 : decode cX7_about 16 = .ok (.iconst (-1), 1) := by decide +kernel
theorem dX7_about_17 : decode cX7_about 17 = .ok (.ireturn, 1) := by decide +kernel
theorem dX7_about_18 : decode cX7_about 18 = .ok (.aload_n 0, 1) := by decide +kernel
theorem dX7_about_19 : decode cX7_about 19 = .ok (.getfield 21, 3) := by decide +kernel
theorem dX7_about_22 : decode cX7_about 22 = .ok (.iload_n 1, 1) := by decide +kernel
theorem dX7_about_23 : decode cX7_about 23 = .ok (.aaload, 1) := by decide +kernel
theorem dX7_about_24 : decode cX7_about 24 = .ok (.astore_n 3, 1) := by decide +kernel
theorem dX7_about_25 : decode cX7_about 25 = .ok (.aload_n 3, 1) := by decide +kernel
theorem dX7_about_26 : decode cX7_about 26 = .ok (.ifnonnull 6, 3) := by decide +kernel
theorem dX7_about_29 : decode cX7_about 29 = .ok (.bipush (-3), 2) := by decide +kernel
theorem dX7_about_31 : decode cX7_about 31 = .ok (.ireturn, 1) := by decide +kernel
theorem dX7_about_32 : decode cX7_about 32 = .ok (.iload_n 2, 1) := by decide +kernel
theorem dX7_about_33 : decode cX7_about 33 = .ok (.tableswitch 70 0 2 #[27, 35, 41], 27) := by decide +kernel
theorem dX7_about_60 : decode cX7_about 60 = .ok (.aload_n 3, 1) := by decide +kernel
theorem dX7_about_61 : decode cX7_about 61 = .ok (.getfield 142, 3) := by decide +kernel
theorem dX7_about_64 : decode cX7_about 64 = .ok (.getfield 145, 3) := by decide +kernel
theorem dX7_about_67 : decode cX7_about 67 = .ok (.ireturn, 1) := by decide +kernel
theorem dX7_about_68 : decode cX7_about 68 = .ok (.aload_n 3, 1) := by decide +kernel
theorem dX7_about_69 : decode cX7_about 69 = .ok (.getfield 148, 3) := by decide +kernel
theorem dX7_about_72 : decode cX7_about 72 = .ok (.arraylength, 1) := by decide +kernel
theorem dX7_about_73 : decode cX7_about 73 = .ok (.ireturn, 1) := by decide +kernel
theorem dX7_about_74 : decode cX7_about 74 = .ok (.aload_n 3, 1) := by decide +kernel
theorem dX7_about_75 : decode cX7_about 75 = .ok (.aload_n 3, 1) := by decide +kernel
theorem dX7_about_76 : decode cX7_about 76 = .ok (.getfield 142, 3) := by decide +kernel
theorem dX7_about_79 : decode cX7_about 79 = .ok (.invokevirtual 152, 3) := by decide +kernel
theorem dX7_about_82 : decode cX7_about 82 = .ok (.astore 4, 2) := by decide +kernel
theorem dX7_about_84 : decode cX7_about 84 = .ok (.aload 4, 2) := by decide +kernel
theorem dX7_about_86 : decode cX7_about 86 = .ok (.ifnonnull 8, 3) := by decide +kernel
theorem dX7_about_89 : decode cX7_about 89 = .ok (.bipush (-3), 2) := by decide +kernel
theorem dX7_about_91 : decode cX7_about 91 = .ok (.goto 11, 3) := by decide +kernel
theorem dX7_about_94 : decode cX7_about 94 = .ok (.aload 4, 2) := by decide +kernel
theorem dX7_about_96 : decode cX7_about 96 = .ok (.getfield 142, 3) := by decide +kernel
theorem dX7_about_99 : decode cX7_about 99 = .ok (.getfield 145, 3) := by decide +kernel
theorem dX7_about_102 : decode cX7_about 102 = .ok (.ireturn, 1) := by decide +kernel
theorem dX7_about_103 : decode cX7_about 103 = .ok (.aload_n 3, 1) := by decide +kernel
theorem dX7_about_104 : decode cX7_about 104 = .ok (.aload_n 3, 1) := by decide +kernel
theorem dX7_about_105 : decode cX7_about 105 = .ok (.getfield 142, 3) := by decide +kernel
theorem dX7_about_108 : decode cX7_about 108 = .ok (.invokevirtual 156, 3) := by decide +kernel
theorem dX7_about_111 : decode cX7_about 111 = .ok (.astore 5, 2) := by decide +kernel
theorem dX7_about_113 : decode cX7_about 113 = .ok (.aload 5, 2) := by decide +kernel
theorem dX7_about_115 : decode cX7_about 115 = .ok (.ifnonnull 7, 3) := by decide +kernel
theorem dX7_about_118 : decode cX7_about 118 = .ok (.iconst 0, 1) := by decide +kernel
theorem dX7_about_119 : decode cX7_about 119 = .ok (.goto 9, 3) := by decide +kernel
theorem dX7_about_122 : decode cX7_about 122 = .ok (.aload 5, 2) := by decide +kernel
theorem dX7_about_124 : decode cX7_about 124 = .ok (.getfield 160, 3) := by decide +kernel
theorem dX7_about_127 : decode cX7_about 127 = .ok (.arraylength, 1) := by decide +kernel
theorem dX7_about_128 : decode cX7_about 128 = .ok (.ireturn, 1) := by decide +kernel
theorem dX7_same_0 : decode cX7_same 0 = .ok (.iload_n 1, 1) := by decide +kernel
theorem dX7_same_1 : decode cX7_same 1 = .ok (.invokestatic 139, 3) := by decide +kernel
theorem dX7_same_4 : decode cX7_same 4 = .ok (.ifCond .eq 10, 3) := by decide +kernel
theorem dX7_same_7 : decode cX7_same 7 = .ok (.iload_n 2, 1) := by decide +kernel
theorem dX7_same_8 : decode cX7_same 8 = .ok (.invokestatic 139, 3) := by decide +kernel
theorem dX7_same_11 : decode cX7_same 11 = .ok (.ifCond .ne 5, 3) := by decide +kernel
theorem dX7_same_14 : decode cX7_same 14 = .ok (.iconst (-1), 1) := by decide +kernel
theorem dX7_same_15 : decode cX7_same 15 = .ok (.ireturn, 1) := by decide +kernel
theorem dX7_same_16 : decode cX7_same 16 = .ok (.aload_n 0, 1) := by decide +kernel
theorem dX7_same_17 : decode cX7_same 17 = .ok (.getfield 21, 3) := by decide +kernel
theorem dX7_same_20 : decode cX7_same 20 = .ok (.iload_n 1, 1) := by decide +kernel
theorem dX7_same_21 : decode cX7_same 21 = .ok (.aaload, 1) := by decide +kernel
theorem dX7_same_22 : decode cX7_same 22 = .ok (.aload_n 0, 1) := by decide +kernel
theorem dX7_same_23 : decode cX7_same 23 = .ok (.getfield 21, 3) := by decide +kernel
theorem dX7_same_26 : decode cX7_same 26 = .ok (.iload_n 2, 1) := by decide +kernel
theorem dX7_same_27 : decode cX7_same 27 = .ok (.aaload, 1) := by decide +kernel
theorem dX7_same_28 : decode cX7_same 28 = .ok (.if_acmp .ne 7, 3) := by decide +kernel
theorem dX7_same_31 : decode cX7_same 31 = .ok (.iconst 1, 1) := by decide +kernel
theorem dX7_same_32 : decode cX7_same 32 = .ok (.goto 4, 3) := by decide +kernel
theorem dX7_same_35 : decode cX7_same 35 = .ok (.iconst 0, 1) := by decide +kernel
theorem dX7_same_36 : decode cX7_same 36 = .ok (.ireturn, 1) := by decide +kernel
theorem dX7_see_0 : decode cX7_see 0 = .ok (.aload_n 0, 1) := by decide +kernel
theorem dX7_see_1 : decode cX7_see 1 = .ok (.aload_n 0, 1) := by decide +kernel
theorem dX7_see_2 : decode cX7_see 2 = .ok (.iload_n 1, 1) := by decide +kernel
theorem dX7_see_3 : decode cX7_see 3 = .ok (.iload_n 2, 1) := by decide +kernel
theorem dX7_see_4 : decode cX7_see 4 = .ok (.invokevirtual 166, 3) := by decide +kernel
theorem dX7_see_7 : decode cX7_see 7 = .ok (.putfield 44, 3) := by decide +kernel
theorem dX7_see_10 : decode cX7_see 10 = .ok (.aload_n 0, 1) := by decide +kernel
theorem dX7_see_11 : decode cX7_see 11 = .ok (.getfield 44, 3) := by decide +kernel
theorem dX7_see_14 : decode cX7_see 14 = .ok (.ifCond .ne 13, 3) := by decide +kernel
theorem dX7_see_17 : decode cX7_see 17 = .ok (.aload_n 0, 1) := by decide +kernel
theorem dX7_see_18 : decode cX7_see 18 = .ok (.getfield 40, 3) := by decide +kernel
theorem dX7_see_21 : decode cX7_see 21 = .ok (.invokevirtual 170, 3) := by decide +kernel
theorem dX7_see_24 : decode cX7_see 24 = .ok (.goto 4, 3) := by decide +kernel
theorem dX7_see_27 : decode cX7_see 27 = .ok (.lconst 0, 1) := by decide +kernel
theorem dX7_see_28 : decode cX7_see 28 = .ok (.lreturn, 1) := by decide +kernel
theorem dX7_put_0 : decode cX7_put 0 = .ok (.aload_n 0, 1) := by decide +kernel
theorem dX7_put_1 : decode cX7_put 1 = .ok (.aload_n 0, 1) := by decide +kernel
theorem dX7_put_2 : decode cX7_put 2 = .ok (.iload_n 1, 1) := by decide +kernel
theorem dX7_put_3 : decode cX7_put 3 = .ok (.iload_n 2, 1) := by decide +kernel
theorem dX7_put_4 : decode cX7_put 4 = .ok (.invokevirtual 166, 3) := by decide +kernel
theorem dX7_put_7 : decode cX7_put 7 = .ok (.putfield 44, 3) := by decide +kernel
theorem dX7_put_10 : decode cX7_put 10 = .ok (.aload_n 0, 1) := by decide +kernel
theorem dX7_put_11 : decode cX7_put 11 = .ok (.getfield 44, 3) := by decide +kernel
theorem dX7_put_14 : decode cX7_put 14 = .ok (.ifCond .ne 19, 3) := by decide +kernel
theorem dX7_put_17 : decode cX7_put 17 = .ok (.aload_n 0, 1) := by decide +kernel
theorem dX7_put_18 : decode cX7_put 18 = .ok (.getfield 40, 3) := by decide +kernel
theorem dX7_put_21 : decode cX7_put 21 = .ok (.getfield 174, 3) := by decide +kernel
theorem dX7_put_24 : decode cX7_put 24 = .ok (.ifCond .eq 9, 3) := by decide +kernel
theorem dX7_put_27 : decode cX7_put 27 = .ok (.aload_n 0, 1) := by decide +kernel
theorem dX7_put_28 : decode cX7_put 28 = .ok (.bipush 7, 2) := by decide +kernel
theorem dX7_put_30 : decode cX7_put 30 = .ok (.putfield 44, 3) := by decide +kernel
theorem dX7_put_33 : decode cX7_put 33 = .ok (.aload_n 0, 1) := by decide +kernel
theorem dX7_put_34 : decode cX7_put 34 = .ok (.getfield 44, 3) := by decide +kernel
theorem dX7_put_37 : decode cX7_put 37 = .ok (.ifCond .ne 11, 3) := by decide +kernel
theorem dX7_put_40 : decode cX7_put 40 = .ok (.aload_n 0, 1) := by decide +kernel
theorem dX7_put_41 : decode cX7_put 41 = .ok (.getfield 40, 3) := by decide +kernel
theorem dX7_put_44 : decode cX7_put 44 = .ok (.lload_n 3, 1) := by decide +kernel
theorem dX7_put_45 : decode cX7_put 45 = .ok (.invokevirtual 177, 3) := by decide +kernel
theorem dX7_put_48 : decode cX7_put 48 = .ok (.aload_n 0, 1) := by decide +kernel
theorem dX7_put_49 : decode cX7_put 49 = .ok (.getfield 44, 3) := by decide +kernel
theorem dX7_put_52 : decode cX7_put 52 = .ok (.ireturn, 1) := by decide +kernel
theorem dX7_that_0 : decode cX7_that 0 = .ok (.aload_n 0, 1) := by decide +kernel
theorem dX7_that_1 : decode cX7_that 1 = .ok (.aload_n 0, 1) := by decide +kernel
theorem dX7_that_2 : decode cX7_that 2 = .ok (.iload_n 1, 1) := by decide +kernel
theorem dX7_that_3 : decode cX7_that 3 = .ok (.iload_n 2, 1) := by decide +kernel
theorem dX7_that_4 : decode cX7_that 4 = .ok (.iload_n 3, 1) := by decide +kernel
theorem dX7_that_5 : decode cX7_that 5 = .ok (.invokevirtual 181, 3) := by decide +kernel
theorem dX7_that_8 : decode cX7_that 8 = .ok (.putfield 44, 3) := by decide +kernel
theorem dX7_that_11 : decode cX7_that 11 = .ok (.aload_n 0, 1) := by decide +kernel
theorem dX7_that_12 : decode cX7_that 12 = .ok (.getfield 44, 3) := by decide +kernel
theorem dX7_that_15 : decode cX7_that 15 = .ok (.ireturn, 1) := by decide +kernel
theorem dX7_constant_0 : decode cX7_constant 0 = .ok (.aload_n 0, 1) := by decide +kernel
theorem dX7_constant_1 : decode cX7_constant 1 = .ok (.iload_n 1, 1) := by decide +kernel
theorem dX7_constant_2 : decode cX7_constant 2 = .ok (.invokevirtual 47, 3) := by decide +kernel
theorem dX7_constant_5 : decode cX7_constant 5 = .ok (.astore_n 3, 1) := by decide +kernel
theorem dX7_constant_6 : decode cX7_constant 6 = .ok (.aload_n 3, 1) := by decide +kernel
theorem dX7_constant_7 : decode cX7_constant 7 = .ok (.ifnull 14, 3) := by decide +kernel
theorem dX7_constant_10 : decode cX7_constant 10 = .ok (.aload_n 3, 1) := by decide +kernel
theorem dX7_constant_11 : decode cX7_constant 11 = .ok (.getfield 66, 3) := by decide +kernel
theorem dX7_constant_14 : decode cX7_constant 14 = .ok (.iload_n 2, 1) := by decide +kernel
theorem dX7_constant_15 : decode cX7_constant 15 = .ok (.invokevirtual 184, 3) := by decide +kernel
theorem dX7_constant_18 : decode cX7_constant 18 = .ok (.ifCond .ne 10, 3) := by decide +kernel
theorem dX7_constant_21 : decode cX7_constant 21 = .ok (.aload_n 0, 1) := by decide +kernel
theorem dX7_constant_22 : decode cX7_constant 22 = .ok (.iconst (-1), 1) := by decide +kernel
theorem dX7_constant_23 : decode cX7_constant 23 = .ok (.putfield 44, 3) := by decide +kernel
theorem dX7_constant_26 : decode cX7_constant 26 = .ok (.lconst 0, 1) := by decide +kernel
theorem dX7_constant_27 : decode cX7_constant 27 = .ok (.lreturn, 1) := by decide +kernel
theorem dX7_constant_28 : decode cX7_constant 28 = .ok (.aload_n 0, 1) := by decide +kernel
theorem dX7_constant_29 : decode cX7_constant 29 = .ok (.iconst 0, 1) := by decide +kernel
theorem dX7_constant_30 : decode cX7_constant 30 = .ok (.putfield 44, 3) := by decide +kernel
theorem dX7_constant_33 : decode cX7_constant 33 = .ok (.aload_n 3, 1) := by decide +kernel
theorem dX7_constant_34 : decode cX7_constant 34 = .ok (.getfield 66, 3) := by decide +kernel
theorem dX7_constant_37 : decode cX7_constant 37 = .ok (.getfield 187, 3) := by decide +kernel
theorem dX7_constant_40 : decode cX7_constant 40 = .ok (.iload_n 2, 1) := by decide +kernel
theorem dX7_constant_41 : decode cX7_constant 41 = .ok (.laload, 1) := by decide +kernel
theorem dX7_constant_42 : decode cX7_constant 42 = .ok (.lreturn, 1) := by decide +kernel
theorem dX7_lambda_0 : decode cX7_lambda 0 = .ok (.iload_n 1, 1) := by decide +kernel
theorem dX7_lambda_1 : decode cX7_lambda 1 = .ok (.invokestatic 139, 3) := by decide +kernel
theorem dX7_lambda_4 : decode cX7_lambda 4 = .ok (.ifCond .ne 5, 3) := by decide +kernel
theorem dX7_lambda_7 : decode cX7_lambda 7 = .ok (.iconst (-1), 1) := by decide +kernel
theorem dX7_lambda_8 : decode cX7_lambda 8 = .ok (.ireturn, 1) := by decide +kernel
theorem dX7_lambda_9 : decode cX7_lambda 9 = .ok (.aload_n 0, 1) := by decide +kernel
theorem dX7_lambda_10 : decode cX7_lambda 10 = .ok (.getfield 21, 3) := by decide +kernel
theorem dX7_lambda_13 : decode cX7_lambda 13 = .ok (.iload_n 1, 1) := by decide +kernel
theorem dX7_lambda_14 : decode cX7_lambda 14 = .ok (.aaload, 1) := by decide +kernel
theorem dX7_lambda_15 : decode cX7_lambda 15 = .ok (.astore_n 3, 1) := by decide +kernel
theorem dX7_lambda_16 : decode cX7_lambda 16 = .ok (.aload_n 3, 1) := by decide +kernel
theorem dX7_lambda_17 : decode cX7_lambda 17 = .ok (.ifnonnull 6, 3) := by decide +kernel
theorem dX7_lambda_20 : decode cX7_lambda 20 = .ok (.bipush (-3), 2) := by decide +kernel
theorem dX7_lambda_22 : decode cX7_lambda 22 = .ok (.ireturn, 1) := by decide +kernel
theorem dX7_lambda_23 : decode cX7_lambda 23 = .ok (.aload_n 3, 1) := by decide +kernel
theorem dX7_lambda_24 : decode cX7_lambda 24 = .ok (.getfield 142, 3) := by decide +kernel
theorem dX7_lambda_27 : decode cX7_lambda 27 = .ok (.astore 4, 2) := by decide +kernel
theorem dX7_lambda_29 : decode cX7_lambda 29 = .ok (.iload_n 2, 1) := by decide +kernel
theorem dX7_lambda_30 : decode cX7_lambda 30 = .ok (.ifCond .lt 15, 3) := by decide +kernel
theorem dX7_lambda_33 : decode cX7_lambda 33 = .ok (.iload_n 2, 1) := by decide +kernel
theorem dX7_lambda_34 : decode cX7_lambda 34 = .ok (.aload 4, 2) := by decide +kernel
theorem dX7_lambda_36 : decode cX7_lambda 36 = .ok (.getfield 83, 3) := by decide +kernel
theorem dX7_lambda_39 : decode cX7_lambda 39 = .ok (.getfield 87, 3) := by decide +kernel
theorem dX7_lambda_42 : decode cX7_lambda 42 = .ok (.if_icmp .le 5, 3) := by decide +kernel
theorem dX7_lambda_45 : decode cX7_lambda 45 = .ok (.iconst (-1), 1) := by decide +kernel
theorem dX7_lambda_46 : decode cX7_lambda 46 = .ok (.ireturn, 1) := by decide +kernel
theorem dX7_lambda_47 : decode cX7_lambda 47 = .ok (.aload_n 0, 1) := by decide +kernel
theorem dX7_lambda_48 : decode cX7_lambda 48 = .ok (.getfield 34, 3) := by decide +kernel
theorem dX7_lambda_51 : decode cX7_lambda 51 = .ok (.bipush 6, 2) := by decide +kernel
theorem dX7_lambda_53 : decode cX7_lambda 53 = .ok (.if_icmp .lt 6, 3) := by decide +kernel
theorem dX7_lambda_56 : decode cX7_lambda 56 = .ok (.bipush (-2), 2) := by decide +kernel
theorem dX7_lambda_58 : decode cX7_lambda 58 = .ok (.ireturn, 1) := by decide +kernel
theorem dX7_lambda_59 : decode cX7_lambda 59 = .ok (.aload 4, 2) := by decide +kernel
theorem dX7_lambda_61 : decode cX7_lambda 61 = .ok (.getfield 106, 3) := by decide +kernel
theorem dX7_lambda_64 : decode cX7_lambda 64 = .ok (.ifCond .eq 7, 3) := by decide +kernel
theorem dX7_lambda_67 : decode cX7_lambda 67 = .ok (.aconst_null, 1) := by decide +kernel
theorem dX7_lambda_68 : decode cX7_lambda 68 = .ok (.goto 4, 3) := by decide +kernel
theorem dX7_lambda_71 : decode cX7_lambda 71 = .ok (.aload_n 3, 1) := by decide +kernel
theorem dX7_lambda_72 : decode cX7_lambda 72 = .ok (.astore 5, 2) := by decide +kernel
theorem dX7_lambda_74 : decode cX7_lambda 74 = .ok (.aload_n 0, 1) := by decide +kernel
theorem dX7_lambda_75 : decode cX7_lambda 75 = .ok (.getfield 30, 3) := by decide +kernel
theorem dX7_lambda_78 : decode cX7_lambda 78 = .ok (.aload_n 0, 1) := by decide +kernel
theorem dX7_lambda_79 : decode cX7_lambda 79 = .ok (.getfield 34, 3) := by decide +kernel
theorem dX7_lambda_82 : decode cX7_lambda 82 = .ok (.new 28, 3) := by decide +kernel
theorem dX7_lambda_85 : decode cX7_lambda 85 = .ok (.dup, 1) := by decide +kernel
theorem dX7_lambda_86 : decode cX7_lambda 86 = .ok (.aload 4, 2) := by decide +kernel
theorem dX7_lambda_88 : decode cX7_lambda 88 = .ok (.aload 5, 2) := by decide +kernel
theorem dX7_lambda_90 : decode cX7_lambda 90 = .ok (.aload 4, 2) := by decide +kernel
theorem dX7_lambda_92 : decode cX7_lambda 92 = .ok (.getfield 83, 3) := by decide +kernel
theorem dX7_lambda_95 : decode cX7_lambda 95 = .ok (.iload_n 2, 1) := by decide +kernel
theorem dX7_lambda_96 : decode cX7_lambda 96 = .ok (.invokevirtual 190, 3) := by decide +kernel
theorem dX7_lambda_99 : decode cX7_lambda 99 = .ok (.invokespecial 194, 3) := by decide +kernel
theorem dX7_lambda_102 : decode cX7_lambda 102 = .ok (.aastore, 1) := by decide +kernel
theorem dX7_lambda_103 : decode cX7_lambda 103 = .ok (.aload_n 0, 1) := by decide +kernel
theorem dX7_lambda_104 : decode cX7_lambda 104 = .ok (.dup, 1) := by decide +kernel
theorem dX7_lambda_105 : decode cX7_lambda 105 = .ok (.getfield 34, 3) := by decide +kernel
theorem dX7_lambda_108 : decode cX7_lambda 108 = .ok (.iconst 1, 1) := by decide +kernel
theorem dX7_lambda_109 : decode cX7_lambda 109 = .ok (.iadd, 1) := by decide +kernel
theorem dX7_lambda_110 : decode cX7_lambda 110 = .ok (.putfield 34, 3) := by decide +kernel
theorem dX7_lambda_113 : decode cX7_lambda 113 = .ok (.aload_n 0, 1) := by decide +kernel
theorem dX7_lambda_114 : decode cX7_lambda 114 = .ok (.getfield 34, 3) := by decide +kernel
theorem dX7_lambda_117 : decode cX7_lambda 117 = .ok (.iconst 1, 1) := by decide +kernel
theorem dX7_lambda_118 : decode cX7_lambda 118 = .ok (.isub, 1) := by decide +kernel
theorem dX7_lambda_119 : decode cX7_lambda 119 = .ok (.ireturn, 1) := by decide +kernel
theorem dX7_seen_0 : decode cX7_seen 0 = .ok (.aload_n 0, 1) := by decide +kernel
theorem dX7_seen_1 : decode cX7_seen 1 = .ok (.aload_n 0, 1) := by decide +kernel
theorem dX7_seen_2 : decode cX7_seen 2 = .ok (.iload_n 1, 1) := by decide +kernel
theorem dX7_seen_3 : decode cX7_seen 3 = .ok (.iload_n 2, 1) := by decide +kernel
theorem dX7_seen_4 : decode cX7_seen 4 = .ok (.invokevirtual 197, 3) := by decide +kernel
theorem dX7_seen_7 : decode cX7_seen 7 = .ok (.putfield 44, 3) := by decide +kernel
theorem dX7_seen_10 : decode cX7_seen 10 = .ok (.aload_n 0, 1) := by decide +kernel
theorem dX7_seen_11 : decode cX7_seen 11 = .ok (.getfield 44, 3) := by decide +kernel
theorem dX7_seen_14 : decode cX7_seen 14 = .ok (.ifCond .ne 13, 3) := by decide +kernel
theorem dX7_seen_17 : decode cX7_seen 17 = .ok (.aload_n 0, 1) := by decide +kernel
theorem dX7_seen_18 : decode cX7_seen 18 = .ok (.getfield 40, 3) := by decide +kernel
theorem dX7_seen_21 : decode cX7_seen 21 = .ok (.invokevirtual 170, 3) := by decide +kernel
theorem dX7_seen_24 : decode cX7_seen 24 = .ok (.goto 4, 3) := by decide +kernel
theorem dX7_seen_27 : decode cX7_seen 27 = .ok (.lconst 0, 1) := by decide +kernel
theorem dX7_seen_28 : decode cX7_seen 28 = .ok (.lreturn, 1) := by decide +kernel
theorem dX7_why_0 : decode cX7_why 0 = .ok (.aload_n 0, 1) := by decide +kernel
theorem dX7_why_1 : decode cX7_why 1 = .ok (.getfield 44, 3) := by decide +kernel
theorem dX7_why_4 : decode cX7_why 4 = .ok (.ireturn, 1) := by decide +kernel
theorem dX7_count_0 : decode cX7_count 0 = .ok (.iload_n 1, 1) := by decide +kernel
theorem dX7_count_1 : decode cX7_count 1 = .ok (.tableswitch 51 0 3 #[31, 36, 41, 46], 31) := by decide +kernel
theorem dX7_count_32 : decode cX7_count 32 = .ok (.aload_n 0, 1) := by decide +kernel
theorem dX7_count_33 : decode cX7_count 33 = .ok (.getfield 15, 3) := by decide +kernel
theorem dX7_count_36 : decode cX7_count 36 = .ok (.ireturn, 1) := by decide +kernel
theorem dX7_count_37 : decode cX7_count 37 = .ok (.aload_n 0, 1) := by decide +kernel
theorem dX7_count_38 : decode cX7_count 38 = .ok (.getfield 25, 3) := by decide +kernel
theorem dX7_count_41 : decode cX7_count 41 = .ok (.ireturn, 1) := by decide +kernel
theorem dX7_count_42 : decode cX7_count 42 = .ok (.aload_n 0, 1) := by decide +kernel
theorem dX7_count_43 : decode cX7_count 43 = .ok (.getfield 34, 3) := by decide +kernel
theorem dX7_count_46 : decode cX7_count 46 = .ok (.ireturn, 1) := by decide +kernel
theorem dX7_count_47 : decode cX7_count 47 = .ok (.aload_n 0, 1) := by decide +kernel
theorem dX7_count_48 : decode cX7_count 48 = .ok (.invokevirtual 200, 3) := by decide +kernel
theorem dX7_count_51 : decode cX7_count 51 = .ok (.ireturn, 1) := by decide +kernel
theorem dX7_count_52 : decode cX7_count 52 = .ok (.iconst (-1), 1) := by decide +kernel
theorem dX7_count_53 : decode cX7_count 53 = .ok (.ireturn, 1) := by decide +kernel
theorem dX7_typeAt_0 : decode cX7_typeAt 0 = .ok (.iload_n 1, 1) := by decide +kernel
theorem dX7_typeAt_1 : decode cX7_typeAt 1 = .ok (.ifCond .lt 20, 3) := by decide +kernel
theorem dX7_typeAt_4 : decode cX7_typeAt 4 = .ok (.iload_n 1, 1) := by decide +kernel
theorem dX7_typeAt_5 : decode cX7_typeAt 5 = .ok (.aload_n 0, 1) := by decide +kernel
theorem dX7_typeAt_6 : decode cX7_typeAt 6 = .ok (.getfield 15, 3) := by decide +kernel
theorem dX7_typeAt_9 : decode cX7_typeAt 9 = .ok (.if_icmp .ge 12, 3) := by decide +kernel
theorem dX7_typeAt_12 : decode cX7_typeAt 12 = .ok (.aload_n 0, 1) := by decide +kernel
theorem dX7_typeAt_13 : decode cX7_typeAt 13 = .ok (.getfield 11, 3) := by decide +kernel
theorem dX7_typeAt_16 : decode cX7_typeAt 16 = .ok (.iload_n 1, 1) := by decide +kernel
theorem dX7_typeAt_17 : decode cX7_typeAt 17 = .ok (.aaload, 1) := by decide +kernel
theorem dX7_typeAt_18 : decode cX7_typeAt 18 = .ok (.goto 4, 3) := by decide +kernel
theorem dX7_typeAt_21 : decode cX7_typeAt 21 = .ok (.aconst_null, 1) := by decide +kernel
theorem dX7_typeAt_22 : decode cX7_typeAt 22 = .ok (.areturn, 1) := by decide +kernel
theorem dX7_isPlace_0 : decode cX7_isPlace 0 = .ok (.iload_n 0, 1) := by decide +kernel
theorem dX7_isPlace_1 : decode cX7_isPlace 1 = .ok (.ifCond .lt 13, 3) := by decide +kernel
theorem dX7_isPlace_4 : decode cX7_isPlace 4 = .ok (.iload_n 0, 1) := by decide +kernel
theorem dX7_isPlace_5 : decode cX7_isPlace 5 = .ok (.bipush 8, 2) := by decide +kernel
theorem dX7_isPlace_7 : decode cX7_isPlace 7 = .ok (.if_icmp .ge 7, 3) := by decide +kernel
theorem dX7_isPlace_10 : decode cX7_isPlace 10 = .ok (.iconst 1, 1) := by decide +kernel
theorem dX7_isPlace_11 : decode cX7_isPlace 11 = .ok (.goto 4, 3) := by decide +kernel
theorem dX7_isPlace_14 : decode cX7_isPlace 14 = .ok (.iconst 0, 1) := by decide +kernel
theorem dX7_isPlace_15 : decode cX7_isPlace 15 = .ok (.ireturn, 1) := by decide +kernel
theorem dX7_isName_0 : decode cX7_isName 0 = .ok (.iload_n 0, 1) := by decide +kernel
theorem dX7_isName_1 : decode cX7_isName 1 = .ok (.ifCond .lt 13, 3) := by decide +kernel
theorem dX7_isName_4 : decode cX7_isName 4 = .ok (.iload_n 0, 1) := by decide +kernel
theorem dX7_isName_5 : decode cX7_isName 5 = .ok (.bipush 8, 2) := by decide +kernel
theorem dX7_isName_7 : decode cX7_isName 7 = .ok (.if_icmp .ge 7, 3) := by decide +kernel
theorem dX7_isName_10 : decode cX7_isName 10 = .ok (.iconst 1, 1) := by decide +kernel
theorem dX7_isName_11 : decode cX7_isName 11 = .ok (.goto 4, 3) := by decide +kernel
theorem dX7_isName_14 : decode cX7_isName 14 = .ok (.iconst 0, 1) := by decide +kernel
theorem dX7_isName_15 : decode cX7_isName 15 = .ok (.ireturn, 1) := by decide +kernel
theorem dX7_heldPlaces_0 : decode cX7_heldPlaces 0 = .ok (.iconst 0, 1) := by decide +kernel
theorem dX7_heldPlaces_1 : decode cX7_heldPlaces 1 = .ok (.istore_n 1, 1) := by decide +kernel
theorem dX7_heldPlaces_2 : decode cX7_heldPlaces 2 = .ok (.iconst 0, 1) := by decide +kernel
theorem dX7_heldPlaces_3 : decode cX7_heldPlaces 3 = .ok (.istore_n 2, 1) := by decide +kernel
theorem dX7_heldPlaces_4 : decode cX7_heldPlaces 4 = .ok (.iload_n 2, 1) := by decide +kernel
theorem dX7_heldPlaces_5 : decode cX7_heldPlaces 5 = .ok (.bipush 8, 2) := by decide +kernel
theorem dX7_heldPlaces_7 : decode cX7_heldPlaces 7 = .ok (.if_icmp .ge 21, 3) := by decide +kernel
theorem dX7_heldPlaces_10 : decode cX7_heldPlaces 10 = .ok (.aload_n 0, 1) := by decide +kernel
theorem dX7_heldPlaces_11 : decode cX7_heldPlaces 11 = .ok (.getfield 21, 3) := by decide +kernel
theorem dX7_heldPlaces_14 : decode cX7_heldPlaces 14 = .ok (.iload_n 2, 1) := by decide +kernel
theorem dX7_heldPlaces_15 : decode cX7_heldPlaces 15 = .ok (.aaload, 1) := by decide +kernel
theorem dX7_heldPlaces_16 : decode cX7_heldPlaces 16 = .ok (.ifnull 6, 3) := by decide +kernel
theorem dX7_heldPlaces_19 : decode cX7_heldPlaces 19 = .ok (.iinc 1 1, 3) := by decide +kernel
theorem dX7_heldPlaces_22 : decode cX7_heldPlaces 22 = .ok (.iinc 2 1, 3) := by decide +kernel
theorem dX7_heldPlaces_25 : decode cX7_heldPlaces 25 = .ok (.goto (-21), 3) := by decide +kernel
theorem dX7_heldPlaces_28 : decode cX7_heldPlaces 28 = .ok (.iload_n 1, 1) := by decide +kernel
theorem dX7_heldPlaces_29 : decode cX7_heldPlaces 29 = .ok (.ireturn, 1) := by decide +kernel
theorem dX7_isMember_0 : decode cX7_isMember 0 = .ok (.iload_n 0, 1) := by decide +kernel
theorem dX7_isMember_1 : decode cX7_isMember 1 = .ok (.iconst 1, 1) := by decide +kernel
theorem dX7_isMember_2 : decode cX7_isMember 2 = .ok (.if_icmp .eq 8, 3) := by decide +kernel
theorem dX7_isMember_5 : decode cX7_isMember 5 = .ok (.iload_n 0, 1) := by decide +kernel
theorem dX7_isMember_6 : decode cX7_isMember 6 = .ok (.iconst 2, 1) := by decide +kernel
theorem dX7_isMember_7 : decode cX7_isMember 7 = .ok (.if_icmp .ne 7, 3) := by decide +kernel
theorem dX7_isMember_10 : decode cX7_isMember 10 = .ok (.iconst 1, 1) := by decide +kernel
theorem dX7_isMember_11 : decode cX7_isMember 11 = .ok (.goto 4, 3) := by decide +kernel
theorem dX7_isMember_14 : decode cX7_isMember 14 = .ok (.iconst 0, 1) := by decide +kernel
theorem dX7_isMember_15 : decode cX7_isMember 15 = .ok (.ireturn, 1) := by decide +kernel
theorem dX7_standsInMethod_0 : decode cX7_standsInMethod 0 = .ok (.iload_n 0, 1) := by decide +kernel
theorem dX7_standsInMethod_1 : decode cX7_standsInMethod 1 = .ok (.iconst 3, 1) := by decide +kernel
theorem dX7_standsInMethod_2 : decode cX7_standsInMethod 2 = .ok (.if_icmp .eq 13, 3) := by decide +kernel
theorem dX7_standsInMethod_5 : decode cX7_standsInMethod 5 = .ok (.iload_n 0, 1) := by decide +kernel
theorem dX7_standsInMethod_6 : decode cX7_standsInMethod 6 = .ok (.iconst 4, 1) := by decide +kernel
theorem dX7_standsInMethod_7 : decode cX7_standsInMethod 7 = .ok (.if_icmp .eq 8, 3) := by decide +kernel
theorem dX7_standsInMethod_10 : decode cX7_standsInMethod 10 = .ok (.iload_n 0, 1) := by decide +kernel
theorem dX7_standsInMethod_11 : decode cX7_standsInMethod 11 = .ok (.iconst 5, 1) := by decide +kernel
theorem dX7_standsInMethod_12 : decode cX7_standsInMethod 12 = .ok (.if_icmp .ne 7, 3) := by decide +kernel
theorem dX7_standsInMethod_15 : decode cX7_standsInMethod 15 = .ok (.iconst 1, 1) := by decide +kernel
theorem dX7_standsInMethod_16 : decode cX7_standsInMethod 16 = .ok (.goto 4, 3) := by decide +kernel
theorem dX7_standsInMethod_19 : decode cX7_standsInMethod 19 = .ok (.iconst 0, 1) := by decide +kernel
theorem dX7_standsInMethod_20 : decode cX7_standsInMethod 20 = .ok (.ireturn, 1) := by decide +kernel
theorem dX7_isLetterTaken_0 : decode cX7_isLetterTaken 0 = .ok (.iload_n 1, 1) := by decide +kernel
theorem dX7_isLetterTaken_1 : decode cX7_isLetterTaken 1 = .ok (.iconst 5, 1) := by decide +kernel
theorem dX7_isLetterTaken_2 : decode cX7_isLetterTaken 2 = .ok (.if_icmp .ne 5, 3) := by decide +kernel
theorem dX7_isLetterTaken_5 : decode cX7_isLetterTaken 5 = .ok (.iconst 0, 1) := by decide +kernel
theorem dX7_isLetterTaken_6 : decode cX7_isLetterTaken 6 = .ok (.ireturn, 1) := by decide +kernel
theorem dX7_isLetterTaken_7 : decode cX7_isLetterTaken 7 = .ok (.iload_n 1, 1) := by decide +kernel
theorem dX7_isLetterTaken_8 : decode cX7_isLetterTaken 8 = .ok (.ifCond .ne 9, 3) := by decide +kernel
theorem dX7_isLetterTaken_11 : decode cX7_isLetterTaken 11 = .ok (.aload_n 0, 1) := by decide +kernel
theorem dX7_isLetterTaken_12 : decode cX7_isLetterTaken 12 = .ok (.iload_n 3, 1) := by decide +kernel
theorem dX7_isLetterTaken_13 : decode cX7_isLetterTaken 13 = .ok (.invokevirtual 203, 3) := by decide +kernel
theorem dX7_isLetterTaken_16 : decode cX7_isLetterTaken 16 = .ok (.ireturn, 1) := by decide +kernel
theorem dX7_isLetterTaken_17 : decode cX7_isLetterTaken 17 = .ok (.iload_n 1, 1) := by decide +kernel
theorem dX7_isLetterTaken_18 : decode cX7_isLetterTaken 18 = .ok (.invokestatic 206, 3) := by decide +kernel
theorem dX7_isLetterTaken_21 : decode cX7_isLetterTaken 21 = .ok (.ifCond .eq 14, 3) := by decide +kernel
theorem dX7_isLetterTaken_24 : decode cX7_isLetterTaken 24 = .ok (.aload_n 0, 1) := by decide +kernel
theorem dX7_isLetterTaken_25 : decode cX7_isLetterTaken 25 = .ok (.aload_n 2, 1) := by decide +kernel
theorem dX7_isLetterTaken_26 : decode cX7_isLetterTaken 26 = .ok (.iload_n 3, 1) := by decide +kernel
theorem dX7_isLetterTaken_27 : decode cX7_isLetterTaken 27 = .ok (.invokevirtual 209, 3) := by decide +kernel
theorem dX7_isLetterTaken_30 : decode cX7_isLetterTaken 30 = .ok (.ifCond .eq 5, 3) := by decide +kernel
theorem dX7_isLetterTaken_33 : decode cX7_isLetterTaken 33 = .ok (.iconst 1, 1) := by decide +kernel
theorem dX7_isLetterTaken_34 : decode cX7_isLetterTaken 34 = .ok (.ireturn, 1) := by decide +kernel
theorem dX7_isLetterTaken_35 : decode cX7_isLetterTaken 35 = .ok (.aload_n 2, 1) := by decide +kernel
theorem dX7_isLetterTaken_36 : decode cX7_isLetterTaken 36 = .ok (.astore 4, 2) := by decide +kernel
theorem dX7_isLetterTaken_38 : decode cX7_isLetterTaken 38 = .ok (.iconst 0, 1) := by decide +kernel
theorem dX7_isLetterTaken_39 : decode cX7_isLetterTaken 39 = .ok (.istore 5, 2) := by decide +kernel
theorem dX7_isLetterTaken_41 : decode cX7_isLetterTaken 41 = .ok (.aload 4, 2) := by decide +kernel
theorem dX7_isLetterTaken_43 : decode cX7_isLetterTaken 43 = .ok (.ifnull 34, 3) := by decide +kernel
theorem dX7_isLetterTaken_46 : decode cX7_isLetterTaken 46 = .ok (.iload 5, 2) := by decide +kernel
theorem dX7_isLetterTaken_48 : decode cX7_isLetterTaken 48 = .ok (.bipush 12, 2) := by decide +kernel
theorem dX7_isLetterTaken_50 : decode cX7_isLetterTaken 50 = .ok (.if_icmp .ge 27, 3) := by decide +kernel
theorem dX7_isLetterTaken_53 : decode cX7_isLetterTaken 53 = .ok (.aload 4, 2) := by decide +kernel
theorem dX7_isLetterTaken_55 : decode cX7_isLetterTaken 55 = .ok (.getfield 213, 3) := by decide +kernel
theorem dX7_isLetterTaken_58 : decode cX7_isLetterTaken 58 = .ok (.iload_n 3, 1) := by decide +kernel
theorem dX7_isLetterTaken_59 : decode cX7_isLetterTaken 59 = .ok (.if_icmp .ne 5, 3) := by decide +kernel
theorem dX7_isLetterTaken_62 : decode cX7_isLetterTaken 62 = .ok (.iconst 1, 1) := by decide +kernel
theorem dX7_isLetterTaken_63 : decode cX7_isLetterTaken 63 = .ok (.ireturn, 1) := by decide +kernel
theorem dX7_isLetterTaken_64 : decode cX7_isLetterTaken 64 = .ok (.aload 4, 2) := by decide +kernel
theorem dX7_isLetterTaken_66 : decode cX7_isLetterTaken 66 = .ok (.getfield 216, 3) := by decide +kernel
theorem dX7_isLetterTaken_69 : decode cX7_isLetterTaken 69 = .ok (.astore 4, 2) := by decide +kernel
theorem dX7_isLetterTaken_71 : decode cX7_isLetterTaken 71 = .ok (.iinc 5 1, 3) := by decide +kernel
theorem dX7_isLetterTaken_74 : decode cX7_isLetterTaken 74 = .ok (.goto (-33), 3) := by decide +kernel
theorem dX7_isLetterTaken_77 : decode cX7_isLetterTaken 77 = .ok (.iconst 0, 1) := by decide +kernel
theorem dX7_isLetterTaken_78 : decode cX7_isLetterTaken 78 = .ok (.ireturn, 1) := by decide +kernel
theorem dX7_hasTopWith_0 : decode cX7_hasTopWith 0 = .ok (.iconst 0, 1) := by decide +kernel
theorem dX7_hasTopWith_1 : decode cX7_hasTopWith 1 = .ok (.istore_n 2, 1) := by decide +kernel
theorem dX7_hasTopWith_2 : decode cX7_hasTopWith 2 = .ok (.iload_n 2, 1) := by decide +kernel
theorem dX7_hasTopWith_3 : decode cX7_hasTopWith 3 = .ok (.aload_n 0, 1) := by decide +kernel
theorem dX7_hasTopWith_4 : decode cX7_hasTopWith 4 = .ok (.getfield 15, 3) := by decide +kernel
theorem dX7_hasTopWith_7 : decode cX7_hasTopWith 7 = .ok (.if_icmp .ge 36, 3) := by decide +kernel
theorem dX7_hasTopWith_10 : decode cX7_hasTopWith 10 = .ok (.aload_n 0, 1) := by decide +kernel
theorem dX7_hasTopWith_11 : decode cX7_hasTopWith 11 = .ok (.getfield 11, 3) := by decide +kernel
theorem dX7_hasTopWith_14 : decode cX7_hasTopWith 14 = .ok (.iload_n 2, 1) := by decide +kernel
theorem dX7_hasTopWith_15 : decode cX7_hasTopWith 15 = .ok (.aaload, 1) := by decide +kernel
theorem dX7_hasTopWith_16 : decode cX7_hasTopWith 16 = .ok (.getfield 110, 3) := by decide +kernel
theorem dX7_hasTopWith_19 : decode cX7_hasTopWith 19 = .ok (.ifCond .ne 18, 3) := by decide +kernel
theorem dX7_hasTopWith_22 : decode cX7_hasTopWith 22 = .ok (.aload_n 0, 1) := by decide +kernel
theorem dX7_hasTopWith_23 : decode cX7_hasTopWith 23 = .ok (.getfield 11, 3) := by decide +kernel
theorem dX7_hasTopWith_26 : decode cX7_hasTopWith 26 = .ok (.iload_n 2, 1) := by decide +kernel
theorem dX7_hasTopWith_27 : decode cX7_hasTopWith 27 = .ok (.aaload, 1) := by decide +kernel
theorem dX7_hasTopWith_28 : decode cX7_hasTopWith 28 = .ok (.getfield 213, 3) := by decide +kernel
theorem dX7_hasTopWith_31 : decode cX7_hasTopWith 31 = .ok (.iload_n 1, 1) := by decide +kernel
theorem dX7_hasTopWith_32 : decode cX7_hasTopWith 32 = .ok (.if_icmp .ne 5, 3) := by decide +kernel
theorem dX7_hasTopWith_35 : decode cX7_hasTopWith 35 = .ok (.iconst 1, 1) := by decide +kernel
theorem dX7_hasTopWith_36 : decode cX7_hasTopWith 36 = .ok (.ireturn, 1) := by decide +kernel
theorem dX7_hasTopWith_37 : decode cX7_hasTopWith 37 = .ok (.iinc 2 1, 3) := by decide +kernel
theorem dX7_hasTopWith_40 : decode cX7_hasTopWith 40 = .ok (.goto (-38), 3) := by decide +kernel
theorem dX7_hasTopWith_43 : decode cX7_hasTopWith 43 = .ok (.iconst 0, 1) := by decide +kernel
theorem dX7_hasTopWith_44 : decode cX7_hasTopWith 44 = .ok (.ireturn, 1) := by decide +kernel
theorem dX7_hasMemberWith_0 : decode cX7_hasMemberWith 0 = .ok (.iconst 0, 1) := by decide +kernel
theorem dX7_hasMemberWith_1 : decode cX7_hasMemberWith 1 = .ok (.istore_n 3, 1) := by decide +kernel
theorem dX7_hasMemberWith_2 : decode cX7_hasMemberWith 2 = .ok (.iload_n 3, 1) := by decide +kernel
theorem dX7_hasMemberWith_3 : decode cX7_hasMemberWith 3 = .ok (.aload_n 0, 1) := by decide +kernel
theorem dX7_hasMemberWith_4 : decode cX7_hasMemberWith 4 = .ok (.getfield 15, 3) := by decide +kernel
theorem dX7_hasMemberWith_7 : decode cX7_hasMemberWith 7 = .ok (.if_icmp .ge 48, 3) := by decide +kernel
theorem dX7_hasMemberWith_10 : decode cX7_hasMemberWith 10 = .ok (.aload_n 0, 1) := by decide +kernel
theorem dX7_hasMemberWith_11 : decode cX7_hasMemberWith 11 = .ok (.getfield 11, 3) := by decide +kernel
theorem dX7_hasMemberWith_14 : decode cX7_hasMemberWith 14 = .ok (.iload_n 3, 1) := by decide +kernel
theorem dX7_hasMemberWith_15 : decode cX7_hasMemberWith 15 = .ok (.aaload, 1) := by decide +kernel
theorem dX7_hasMemberWith_16 : decode cX7_hasMemberWith 16 = .ok (.astore 4, 2) := by decide +kernel
theorem dX7_hasMemberWith_18 : decode cX7_hasMemberWith 18 = .ok (.aload 4, 2) := by decide +kernel
theorem dX7_hasMemberWith_20 : decode cX7_hasMemberWith 20 = .ok (.getfield 110, 3) := by decide +kernel
theorem dX7_hasMemberWith_23 : decode cX7_hasMemberWith 23 = .ok (.invokestatic 206, 3) := by decide +kernel
theorem dX7_hasMemberWith_26 : decode cX7_hasMemberWith 26 = .ok (.ifCond .eq 23, 3) := by decide +kernel
theorem dX7_hasMemberWith_29 : decode cX7_hasMemberWith 29 = .ok (.aload 4, 2) := by decide +kernel
theorem dX7_hasMemberWith_31 : decode cX7_hasMemberWith 31 = .ok (.getfield 216, 3) := by decide +kernel
theorem dX7_hasMemberWith_34 : decode cX7_hasMemberWith 34 = .ok (.aload_n 1, 1) := by decide +kernel
theorem dX7_hasMemberWith_35 : decode cX7_hasMemberWith 35 = .ok (.if_acmp .ne 14, 3) := by decide +kernel
theorem dX7_hasMemberWith_38 : decode cX7_hasMemberWith 38 = .ok (.aload 4, 2) := by decide +kernel
theorem dX7_hasMemberWith_40 : decode cX7_hasMemberWith 40 = .ok (.getfield 213, 3) := by decide +kernel
theorem dX7_hasMemberWith_43 : decode cX7_hasMemberWith 43 = .ok (.iload_n 2, 1) := by decide +kernel
theorem dX7_hasMemberWith_44 : decode cX7_hasMemberWith 44 = .ok (.if_icmp .ne 5, 3) := by decide +kernel
theorem dX7_hasMemberWith_47 : decode cX7_hasMemberWith 47 = .ok (.iconst 1, 1) := by decide +kernel
theorem dX7_hasMemberWith_48 : decode cX7_hasMemberWith 48 = .ok (.ireturn, 1) := by decide +kernel
theorem dX7_hasMemberWith_49 : decode cX7_hasMemberWith 49 = .ok (.iinc 3 1, 3) := by decide +kernel
theorem dX7_hasMemberWith_52 : decode cX7_hasMemberWith 52 = .ok (.goto (-50), 3) := by decide +kernel
theorem dX7_hasMemberWith_55 : decode cX7_hasMemberWith 55 = .ok (.iconst 0, 1) := by decide +kernel
theorem dX7_hasMemberWith_56 : decode cX7_hasMemberWith 56 = .ok (.ireturn, 1) := by decide +kernel
theorem dX7_twinNumber_0 : decode cX7_twinNumber 0 = .ok (.iload_n 1, 1) := by decide +kernel
theorem dX7_twinNumber_1 : decode cX7_twinNumber 1 = .ok (.invokestatic 219, 3) := by decide +kernel
theorem dX7_twinNumber_4 : decode cX7_twinNumber 4 = .ok (.ifCond .ne 5, 3) := by decide +kernel
theorem dX7_twinNumber_7 : decode cX7_twinNumber 7 = .ok (.iconst 0, 1) := by decide +kernel
theorem dX7_twinNumber_8 : decode cX7_twinNumber 8 = .ok (.ireturn, 1) := by decide +kernel
theorem dX7_twinNumber_9 : decode cX7_twinNumber 9 = .ok (.iconst 1, 1) := by decide +kernel
theorem dX7_twinNumber_10 : decode cX7_twinNumber 10 = .ok (.istore 4, 2) := by decide +kernel
theorem dX7_twinNumber_12 : decode cX7_twinNumber 12 = .ok (.iconst 0, 1) := by decide +kernel
theorem dX7_twinNumber_13 : decode cX7_twinNumber 13 = .ok (.istore 5, 2) := by decide +kernel
theorem dX7_twinNumber_15 : decode cX7_twinNumber 15 = .ok (.iload 5, 2) := by decide +kernel
theorem dX7_twinNumber_17 : decode cX7_twinNumber 17 = .ok (.aload_n 0, 1) := by decide +kernel
theorem dX7_twinNumber_18 : decode cX7_twinNumber 18 = .ok (.getfield 15, 3) := by decide +kernel
theorem dX7_twinNumber_21 : decode cX7_twinNumber 21 = .ok (.if_icmp .ge 50, 3) := by decide +kernel
theorem dX7_twinNumber_24 : decode cX7_twinNumber 24 = .ok (.aload_n 0, 1) := by decide +kernel
theorem dX7_twinNumber_25 : decode cX7_twinNumber 25 = .ok (.getfield 11, 3) := by decide +kernel
theorem dX7_twinNumber_28 : decode cX7_twinNumber 28 = .ok (.iload 5, 2) := by decide +kernel
theorem dX7_twinNumber_30 : decode cX7_twinNumber 30 = .ok (.aaload, 1) := by decide +kernel
theorem dX7_twinNumber_31 : decode cX7_twinNumber 31 = .ok (.astore 6, 2) := by decide +kernel
theorem dX7_twinNumber_33 : decode cX7_twinNumber 33 = .ok (.aload 6, 2) := by decide +kernel
theorem dX7_twinNumber_35 : decode cX7_twinNumber 35 = .ok (.getfield 110, 3) := by decide +kernel
theorem dX7_twinNumber_38 : decode cX7_twinNumber 38 = .ok (.invokestatic 219, 3) := by decide +kernel
theorem dX7_twinNumber_41 : decode cX7_twinNumber 41 = .ok (.ifCond .eq 24, 3) := by decide +kernel
theorem dX7_twinNumber_44 : decode cX7_twinNumber 44 = .ok (.aload 6, 2) := by decide +kernel
theorem dX7_twinNumber_46 : decode cX7_twinNumber 46 = .ok (.getfield 216, 3) := by decide +kernel
theorem dX7_twinNumber_49 : decode cX7_twinNumber 49 = .ok (.aload_n 2, 1) := by decide +kernel
theorem dX7_twinNumber_50 : decode cX7_twinNumber 50 = .ok (.if_acmp .ne 15, 3) := by decide +kernel
theorem dX7_twinNumber_53 : decode cX7_twinNumber 53 = .ok (.aload 6, 2) := by decide +kernel
theorem dX7_twinNumber_55 : decode cX7_twinNumber 55 = .ok (.getfield 213, 3) := by decide +kernel
theorem dX7_twinNumber_58 : decode cX7_twinNumber 58 = .ok (.iload_n 3, 1) := by decide +kernel
theorem dX7_twinNumber_59 : decode cX7_twinNumber 59 = .ok (.if_icmp .ne 6, 3) := by decide +kernel
theorem dX7_twinNumber_62 : decode cX7_twinNumber 62 = .ok (.iinc 4 1, 3) := by decide +kernel
theorem dX7_twinNumber_65 : decode cX7_twinNumber 65 = .ok (.iinc 5 1, 3) := by decide +kernel
theorem dX7_twinNumber_68 : decode cX7_twinNumber 68 = .ok (.goto (-53), 3) := by decide +kernel
theorem dX7_twinNumber_71 : decode cX7_twinNumber 71 = .ok (.iload 4, 2) := by decide +kernel
theorem dX7_twinNumber_73 : decode cX7_twinNumber 73 = .ok (.ireturn, 1) := by decide +kernel
theorem dX7_hasTypeInMethod_0 : decode cX7_hasTypeInMethod 0 = .ok (.iconst 0, 1) := by decide +kernel
theorem dX7_hasTypeInMethod_1 : decode cX7_hasTypeInMethod 1 = .ok (.istore_n 2, 1) := by decide +kernel
theorem dX7_hasTypeInMethod_2 : decode cX7_hasTypeInMethod 2 = .ok (.iload_n 2, 1) := by decide +kernel
theorem dX7_hasTypeInMethod_3 : decode cX7_hasTypeInMethod 3 = .ok (.aload_n 0, 1) := by decide +kernel
theorem dX7_hasTypeInMethod_4 : decode cX7_hasTypeInMethod 4 = .ok (.getfield 15, 3) := by decide +kernel
theorem dX7_hasTypeInMethod_7 : decode cX7_hasTypeInMethod 7 = .ok (.if_icmp .ge 39, 3) := by decide +kernel
theorem dX7_hasTypeInMethod_10 : decode cX7_hasTypeInMethod 10 = .ok (.aload_n 0, 1) := by decide +kernel
theorem dX7_hasTypeInMethod_11 : decode cX7_hasTypeInMethod 11 = .ok (.getfield 11, 3) := by decide +kernel
theorem dX7_hasTypeInMethod_14 : decode cX7_hasTypeInMethod 14 = .ok (.iload_n 2, 1) := by decide +kernel
theorem dX7_hasTypeInMethod_15 : decode cX7_hasTypeInMethod 15 = .ok (.aaload, 1) := by decide +kernel
theorem dX7_hasTypeInMethod_16 : decode cX7_hasTypeInMethod 16 = .ok (.getfield 110, 3) := by decide +kernel
theorem dX7_hasTypeInMethod_19 : decode cX7_hasTypeInMethod 19 = .ok (.invokestatic 219, 3) := by decide +kernel
theorem dX7_hasTypeInMethod_22 : decode cX7_hasTypeInMethod 22 = .ok (.ifCond .eq 18, 3) := by decide +kernel
theorem dX7_hasTypeInMethod_25 : decode cX7_hasTypeInMethod 25 = .ok (.aload_n 0, 1) := by decide +kernel
theorem dX7_hasTypeInMethod_26 : decode cX7_hasTypeInMethod 26 = .ok (.getfield 11, 3) := by decide +kernel
theorem dX7_hasTypeInMethod_29 : decode cX7_hasTypeInMethod 29 = .ok (.iload_n 2, 1) := by decide +kernel
theorem dX7_hasTypeInMethod_30 : decode cX7_hasTypeInMethod 30 = .ok (.aaload, 1) := by decide +kernel
theorem dX7_hasTypeInMethod_31 : decode cX7_hasTypeInMethod 31 = .ok (.getfield 216, 3) := by decide +kernel
theorem dX7_hasTypeInMethod_34 : decode cX7_hasTypeInMethod 34 = .ok (.aload_n 1, 1) := by decide +kernel
theorem dX7_hasTypeInMethod_35 : decode cX7_hasTypeInMethod 35 = .ok (.if_acmp .ne 5, 3) := by decide +kernel
theorem dX7_hasTypeInMethod_38 : decode cX7_hasTypeInMethod 38 = .ok (.iconst 1, 1) := by decide +kernel
theorem dX7_hasTypeInMethod_39 : decode cX7_hasTypeInMethod 39 = .ok (.ireturn, 1) := by decide +kernel
theorem dX7_hasTypeInMethod_40 : decode cX7_hasTypeInMethod 40 = .ok (.iinc 2 1, 3) := by decide +kernel
theorem dX7_hasTypeInMethod_43 : decode cX7_hasTypeInMethod 43 = .ok (.goto (-41), 3) := by decide +kernel
theorem dX7_hasTypeInMethod_46 : decode cX7_hasTypeInMethod 46 = .ok (.iconst 0, 1) := by decide +kernel
theorem dX7_hasTypeInMethod_47 : decode cX7_hasTypeInMethod 47 = .ok (.ireturn, 1) := by decide +kernel
theorem dX7_isSameOrAbove_0 : decode cX7_isSameOrAbove 0 = .ok (.aload_n 1, 1) := by decide +kernel
theorem dX7_isSameOrAbove_1 : decode cX7_isSameOrAbove 1 = .ok (.astore_n 2, 1) := by decide +kernel
theorem dX7_isSameOrAbove_2 : decode cX7_isSameOrAbove 2 = .ok (.iconst 0, 1) := by decide +kernel
theorem dX7_isSameOrAbove_3 : decode cX7_isSameOrAbove 3 = .ok (.istore_n 3, 1) := by decide +kernel
theorem dX7_isSameOrAbove_4 : decode cX7_isSameOrAbove 4 = .ok (.aload_n 2, 1) := by decide +kernel
theorem dX7_isSameOrAbove_5 : decode cX7_isSameOrAbove 5 = .ok (.ifnull 27, 3) := by decide +kernel
theorem dX7_isSameOrAbove_8 : decode cX7_isSameOrAbove 8 = .ok (.iload_n 3, 1) := by decide +kernel
theorem dX7_isSameOrAbove_9 : decode cX7_isSameOrAbove 9 = .ok (.bipush 12, 2) := by decide +kernel
theorem dX7_isSameOrAbove_11 : decode cX7_isSameOrAbove 11 = .ok (.if_icmp .ge 21, 3) := by decide +kernel
theorem dX7_isSameOrAbove_14 : decode cX7_isSameOrAbove 14 = .ok (.aload_n 2, 1) := by decide +kernel
theorem dX7_isSameOrAbove_15 : decode cX7_isSameOrAbove 15 = .ok (.aload_n 0, 1) := by decide +kernel
theorem dX7_isSameOrAbove_16 : decode cX7_isSameOrAbove 16 = .ok (.if_acmp .ne 5, 3) := by decide +kernel
theorem dX7_isSameOrAbove_19 : decode cX7_isSameOrAbove 19 = .ok (.iconst 1, 1) := by decide +kernel
theorem dX7_isSameOrAbove_20 : decode cX7_isSameOrAbove 20 = .ok (.ireturn, 1) := by decide +kernel
theorem dX7_isSameOrAbove_21 : decode cX7_isSameOrAbove 21 = .ok (.aload_n 2, 1) := by decide +kernel
theorem dX7_isSameOrAbove_22 : decode cX7_isSameOrAbove 22 = .ok (.getfield 113, 3) := by decide +kernel
theorem dX7_isSameOrAbove_25 : decode cX7_isSameOrAbove 25 = .ok (.astore_n 2, 1) := by decide +kernel
theorem dX7_isSameOrAbove_26 : decode cX7_isSameOrAbove 26 = .ok (.iinc 3 1, 3) := by decide +kernel
theorem dX7_isSameOrAbove_29 : decode cX7_isSameOrAbove 29 = .ok (.goto (-25), 3) := by decide +kernel
theorem dX7_isSameOrAbove_32 : decode cX7_isSameOrAbove 32 = .ok (.iconst 0, 1) := by decide +kernel
theorem dX7_isSameOrAbove_33 : decode cX7_isSameOrAbove 33 = .ok (.ireturn, 1) := by decide +kernel
theorem dX7_makeInto_0 : decode cX7_makeInto 0 = .ok (.aload_n 0, 1) := by decide +kernel
theorem dX7_makeInto_1 : decode cX7_makeInto 1 = .ok (.iload_n 1, 1) := by decide +kernel
theorem dX7_makeInto_2 : decode cX7_makeInto 2 = .ok (.invokevirtual 47, 3) := by decide +kernel
theorem dX7_makeInto_5 : decode cX7_makeInto 5 = .ok (.astore 4, 2) := by decide +kernel
theorem dX7_makeInto_7 : decode cX7_makeInto 7 = .ok (.aload 4, 2) := by decide +kernel
theorem dX7_makeInto_9 : decode cX7_makeInto 9 = .ok (.ifnull 10, 3) := by decide +kernel
theorem dX7_makeInto_12 : decode cX7_makeInto 12 = .ok (.iload_n 3, 1) := by decide +kernel
theorem dX7_makeInto_13 : decode cX7_makeInto 13 = .ok (.invokestatic 139, 3) := by decide +kernel
theorem dX7_makeInto_16 : decode cX7_makeInto 16 = .ok (.ifCond .ne 5, 3) := by decide +kernel
theorem dX7_makeInto_19 : decode cX7_makeInto 19 = .ok (.iconst (-1), 1) := by decide +kernel
theorem dX7_makeInto_20 : decode cX7_makeInto 20 = .ok (.ireturn, 1) := by decide +kernel
theorem dX7_makeInto_21 : decode cX7_makeInto 21 = .ok (.aconst_null, 1) := by decide +kernel
theorem dX7_makeInto_22 : decode cX7_makeInto 22 = .ok (.astore 5, 2) := by decide +kernel
theorem dX7_makeInto_24 : decode cX7_makeInto 24 = .ok (.aload 4, 2) := by decide +kernel
theorem dX7_makeInto_26 : decode cX7_makeInto 26 = .ok (.getfield 222, 3) := by decide +kernel
theorem dX7_makeInto_29 : decode cX7_makeInto 29 = .ok (.ifCond .eq 42, 3) := by decide +kernel
theorem dX7_makeInto_32 : decode cX7_makeInto 32 = .ok (.iload_n 2, 1) := by decide +kernel
theorem dX7_makeInto_33 : decode cX7_makeInto 33 = .ok (.invokestatic 139, 3) := by decide +kernel
theorem dX7_makeInto_36 : decode cX7_makeInto 36 = .ok (.ifCond .ne 5, 3) := by decide +kernel
theorem dX7_makeInto_39 : decode cX7_makeInto 39 = .ok (.iconst (-1), 1) := by decide +kernel
theorem dX7_makeInto_40 : decode cX7_makeInto 40 = .ok (.ireturn, 1) := by decide +kernel
theorem dX7_makeInto_41 : decode cX7_makeInto 41 = .ok (.aload_n 0, 1) := by decide +kernel
theorem dX7_makeInto_42 : decode cX7_makeInto 42 = .ok (.getfield 21, 3) := by decide +kernel
theorem dX7_makeInto_45 : decode cX7_makeInto 45 = .ok (.iload_n 2, 1) := by decide +kernel
theorem dX7_makeInto_46 : decode cX7_makeInto 46 = .ok (.aaload, 1) := by decide +kernel
theorem dX7_makeInto_47 : decode cX7_makeInto 47 = .ok (.astore 5, 2) := by decide +kernel
theorem dX7_makeInto_49 : decode cX7_makeInto 49 = .ok (.aload 5, 2) := by decide +kernel
theorem dX7_makeInto_51 : decode cX7_makeInto 51 = .ok (.ifnonnull 5, 3) := by decide +kernel
theorem dX7_makeInto_54 : decode cX7_makeInto 54 = .ok (.iconst 1, 1) := by decide +kernel
theorem dX7_makeInto_55 : decode cX7_makeInto 55 = .ok (.ireturn, 1) := by decide +kernel
theorem dX7_makeInto_56 : decode cX7_makeInto 56 = .ok (.aload 5, 2) := by decide +kernel
theorem dX7_makeInto_58 : decode cX7_makeInto 58 = .ok (.aload 4, 2) := by decide +kernel
theorem dX7_makeInto_60 : decode cX7_makeInto 60 = .ok (.getfield 216, 3) := by decide +kernel
theorem dX7_makeInto_63 : decode cX7_makeInto 63 = .ok (.invokevirtual 156, 3) := by decide +kernel
theorem dX7_makeInto_66 : decode cX7_makeInto 66 = .ok (.ifnonnull 5, 3) := by decide +kernel
theorem dX7_makeInto_69 : decode cX7_makeInto 69 = .ok (.iconst 2, 1) := by decide +kernel
theorem dX7_makeInto_70 : decode cX7_makeInto 70 = .ok (.ireturn, 1) := by decide +kernel
theorem dX7_makeInto_71 : decode cX7_makeInto 71 = .ok (.aload 4, 2) := by decide +kernel
theorem dX7_makeInto_73 : decode cX7_makeInto 73 = .ok (.aload 5, 2) := by decide +kernel
theorem dX7_makeInto_75 : decode cX7_makeInto 75 = .ok (.invokestatic 225, 3) := by decide +kernel
theorem dX7_makeInto_78 : decode cX7_makeInto 78 = .ok (.astore 6, 2) := by decide +kernel
theorem dX7_makeInto_80 : decode cX7_makeInto 80 = .ok (.aload 6, 2) := by decide +kernel
theorem dX7_makeInto_82 : decode cX7_makeInto 82 = .ok (.ifnonnull 5, 3) := by decide +kernel
theorem dX7_makeInto_85 : decode cX7_makeInto 85 = .ok (.iconst 3, 1) := by decide +kernel
theorem dX7_makeInto_86 : decode cX7_makeInto 86 = .ok (.ireturn, 1) := by decide +kernel
theorem dX7_makeInto_87 : decode cX7_makeInto 87 = .ok (.aload_n 0, 1) := by decide +kernel
theorem dX7_makeInto_88 : decode cX7_makeInto 88 = .ok (.getfield 21, 3) := by decide +kernel
theorem dX7_makeInto_91 : decode cX7_makeInto 91 = .ok (.iload_n 3, 1) := by decide +kernel
theorem dX7_makeInto_92 : decode cX7_makeInto 92 = .ok (.new 19, 3) := by decide +kernel
theorem dX7_makeInto_95 : decode cX7_makeInto 95 = .ok (.dup, 1) := by decide +kernel
theorem dX7_makeInto_96 : decode cX7_makeInto 96 = .ok (.aload 4, 2) := by decide +kernel
theorem dX7_makeInto_98 : decode cX7_makeInto 98 = .ok (.aload 6, 2) := by decide +kernel
theorem dX7_makeInto_100 : decode cX7_makeInto 100 = .ok (.invokespecial 229, 3) := by decide +kernel
theorem dX7_makeInto_103 : decode cX7_makeInto 103 = .ok (.aastore, 1) := by decide +kernel
theorem dX7_makeInto_104 : decode cX7_makeInto 104 = .ok (.aload_n 0, 1) := by decide +kernel
theorem dX7_makeInto_105 : decode cX7_makeInto 105 = .ok (.dup, 1) := by decide +kernel
theorem dX7_makeInto_106 : decode cX7_makeInto 106 = .ok (.getfield 25, 3) := by decide +kernel
theorem dX7_makeInto_109 : decode cX7_makeInto 109 = .ok (.iconst 1, 1) := by decide +kernel
theorem dX7_makeInto_110 : decode cX7_makeInto 110 = .ok (.iadd, 1) := by decide +kernel
theorem dX7_makeInto_111 : decode cX7_makeInto 111 = .ok (.putfield 25, 3) := by decide +kernel
theorem dX7_makeInto_114 : decode cX7_makeInto 114 = .ok (.iconst 0, 1) := by decide +kernel
theorem dX7_makeInto_115 : decode cX7_makeInto 115 = .ok (.ireturn, 1) := by decide +kernel
theorem dX7_levelCount_0 : decode cX7_levelCount 0 = .ok (.iconst 0, 1) := by decide +kernel
theorem dX7_levelCount_1 : decode cX7_levelCount 1 = .ok (.istore_n 1, 1) := by decide +kernel
theorem dX7_levelCount_2 : decode cX7_levelCount 2 = .ok (.aload_n 0, 1) := by decide +kernel
theorem dX7_levelCount_3 : decode cX7_levelCount 3 = .ok (.astore_n 2, 1) := by decide +kernel
theorem dX7_levelCount_4 : decode cX7_levelCount 4 = .ok (.aload_n 2, 1) := by decide +kernel
theorem dX7_levelCount_5 : decode cX7_levelCount 5 = .ok (.ifnull 20, 3) := by decide +kernel
theorem dX7_levelCount_8 : decode cX7_levelCount 8 = .ok (.iload_n 1, 1) := by decide +kernel
theorem dX7_levelCount_9 : decode cX7_levelCount 9 = .ok (.bipush 12, 2) := by decide +kernel
theorem dX7_levelCount_11 : decode cX7_levelCount 11 = .ok (.if_icmp .ge 14, 3) := by decide +kernel
theorem dX7_levelCount_14 : decode cX7_levelCount 14 = .ok (.iinc 1 1, 3) := by decide +kernel
theorem dX7_levelCount_17 : decode cX7_levelCount 17 = .ok (.aload_n 2, 1) := by decide +kernel
theorem dX7_levelCount_18 : decode cX7_levelCount 18 = .ok (.getfield 113, 3) := by decide +kernel
theorem dX7_levelCount_21 : decode cX7_levelCount 21 = .ok (.astore_n 2, 1) := by decide +kernel
theorem dX7_levelCount_22 : decode cX7_levelCount 22 = .ok (.goto (-18), 3) := by decide +kernel
theorem dX7_levelCount_25 : decode cX7_levelCount 25 = .ok (.iload_n 1, 1) := by decide +kernel
theorem dX7_levelCount_26 : decode cX7_levelCount 26 = .ok (.ireturn, 1) := by decide +kernel
theorem dX7_levelsFor_0 : decode cX7_levelsFor 0 = .ok (.aload_n 0, 1) := by decide +kernel
theorem dX7_levelsFor_1 : decode cX7_levelsFor 1 = .ok (.invokestatic 232, 3) := by decide +kernel
theorem dX7_levelsFor_4 : decode cX7_levelsFor 4 = .ok (.anewarray 161, 3) := by decide +kernel
theorem dX7_levelsFor_7 : decode cX7_levelsFor 7 = .ok (.astore_n 2, 1) := by decide +kernel
theorem dX7_levelsFor_8 : decode cX7_levelsFor 8 = .ok (.aload_n 0, 1) := by decide +kernel
theorem dX7_levelsFor_9 : decode cX7_levelsFor 9 = .ok (.astore_n 3, 1) := by decide +kernel
theorem dX7_levelsFor_10 : decode cX7_levelsFor 10 = .ok (.iconst 0, 1) := by decide +kernel
theorem dX7_levelsFor_11 : decode cX7_levelsFor 11 = .ok (.istore 4, 2) := by decide +kernel
theorem dX7_levelsFor_13 : decode cX7_levelsFor 13 = .ok (.iload 4, 2) := by decide +kernel
theorem dX7_levelsFor_15 : decode cX7_levelsFor 15 = .ok (.aload_n 2, 1) := by decide +kernel
theorem dX7_levelsFor_16 : decode cX7_levelsFor 16 = .ok (.arraylength, 1) := by decide +kernel
theorem dX7_levelsFor_17 : decode cX7_levelsFor 17 = .ok (.if_icmp .ge 69, 3) := by decide +kernel
theorem dX7_levelsFor_20 : decode cX7_levelsFor 20 = .ok (.aload_n 3, 1) := by decide +kernel
theorem dX7_levelsFor_21 : decode cX7_levelsFor 21 = .ok (.ifnull 65, 3) := by decide +kernel
theorem dX7_levelsFor_24 : decode cX7_levelsFor 24 = .ok (.aconst_null, 1) := by decide +kernel
theorem dX7_levelsFor_25 : decode cX7_levelsFor 25 = .ok (.astore 5, 2) := by decide +kernel
theorem dX7_levelsFor_27 : decode cX7_levelsFor 27 = .ok (.aload_n 3, 1) := by decide +kernel
theorem dX7_levelsFor_28 : decode cX7_levelsFor 28 = .ok (.getfield 222, 3) := by decide +kernel
theorem dX7_levelsFor_31 : decode cX7_levelsFor 31 = .ok (.ifCond .eq 30, 3) := by decide +kernel
theorem dX7_levelsFor_34 : decode cX7_levelsFor 34 = .ok (.iload 4, 2) := by decide +kernel
theorem dX7_levelsFor_36 : decode cX7_levelsFor 36 = .ok (.ifCond .ne 7, 3) := by decide +kernel
theorem dX7_levelsFor_39 : decode cX7_levelsFor 39 = .ok (.aload_n 1, 1) := by decide +kernel
theorem dX7_levelsFor_40 : decode cX7_levelsFor 40 = .ok (.goto 12, 3) := by decide +kernel
theorem dX7_levelsFor_43 : decode cX7_levelsFor 43 = .ok (.aload_n 3, 1) := by decide +kernel
theorem dX7_levelsFor_44 : decode cX7_levelsFor 44 = .ok (.getfield 216, 3) := by decide +kernel
theorem dX7_levelsFor_47 : decode cX7_levelsFor 47 = .ok (.aload_n 0, 1) := by decide +kernel
theorem dX7_levelsFor_48 : decode cX7_levelsFor 48 = .ok (.aload_n 1, 1) := by decide +kernel
theorem dX7_levelsFor_49 : decode cX7_levelsFor 49 = .ok (.invokestatic 236, 3) := by decide +kernel
theorem dX7_levelsFor_52 : decode cX7_levelsFor 52 = .ok (.astore 5, 2) := by decide +kernel
theorem dX7_levelsFor_54 : decode cX7_levelsFor 54 = .ok (.aload 5, 2) := by decide +kernel
theorem dX7_levelsFor_56 : decode cX7_levelsFor 56 = .ok (.ifnonnull 5, 3) := by decide +kernel
theorem dX7_levelsFor_59 : decode cX7_levelsFor 59 = .ok (.aconst_null, 1) := by decide +kernel
theorem dX7_levelsFor_60 : decode cX7_levelsFor 60 = .ok (.areturn, 1) := by decide +kernel
theorem dX7_levelsFor_61 : decode cX7_levelsFor 61 = .ok (.aload_n 2, 1) := by decide +kernel
theorem dX7_levelsFor_62 : decode cX7_levelsFor 62 = .ok (.iload 4, 2) := by decide +kernel
theorem dX7_levelsFor_64 : decode cX7_levelsFor 64 = .ok (.new 161, 3) := by decide +kernel
theorem dX7_levelsFor_67 : decode cX7_levelsFor 67 = .ok (.dup, 1) := by decide +kernel
theorem dX7_levelsFor_68 : decode cX7_levelsFor 68 = .ok (.aload_n 3, 1) := by decide +kernel
theorem dX7_levelsFor_69 : decode cX7_levelsFor 69 = .ok (.aload 5, 2) := by decide +kernel
theorem dX7_levelsFor_71 : decode cX7_levelsFor 71 = .ok (.invokespecial 240, 3) := by decide +kernel
theorem dX7_levelsFor_74 : decode cX7_levelsFor 74 = .ok (.aastore, 1) := by decide +kernel
theorem dX7_levelsFor_75 : decode cX7_levelsFor 75 = .ok (.aload_n 3, 1) := by decide +kernel
theorem dX7_levelsFor_76 : decode cX7_levelsFor 76 = .ok (.getfield 113, 3) := by decide +kernel
theorem dX7_levelsFor_79 : decode cX7_levelsFor 79 = .ok (.astore_n 3, 1) := by decide +kernel
theorem dX7_levelsFor_80 : decode cX7_levelsFor 80 = .ok (.iinc 4 1, 3) := by decide +kernel
theorem dX7_levelsFor_83 : decode cX7_levelsFor 83 = .ok (.goto (-70), 3) := by decide +kernel
theorem dX7_levelsFor_86 : decode cX7_levelsFor 86 = .ok (.aload_n 2, 1) := by decide +kernel
theorem dX7_levelsFor_87 : decode cX7_levelsFor 87 = .ok (.areturn, 1) := by decide +kernel
theorem dX7_nearestOf_0 : decode cX7_nearestOf 0 = .ok (.aload_n 2, 1) := by decide +kernel
theorem dX7_nearestOf_1 : decode cX7_nearestOf 1 = .ok (.astore_n 3, 1) := by decide +kernel
theorem dX7_nearestOf_2 : decode cX7_nearestOf 2 = .ok (.aload_n 1, 1) := by decide +kernel
theorem dX7_nearestOf_3 : decode cX7_nearestOf 3 = .ok (.getfield 216, 3) := by decide +kernel
theorem dX7_nearestOf_6 : decode cX7_nearestOf 6 = .ok (.astore 4, 2) := by decide +kernel
theorem dX7_nearestOf_8 : decode cX7_nearestOf 8 = .ok (.iconst 0, 1) := by decide +kernel
theorem dX7_nearestOf_9 : decode cX7_nearestOf 9 = .ok (.istore 5, 2) := by decide +kernel
theorem dX7_nearestOf_11 : decode cX7_nearestOf 11 = .ok (.aload_n 3, 1) := by decide +kernel
theorem dX7_nearestOf_12 : decode cX7_nearestOf 12 = .ok (.ifnull 45, 3) := by decide +kernel
theorem dX7_nearestOf_15 : decode cX7_nearestOf 15 = .ok (.aload 4, 2) := by decide +kernel
theorem dX7_nearestOf_17 : decode cX7_nearestOf 17 = .ok (.ifnull 40, 3) := by decide +kernel
theorem dX7_nearestOf_20 : decode cX7_nearestOf 20 = .ok (.iload 5, 2) := by decide +kernel
theorem dX7_nearestOf_22 : decode cX7_nearestOf 22 = .ok (.bipush 12, 2) := by decide +kernel
theorem dX7_nearestOf_24 : decode cX7_nearestOf 24 = .ok (.if_icmp .ge 33, 3) := by decide +kernel
theorem dX7_nearestOf_27 : decode cX7_nearestOf 27 = .ok (.aload_n 3, 1) := by decide +kernel
theorem dX7_nearestOf_28 : decode cX7_nearestOf 28 = .ok (.aload_n 0, 1) := by decide +kernel
theorem dX7_nearestOf_29 : decode cX7_nearestOf 29 = .ok (.invokevirtual 156, 3) := by decide +kernel
theorem dX7_nearestOf_32 : decode cX7_nearestOf 32 = .ok (.ifnull 5, 3) := by decide +kernel
theorem dX7_nearestOf_35 : decode cX7_nearestOf 35 = .ok (.aload_n 3, 1) := by decide +kernel
theorem dX7_nearestOf_36 : decode cX7_nearestOf 36 = .ok (.areturn, 1) := by decide +kernel
theorem dX7_nearestOf_37 : decode cX7_nearestOf 37 = .ok (.aload_n 3, 1) := by decide +kernel
theorem dX7_nearestOf_38 : decode cX7_nearestOf 38 = .ok (.aload 4, 2) := by decide +kernel
theorem dX7_nearestOf_40 : decode cX7_nearestOf 40 = .ok (.invokevirtual 152, 3) := by decide +kernel
theorem dX7_nearestOf_43 : decode cX7_nearestOf 43 = .ok (.astore_n 3, 1) := by decide +kernel
theorem dX7_nearestOf_44 : decode cX7_nearestOf 44 = .ok (.aload 4, 2) := by decide +kernel
theorem dX7_nearestOf_46 : decode cX7_nearestOf 46 = .ok (.getfield 216, 3) := by decide +kernel
theorem dX7_nearestOf_49 : decode cX7_nearestOf 49 = .ok (.astore 4, 2) := by decide +kernel
theorem dX7_nearestOf_51 : decode cX7_nearestOf 51 = .ok (.iinc 5 1, 3) := by decide +kernel
theorem dX7_nearestOf_54 : decode cX7_nearestOf 54 = .ok (.goto (-43), 3) := by decide +kernel
theorem dX7_nearestOf_57 : decode cX7_nearestOf 57 = .ok (.aconst_null, 1) := by decide +kernel
theorem dX7_nearestOf_58 : decode cX7_nearestOf 58 = .ok (.areturn, 1) := by decide +kernel
theorem dX7_findFromPlace_0 : decode cX7_findFromPlace 0 = .ok (.iload_n 1, 1) := by decide +kernel
theorem dX7_findFromPlace_1 : decode cX7_findFromPlace 1 = .ok (.invokestatic 139, 3) := by decide +kernel
theorem dX7_findFromPlace_4 : decode cX7_findFromPlace 4 = .ok (.ifCond .eq 10, 3) := by decide +kernel
theorem dX7_findFromPlace_7 : decode cX7_findFromPlace 7 = .ok (.iload_n 2, 1) := by decide +kernel
theorem dX7_findFromPlace_8 : decode cX7_findFromPlace 8 = .ok (.invokestatic 62, 3) := by decide +kernel
theorem dX7_findFromPlace_11 : decode cX7_findFromPlace 11 = .ok (.ifCond .ne 5, 3) := by decide +kernel
theorem dX7_findFromPlace_14 : decode cX7_findFromPlace 14 = .ok (.iconst (-1), 1) := by decide +kernel
theorem dX7_findFromPlace_15 : decode cX7_findFromPlace 15 = .ok (.ireturn, 1) := by decide +kernel
theorem dX7_findFromPlace_16 : decode cX7_findFromPlace 16 = .ok (.aload_n 0, 1) := by decide +kernel
theorem dX7_findFromPlace_17 : decode cX7_findFromPlace 17 = .ok (.getfield 21, 3) := by decide +kernel
theorem dX7_findFromPlace_20 : decode cX7_findFromPlace 20 = .ok (.iload_n 1, 1) := by decide +kernel
theorem dX7_findFromPlace_21 : decode cX7_findFromPlace 21 = .ok (.aaload, 1) := by decide +kernel
theorem dX7_findFromPlace_22 : decode cX7_findFromPlace 22 = .ok (.astore_n 3, 1) := by decide +kernel
theorem dX7_findFromPlace_23 : decode cX7_findFromPlace 23 = .ok (.aload_n 3, 1) := by decide +kernel
theorem dX7_findFromPlace_24 : decode cX7_findFromPlace 24 = .ok (.ifnonnull 6, 3) := by decide +kernel
theorem dX7_findFromPlace_27 : decode cX7_findFromPlace 27 = .ok (.bipush 9, 2) := by decide +kernel
theorem dX7_findFromPlace_29 : decode cX7_findFromPlace 29 = .ok (.ireturn, 1) := by decide +kernel
theorem dX7_findFromPlace_30 : decode cX7_findFromPlace 30 = .ok (.aload_n 0, 1) := by decide +kernel
theorem dX7_findFromPlace_31 : decode cX7_findFromPlace 31 = .ok (.aload_n 3, 1) := by decide +kernel
theorem dX7_findFromPlace_32 : decode cX7_findFromPlace 32 = .ok (.getfield 142, 3) := by decide +kernel
theorem dX7_findFromPlace_35 : decode cX7_findFromPlace 35 = .ok (.aload_n 3, 1) := by decide +kernel
theorem dX7_findFromPlace_36 : decode cX7_findFromPlace 36 = .ok (.iload_n 2, 1) := by decide +kernel
theorem dX7_findFromPlace_37 : decode cX7_findFromPlace 37 = .ok (.invokevirtual 243, 3) := by decide +kernel
theorem dX7_findFromPlace_40 : decode cX7_findFromPlace 40 = .ok (.ireturn, 1) := by decide +kernel
theorem dX7_findFromLambda_0 : decode cX7_findFromLambda 0 = .ok (.iload_n 1, 1) := by decide +kernel
theorem dX7_findFromLambda_1 : decode cX7_findFromLambda 1 = .ok (.ifCond .lt 18, 3) := by decide +kernel
theorem dX7_findFromLambda_4 : decode cX7_findFromLambda 4 = .ok (.iload_n 1, 1) := by decide +kernel
theorem dX7_findFromLambda_5 : decode cX7_findFromLambda 5 = .ok (.aload_n 0, 1) := by decide +kernel
theorem dX7_findFromLambda_6 : decode cX7_findFromLambda 6 = .ok (.getfield 34, 3) := by decide +kernel
theorem dX7_findFromLambda_9 : decode cX7_findFromLambda 9 = .ok (.if_icmp .ge 10, 3) := by decide +kernel
theorem dX7_findFromLambda_12 : decode cX7_findFromLambda 12 = .ok (.iload_n 2, 1) := by decide +kernel
theorem dX7_findFromLambda_13 : decode cX7_findFromLambda 13 = .ok (.invokestatic 62, 3) := by decide +kernel
theorem dX7_findFromLambda_16 : decode cX7_findFromLambda 16 = .ok (.ifCond .ne 5, 3) := by decide +kernel
theorem dX7_findFromLambda_19 : decode cX7_findFromLambda 19 = .ok (.iconst (-1), 1) := by decide +kernel
theorem dX7_findFromLambda_20 : decode cX7_findFromLambda 20 = .ok (.ireturn, 1) := by decide +kernel
theorem dX7_findFromLambda_21 : decode cX7_findFromLambda 21 = .ok (.aload_n 0, 1) := by decide +kernel
theorem dX7_findFromLambda_22 : decode cX7_findFromLambda 22 = .ok (.getfield 30, 3) := by decide +kernel
theorem dX7_findFromLambda_25 : decode cX7_findFromLambda 25 = .ok (.iload_n 1, 1) := by decide +kernel
theorem dX7_findFromLambda_26 : decode cX7_findFromLambda 26 = .ok (.aaload, 1) := by decide +kernel
theorem dX7_findFromLambda_27 : decode cX7_findFromLambda 27 = .ok (.astore_n 3, 1) := by decide +kernel
theorem dX7_findFromLambda_28 : decode cX7_findFromLambda 28 = .ok (.aload_n 3, 1) := by decide +kernel
theorem dX7_findFromLambda_29 : decode cX7_findFromLambda 29 = .ok (.getfield 247, 3) := by decide +kernel
theorem dX7_findFromLambda_32 : decode cX7_findFromLambda 32 = .ok (.getfield 83, 3) := by decide +kernel
theorem dX7_findFromLambda_35 : decode cX7_findFromLambda 35 = .ok (.astore 4, 2) := by decide +kernel
theorem dX7_findFromLambda_37 : decode cX7_findFromLambda 37 = .ok (.aload 4, 2) := by decide +kernel
theorem dX7_findFromLambda_39 : decode cX7_findFromLambda 39 = .ok (.iload_n 2, 1) := by decide +kernel
theorem dX7_findFromLambda_40 : decode cX7_findFromLambda 40 = .ok (.aload_n 3, 1) := by decide +kernel
theorem dX7_findFromLambda_41 : decode cX7_findFromLambda 41 = .ok (.getfield 250, 3) := by decide +kernel
theorem dX7_findFromLambda_44 : decode cX7_findFromLambda 44 = .ok (.arraylength, 1) := by decide +kernel
theorem dX7_findFromLambda_45 : decode cX7_findFromLambda 45 = .ok (.invokevirtual 251, 3) := by decide +kernel
theorem dX7_findFromLambda_48 : decode cX7_findFromLambda 48 = .ok (.istore 5, 2) := by decide +kernel
theorem dX7_findFromLambda_50 : decode cX7_findFromLambda 50 = .ok (.iload 5, 2) := by decide +kernel
theorem dX7_findFromLambda_52 : decode cX7_findFromLambda 52 = .ok (.iconst (-1), 1) := by decide +kernel
theorem dX7_findFromLambda_53 : decode cX7_findFromLambda 53 = .ok (.if_icmp .ne 17, 3) := by decide +kernel
theorem dX7_findFromLambda_56 : decode cX7_findFromLambda 56 = .ok (.aload_n 0, 1) := by decide +kernel
theorem dX7_findFromLambda_57 : decode cX7_findFromLambda 57 = .ok (.aload_n 3, 1) := by decide +kernel
theorem dX7_findFromLambda_58 : decode cX7_findFromLambda 58 = .ok (.getfield 247, 3) := by decide +kernel
theorem dX7_findFromLambda_61 : decode cX7_findFromLambda 61 = .ok (.aload_n 3, 1) := by decide +kernel
theorem dX7_findFromLambda_62 : decode cX7_findFromLambda 62 = .ok (.getfield 254, 3) := by decide +kernel
theorem dX7_findFromLambda_65 : decode cX7_findFromLambda 65 = .ok (.iload_n 2, 1) := by decide +kernel
theorem dX7_findFromLambda_66 : decode cX7_findFromLambda 66 = .ok (.invokevirtual 243, 3) := by decide +kernel
theorem dX7_findFromLambda_69 : decode cX7_findFromLambda 69 = .ok (.ireturn, 1) := by decide +kernel
theorem dX7_findFromLambda_70 : decode cX7_findFromLambda 70 = .ok (.aload 4, 2) := by decide +kernel
theorem dX7_findFromLambda_72 : decode cX7_findFromLambda 72 = .ok (.iload 5, 2) := by decide +kernel
theorem dX7_findFromLambda_74 : decode cX7_findFromLambda 74 = .ok (.invokevirtual 96, 3) := by decide +kernel
theorem dX7_findFromLambda_77 : decode cX7_findFromLambda 77 = .ok (.ifCond .eq 6, 3) := by decide +kernel
theorem dX7_findFromLambda_80 : decode cX7_findFromLambda 80 = .ok (.bipush 7, 2) := by decide +kernel
theorem dX7_findFromLambda_82 : decode cX7_findFromLambda 82 = .ok (.ireturn, 1) := by decide +kernel
theorem dX7_findFromLambda_83 : decode cX7_findFromLambda 83 = .ok (.aload_n 0, 1) := by decide +kernel
theorem dX7_findFromLambda_84 : decode cX7_findFromLambda 84 = .ok (.getfield 40, 3) := by decide +kernel
theorem dX7_findFromLambda_87 : decode cX7_findFromLambda 87 = .ok (.aload_n 3, 1) := by decide +kernel
theorem dX7_findFromLambda_88 : decode cX7_findFromLambda 88 = .ok (.getfield 250, 3) := by decide +kernel
theorem dX7_findFromLambda_91 : decode cX7_findFromLambda 91 = .ok (.iload 5, 2) := by decide +kernel
theorem dX7_findFromLambda_93 : decode cX7_findFromLambda 93 = .ok (.iconst 1, 1) := by decide +kernel
theorem dX7_findFromLambda_94 : decode cX7_findFromLambda 94 = .ok (.invokevirtual 258, 3) := by decide +kernel
theorem dX7_findFromLambda_97 : decode cX7_findFromLambda 97 = .ok (.iconst 0, 1) := by decide +kernel
theorem dX7_findFromLambda_98 : decode cX7_findFromLambda 98 = .ok (.ireturn, 1) := by decide +kernel
theorem dX7_findFromType_0 : decode cX7_findFromType 0 = .ok (.aload_n 1, 1) := by decide +kernel
theorem dX7_findFromType_1 : decode cX7_findFromType 1 = .ok (.astore 4, 2) := by decide +kernel
theorem dX7_findFromType_3 : decode cX7_findFromType 3 = .ok (.aload_n 2, 1) := by decide +kernel
theorem dX7_findFromType_4 : decode cX7_findFromType 4 = .ok (.astore 5, 2) := by decide +kernel
theorem dX7_findFromType_6 : decode cX7_findFromType 6 = .ok (.iconst 0, 1) := by decide +kernel
theorem dX7_findFromType_7 : decode cX7_findFromType 7 = .ok (.istore 6, 2) := by decide +kernel
theorem dX7_findFromType_9 : decode cX7_findFromType 9 = .ok (.aload 4, 2) := by decide +kernel
theorem dX7_findFromType_11 : decode cX7_findFromType 11 = .ok (.ifnull 89, 3) := by decide +kernel
theorem dX7_findFromType_14 : decode cX7_findFromType 14 = .ok (.iload 6, 2) := by decide +kernel
theorem dX7_findFromType_16 : decode cX7_findFromType 16 = .ok (.bipush 12, 2) := by decide +kernel
theorem dX7_findFromType_18 : decode cX7_findFromType 18 = .ok (.if_icmp .ge 82, 3) := by decide +kernel
theorem dX7_findFromType_21 : decode cX7_findFromType 21 = .ok (.aload 4, 2) := by decide +kernel
theorem dX7_findFromType_23 : decode cX7_findFromType 23 = .ok (.iload_n 3, 1) := by decide +kernel
theorem dX7_findFromType_24 : decode cX7_findFromType 24 = .ok (.invokestatic 262, 3) := by decide +kernel
theorem dX7_findFromType_27 : decode cX7_findFromType 27 = .ok (.astore 7, 2) := by decide +kernel
theorem dX7_findFromType_29 : decode cX7_findFromType 29 = .ok (.aload 7, 2) := by decide +kernel
theorem dX7_findFromType_31 : decode cX7_findFromType 31 = .ok (.ifnull 13, 3) := by decide +kernel
theorem dX7_findFromType_34 : decode cX7_findFromType 34 = .ok (.aload_n 0, 1) := by decide +kernel
theorem dX7_findFromType_35 : decode cX7_findFromType 35 = .ok (.aload 7, 2) := by decide +kernel
theorem dX7_findFromType_37 : decode cX7_findFromType 37 = .ok (.aload 5, 2) := by decide +kernel
theorem dX7_findFromType_39 : decode cX7_findFromType 39 = .ok (.iload_n 3, 1) := by decide +kernel
theorem dX7_findFromType_40 : decode cX7_findFromType 40 = .ok (.invokevirtual 266, 3) := by decide +kernel
theorem dX7_findFromType_43 : decode cX7_findFromType 43 = .ok (.ireturn, 1) := by decide +kernel
theorem dX7_findFromType_44 : decode cX7_findFromType 44 = .ok (.aload 4, 2) := by decide +kernel
theorem dX7_findFromType_46 : decode cX7_findFromType 46 = .ok (.iload_n 3, 1) := by decide +kernel
theorem dX7_findFromType_47 : decode cX7_findFromType 47 = .ok (.invokevirtual 269, 3) := by decide +kernel
theorem dX7_findFromType_50 : decode cX7_findFromType 50 = .ok (.istore 8, 2) := by decide +kernel
theorem dX7_findFromType_52 : decode cX7_findFromType 52 = .ok (.iload 8, 2) := by decide +kernel
theorem dX7_findFromType_54 : decode cX7_findFromType 54 = .ok (.iconst (-1), 1) := by decide +kernel
theorem dX7_findFromType_55 : decode cX7_findFromType 55 = .ok (.if_icmp .eq 14, 3) := by decide +kernel
theorem dX7_findFromType_58 : decode cX7_findFromType 58 = .ok (.aload_n 0, 1) := by decide +kernel
theorem dX7_findFromType_59 : decode cX7_findFromType 59 = .ok (.aload 4, 2) := by decide +kernel
theorem dX7_findFromType_61 : decode cX7_findFromType 61 = .ok (.aload 5, 2) := by decide +kernel
theorem dX7_findFromType_63 : decode cX7_findFromType 63 = .ok (.iload 8, 2) := by decide +kernel
theorem dX7_findFromType_65 : decode cX7_findFromType 65 = .ok (.invokevirtual 272, 3) := by decide +kernel
theorem dX7_findFromType_68 : decode cX7_findFromType 68 = .ok (.ireturn, 1) := by decide +kernel
theorem dX7_findFromType_69 : decode cX7_findFromType 69 = .ok (.aload 5, 2) := by decide +kernel
theorem dX7_findFromType_71 : decode cX7_findFromType 71 = .ok (.ifnonnull 7, 3) := by decide +kernel
theorem dX7_findFromType_74 : decode cX7_findFromType 74 = .ok (.aconst_null, 1) := by decide +kernel
theorem dX7_findFromType_75 : decode cX7_findFromType 75 = .ok (.goto 10, 3) := by decide +kernel
theorem dX7_findFromType_78 : decode cX7_findFromType 78 = .ok (.aload 5, 2) := by decide +kernel
theorem dX7_findFromType_80 : decode cX7_findFromType 80 = .ok (.aload 4, 2) := by decide +kernel
theorem dX7_findFromType_82 : decode cX7_findFromType 82 = .ok (.invokevirtual 152, 3) := by decide +kernel
theorem dX7_findFromType_85 : decode cX7_findFromType 85 = .ok (.astore 5, 2) := by decide +kernel
theorem dX7_findFromType_87 : decode cX7_findFromType 87 = .ok (.aload 4, 2) := by decide +kernel
theorem dX7_findFromType_89 : decode cX7_findFromType 89 = .ok (.getfield 216, 3) := by decide +kernel
theorem dX7_findFromType_92 : decode cX7_findFromType 92 = .ok (.astore 4, 2) := by decide +kernel
theorem dX7_findFromType_94 : decode cX7_findFromType 94 = .ok (.iinc 6 1, 3) := by decide +kernel
theorem dX7_findFromType_97 : decode cX7_findFromType 97 = .ok (.goto (-88), 3) := by decide +kernel
theorem dX7_findFromType_100 : decode cX7_findFromType 100 = .ok (.bipush 8, 2) := by decide +kernel
theorem dX7_findFromType_102 : decode cX7_findFromType 102 = .ok (.ireturn, 1) := by decide +kernel
theorem dX7_ownerOfField_0 : decode cX7_ownerOfField 0 = .ok (.aload_n 0, 1) := by decide +kernel
theorem dX7_ownerOfField_1 : decode cX7_ownerOfField 1 = .ok (.astore_n 2, 1) := by decide +kernel
theorem dX7_ownerOfField_2 : decode cX7_ownerOfField 2 = .ok (.iconst 0, 1) := by decide +kernel
theorem dX7_ownerOfField_3 : decode cX7_ownerOfField 3 = .ok (.istore_n 3, 1) := by decide +kernel
theorem dX7_ownerOfField_4 : decode cX7_ownerOfField 4 = .ok (.aload_n 2, 1) := by decide +kernel
theorem dX7_ownerOfField_5 : decode cX7_ownerOfField 5 = .ok (.ifnull 34, 3) := by decide +kernel
theorem dX7_ownerOfField_8 : decode cX7_ownerOfField 8 = .ok (.iload_n 3, 1) := by decide +kernel
theorem dX7_ownerOfField_9 : decode cX7_ownerOfField 9 = .ok (.bipush 12, 2) := by decide +kernel
theorem dX7_ownerOfField_11 : decode cX7_ownerOfField 11 = .ok (.if_icmp .ge 28, 3) := by decide +kernel
theorem dX7_ownerOfField_14 : decode cX7_ownerOfField 14 = .ok (.aload_n 2, 1) := by decide +kernel
theorem dX7_ownerOfField_15 : decode cX7_ownerOfField 15 = .ok (.getfield 66, 3) := by decide +kernel
theorem dX7_ownerOfField_18 : decode cX7_ownerOfField 18 = .ok (.iload_n 1, 1) := by decide +kernel
theorem dX7_ownerOfField_19 : decode cX7_ownerOfField 19 = .ok (.invokevirtual 75, 3) := by decide +kernel
theorem dX7_ownerOfField_22 : decode cX7_ownerOfField 22 = .ok (.iconst (-1), 1) := by decide +kernel
theorem dX7_ownerOfField_23 : decode cX7_ownerOfField 23 = .ok (.if_icmp .eq 5, 3) := by decide +kernel
theorem dX7_ownerOfField_26 : decode cX7_ownerOfField 26 = .ok (.aload_n 2, 1) := by decide +kernel
theorem dX7_ownerOfField_27 : decode cX7_ownerOfField 27 = .ok (.areturn, 1) := by decide +kernel
theorem dX7_ownerOfField_28 : decode cX7_ownerOfField 28 = .ok (.aload_n 2, 1) := by decide +kernel
theorem dX7_ownerOfField_29 : decode cX7_ownerOfField 29 = .ok (.getfield 113, 3) := by decide +kernel
theorem dX7_ownerOfField_32 : decode cX7_ownerOfField 32 = .ok (.astore_n 2, 1) := by decide +kernel
theorem dX7_ownerOfField_33 : decode cX7_ownerOfField 33 = .ok (.iinc 3 1, 3) := by decide +kernel
theorem dX7_ownerOfField_36 : decode cX7_ownerOfField 36 = .ok (.goto (-32), 3) := by decide +kernel
theorem dX7_ownerOfField_39 : decode cX7_ownerOfField 39 = .ok (.aconst_null, 1) := by decide +kernel
theorem dX7_ownerOfField_40 : decode cX7_ownerOfField 40 = .ok (.areturn, 1) := by decide +kernel
theorem dX7_findField_0 : decode cX7_findField 0 = .ok (.aload_n 1, 1) := by decide +kernel
theorem dX7_findField_1 : decode cX7_findField 1 = .ok (.getfield 66, 3) := by decide +kernel
theorem dX7_findField_4 : decode cX7_findField 4 = .ok (.astore 4, 2) := by decide +kernel
theorem dX7_findField_6 : decode cX7_findField 6 = .ok (.aload 4, 2) := by decide +kernel
theorem dX7_findField_8 : decode cX7_findField 8 = .ok (.iload_n 3, 1) := by decide +kernel
theorem dX7_findField_9 : decode cX7_findField 9 = .ok (.invokevirtual 75, 3) := by decide +kernel
theorem dX7_findField_12 : decode cX7_findField 12 = .ok (.istore 5, 2) := by decide +kernel
theorem dX7_findField_14 : decode cX7_findField 14 = .ok (.aload 4, 2) := by decide +kernel
theorem dX7_findField_16 : decode cX7_findField 16 = .ok (.iload 5, 2) := by decide +kernel
theorem dX7_findField_18 : decode cX7_findField 18 = .ok (.invokevirtual 184, 3) := by decide +kernel
theorem dX7_findField_21 : decode cX7_findField 21 = .ok (.ifCond .eq 20, 3) := by decide +kernel
theorem dX7_findField_24 : decode cX7_findField 24 = .ok (.aload_n 0, 1) := by decide +kernel
theorem dX7_findField_25 : decode cX7_findField 25 = .ok (.getfield 40, 3) := by decide +kernel
theorem dX7_findField_28 : decode cX7_findField 28 = .ok (.aload 4, 2) := by decide +kernel
theorem dX7_findField_30 : decode cX7_findField 30 = .ok (.getfield 187, 3) := by decide +kernel
theorem dX7_findField_33 : decode cX7_findField 33 = .ok (.iload 5, 2) := by decide +kernel
theorem dX7_findField_35 : decode cX7_findField 35 = .ok (.iconst 0, 1) := by decide +kernel
theorem dX7_findField_36 : decode cX7_findField 36 = .ok (.invokevirtual 258, 3) := by decide +kernel
theorem dX7_findField_39 : decode cX7_findField 39 = .ok (.iconst 0, 1) := by decide +kernel
theorem dX7_findField_40 : decode cX7_findField 40 = .ok (.ireturn, 1) := by decide +kernel
theorem dX7_findField_41 : decode cX7_findField 41 = .ok (.aload_n 2, 1) := by decide +kernel
theorem dX7_findField_42 : decode cX7_findField 42 = .ok (.ifnonnull 5, 3) := by decide +kernel
theorem dX7_findField_45 : decode cX7_findField 45 = .ok (.iconst 4, 1) := by decide +kernel
theorem dX7_findField_46 : decode cX7_findField 46 = .ok (.ireturn, 1) := by decide +kernel
theorem dX7_findField_47 : decode cX7_findField 47 = .ok (.aload_n 2, 1) := by decide +kernel
theorem dX7_findField_48 : decode cX7_findField 48 = .ok (.aload_n 1, 1) := by decide +kernel
theorem dX7_findField_49 : decode cX7_findField 49 = .ok (.invokevirtual 156, 3) := by decide +kernel
theorem dX7_findField_52 : decode cX7_findField 52 = .ok (.astore 6, 2) := by decide +kernel
theorem dX7_findField_54 : decode cX7_findField 54 = .ok (.aload 6, 2) := by decide +kernel
theorem dX7_findField_56 : decode cX7_findField 56 = .ok (.ifnull 14, 3) := by decide +kernel
theorem dX7_findField_59 : decode cX7_findField 59 = .ok (.iload 5, 2) := by decide +kernel
theorem dX7_findField_61 : decode cX7_findField 61 = .ok (.aload 6, 2) := by decide +kernel
theorem dX7_findField_63 : decode cX7_findField 63 = .ok (.getfield 275, 3) := by decide +kernel
theorem dX7_findField_66 : decode cX7_findField 66 = .ok (.arraylength, 1) := by decide +kernel
theorem dX7_findField_67 : decode cX7_findField 67 = .ok (.if_icmp .lt 5, 3) := by decide +kernel
theorem dX7_findField_70 : decode cX7_findField 70 = .ok (.iconst 5, 1) := by decide +kernel
theorem dX7_findField_71 : decode cX7_findField 71 = .ok (.ireturn, 1) := by decide +kernel
theorem dX7_findField_72 : decode cX7_findField 72 = .ok (.aload_n 0, 1) := by decide +kernel
theorem dX7_findField_73 : decode cX7_findField 73 = .ok (.getfield 40, 3) := by decide +kernel
theorem dX7_findField_76 : decode cX7_findField 76 = .ok (.aload 6, 2) := by decide +kernel
theorem dX7_findField_78 : decode cX7_findField 78 = .ok (.getfield 275, 3) := by decide +kernel
theorem dX7_findField_81 : decode cX7_findField 81 = .ok (.iload 5, 2) := by decide +kernel
theorem dX7_findField_83 : decode cX7_findField 83 = .ok (.iconst 0, 1) := by decide +kernel
theorem dX7_findField_84 : decode cX7_findField 84 = .ok (.invokevirtual 258, 3) := by decide +kernel
theorem dX7_findField_87 : decode cX7_findField 87 = .ok (.iconst 0, 1) := by decide +kernel
theorem dX7_findField_88 : decode cX7_findField 88 = .ok (.ireturn, 1) := by decide +kernel
theorem dX7_findCopy_0 : decode cX7_findCopy 0 = .ok (.aload_n 1, 1) := by decide +kernel
theorem dX7_findCopy_1 : decode cX7_findCopy 1 = .ok (.getfield 110, 3) := by decide +kernel
theorem dX7_findCopy_4 : decode cX7_findCopy 4 = .ok (.iconst 4, 1) := by decide +kernel
theorem dX7_findCopy_5 : decode cX7_findCopy 5 = .ok (.if_icmp .ne 6, 3) := by decide +kernel
theorem dX7_findCopy_8 : decode cX7_findCopy 8 = .ok (.bipush 6, 2) := by decide +kernel
theorem dX7_findCopy_10 : decode cX7_findCopy 10 = .ok (.ireturn, 1) := by decide +kernel
theorem dX7_findCopy_11 : decode cX7_findCopy 11 = .ok (.aload_n 1, 1) := by decide +kernel
theorem dX7_findCopy_12 : decode cX7_findCopy 12 = .ok (.getfield 216, 3) := by decide +kernel
theorem dX7_findCopy_15 : decode cX7_findCopy 15 = .ok (.ifnull 20, 3) := by decide +kernel
theorem dX7_findCopy_18 : decode cX7_findCopy 18 = .ok (.aload_n 1, 1) := by decide +kernel
theorem dX7_findCopy_19 : decode cX7_findCopy 19 = .ok (.getfield 216, 3) := by decide +kernel
theorem dX7_findCopy_22 : decode cX7_findCopy 22 = .ok (.getfield 83, 3) := by decide +kernel
theorem dX7_findCopy_25 : decode cX7_findCopy 25 = .ok (.iload_n 3, 1) := by decide +kernel
theorem dX7_findCopy_26 : decode cX7_findCopy 26 = .ok (.invokevirtual 96, 3) := by decide +kernel
theorem dX7_findCopy_29 : decode cX7_findCopy 29 = .ok (.ifCond .eq 6, 3) := by decide +kernel
theorem dX7_findCopy_32 : decode cX7_findCopy 32 = .ok (.bipush 7, 2) := by decide +kernel
theorem dX7_findCopy_34 : decode cX7_findCopy 34 = .ok (.ireturn, 1) := by decide +kernel
theorem dX7_findCopy_35 : decode cX7_findCopy 35 = .ok (.aload_n 2, 1) := by decide +kernel
theorem dX7_findCopy_36 : decode cX7_findCopy 36 = .ok (.ifnonnull 5, 3) := by decide +kernel
theorem dX7_findCopy_39 : decode cX7_findCopy 39 = .ok (.iconst 4, 1) := by decide +kernel
theorem dX7_findCopy_40 : decode cX7_findCopy 40 = .ok (.ireturn, 1) := by decide +kernel
theorem dX7_findCopy_41 : decode cX7_findCopy 41 = .ok (.aload_n 2, 1) := by decide +kernel
theorem dX7_findCopy_42 : decode cX7_findCopy 42 = .ok (.aload_n 1, 1) := by decide +kernel
theorem dX7_findCopy_43 : decode cX7_findCopy 43 = .ok (.invokevirtual 156, 3) := by decide +kernel
theorem dX7_findCopy_46 : decode cX7_findCopy 46 = .ok (.astore 4, 2) := by decide +kernel
theorem dX7_findCopy_48 : decode cX7_findCopy 48 = .ok (.aload 4, 2) := by decide +kernel
theorem dX7_findCopy_50 : decode cX7_findCopy 50 = .ok (.ifnull 13, 3) := by decide +kernel
theorem dX7_findCopy_53 : decode cX7_findCopy 53 = .ok (.iload_n 3, 1) := by decide +kernel
theorem dX7_findCopy_54 : decode cX7_findCopy 54 = .ok (.aload 4, 2) := by decide +kernel
theorem dX7_findCopy_56 : decode cX7_findCopy 56 = .ok (.getfield 160, 3) := by decide +kernel
theorem dX7_findCopy_59 : decode cX7_findCopy 59 = .ok (.arraylength, 1) := by decide +kernel
theorem dX7_findCopy_60 : decode cX7_findCopy 60 = .ok (.if_icmp .lt 5, 3) := by decide +kernel
theorem dX7_findCopy_63 : decode cX7_findCopy 63 = .ok (.iconst 5, 1) := by decide +kernel
theorem dX7_findCopy_64 : decode cX7_findCopy 64 = .ok (.ireturn, 1) := by decide +kernel
theorem dX7_findCopy_65 : decode cX7_findCopy 65 = .ok (.aload_n 0, 1) := by decide +kernel
theorem dX7_findCopy_66 : decode cX7_findCopy 66 = .ok (.getfield 40, 3) := by decide +kernel
theorem dX7_findCopy_69 : decode cX7_findCopy 69 = .ok (.aload 4, 2) := by decide +kernel
theorem dX7_findCopy_71 : decode cX7_findCopy 71 = .ok (.getfield 160, 3) := by decide +kernel
theorem dX7_findCopy_74 : decode cX7_findCopy 74 = .ok (.iload_n 3, 1) := by decide +kernel
theorem dX7_findCopy_75 : decode cX7_findCopy 75 = .ok (.iconst 1, 1) := by decide +kernel
theorem dX7_findCopy_76 : decode cX7_findCopy 76 = .ok (.invokevirtual 258, 3) := by decide +kernel
theorem dX7_findCopy_79 : decode cX7_findCopy 79 = .ok (.iconst 0, 1) := by decide +kernel
theorem dX7_findCopy_80 : decode cX7_findCopy 80 = .ok (.ireturn, 1) := by decide +kernel
theorem dX7_holdThat_0 : decode cX7_holdThat 0 = .ok (.aload_n 0, 1) := by decide +kernel
theorem dX7_holdThat_1 : decode cX7_holdThat 1 = .ok (.iload_n 2, 1) := by decide +kernel
theorem dX7_holdThat_2 : decode cX7_holdThat 2 = .ok (.invokevirtual 47, 3) := by decide +kernel
theorem dX7_holdThat_5 : decode cX7_holdThat 5 = .ok (.astore 4, 2) := by decide +kernel
theorem dX7_holdThat_7 : decode cX7_holdThat 7 = .ok (.iload_n 1, 1) := by decide +kernel
theorem dX7_holdThat_8 : decode cX7_holdThat 8 = .ok (.invokestatic 139, 3) := by decide +kernel
theorem dX7_holdThat_11 : decode cX7_holdThat 11 = .ok (.ifCond .eq 15, 3) := by decide +kernel
theorem dX7_holdThat_14 : decode cX7_holdThat 14 = .ok (.aload 4, 2) := by decide +kernel
theorem dX7_holdThat_16 : decode cX7_holdThat 16 = .ok (.ifnull 10, 3) := by decide +kernel
theorem dX7_holdThat_19 : decode cX7_holdThat 19 = .ok (.iload_n 3, 1) := by decide +kernel
theorem dX7_holdThat_20 : decode cX7_holdThat 20 = .ok (.invokestatic 139, 3) := by decide +kernel
theorem dX7_holdThat_23 : decode cX7_holdThat 23 = .ok (.ifCond .ne 5, 3) := by decide +kernel
theorem dX7_holdThat_26 : decode cX7_holdThat 26 = .ok (.iconst (-1), 1) := by decide +kernel
theorem dX7_holdThat_27 : decode cX7_holdThat 27 = .ok (.ireturn, 1) := by decide +kernel
theorem dX7_holdThat_28 : decode cX7_holdThat 28 = .ok (.aload_n 0, 1) := by decide +kernel
theorem dX7_holdThat_29 : decode cX7_holdThat 29 = .ok (.getfield 21, 3) := by decide +kernel
theorem dX7_holdThat_32 : decode cX7_holdThat 32 = .ok (.iload_n 1, 1) := by decide +kernel
theorem dX7_holdThat_33 : decode cX7_holdThat 33 = .ok (.aaload, 1) := by decide +kernel
theorem dX7_holdThat_34 : decode cX7_holdThat 34 = .ok (.astore 5, 2) := by decide +kernel
theorem dX7_holdThat_36 : decode cX7_holdThat 36 = .ok (.aload 5, 2) := by decide +kernel
theorem dX7_holdThat_38 : decode cX7_holdThat 38 = .ok (.ifnonnull 6, 3) := by decide +kernel
theorem dX7_holdThat_41 : decode cX7_holdThat 41 = .ok (.bipush 9, 2) := by decide +kernel
theorem dX7_holdThat_43 : decode cX7_holdThat 43 = .ok (.ireturn, 1) := by decide +kernel
theorem dX7_holdThat_44 : decode cX7_holdThat 44 = .ok (.aload 5, 2) := by decide +kernel
theorem dX7_holdThat_46 : decode cX7_holdThat 46 = .ok (.getfield 142, 3) := by decide +kernel
theorem dX7_holdThat_49 : decode cX7_holdThat 49 = .ok (.astore 6, 2) := by decide +kernel
theorem dX7_holdThat_51 : decode cX7_holdThat 51 = .ok (.iconst 0, 1) := by decide +kernel
theorem dX7_holdThat_52 : decode cX7_holdThat 52 = .ok (.istore 7, 2) := by decide +kernel
theorem dX7_holdThat_54 : decode cX7_holdThat 54 = .ok (.aload 6, 2) := by decide +kernel
theorem dX7_holdThat_56 : decode cX7_holdThat 56 = .ok (.ifnull 48, 3) := by decide +kernel
theorem dX7_holdThat_59 : decode cX7_holdThat 59 = .ok (.aload 6, 2) := by decide +kernel
theorem dX7_holdThat_61 : decode cX7_holdThat 61 = .ok (.aload 4, 2) := by decide +kernel
theorem dX7_holdThat_63 : decode cX7_holdThat 63 = .ok (.if_acmp .eq 41, 3) := by decide +kernel
theorem dX7_holdThat_66 : decode cX7_holdThat 66 = .ok (.iload 7, 2) := by decide +kernel
theorem dX7_holdThat_68 : decode cX7_holdThat 68 = .ok (.bipush 12, 2) := by decide +kernel
theorem dX7_holdThat_70 : decode cX7_holdThat 70 = .ok (.if_icmp .ge 34, 3) := by decide +kernel
theorem dX7_holdThat_73 : decode cX7_holdThat 73 = .ok (.aload 5, 2) := by decide +kernel
theorem dX7_holdThat_75 : decode cX7_holdThat 75 = .ok (.ifnonnull 7, 3) := by decide +kernel
theorem dX7_holdThat_78 : decode cX7_holdThat 78 = .ok (.aconst_null, 1) := by decide +kernel
theorem dX7_holdThat_79 : decode cX7_holdThat 79 = .ok (.goto 10, 3) := by decide +kernel
theorem dX7_holdThat_82 : decode cX7_holdThat 82 = .ok (.aload 5, 2) := by decide +kernel
theorem dX7_holdThat_84 : decode cX7_holdThat 84 = .ok (.aload 6, 2) := by decide +kernel
theorem dX7_holdThat_86 : decode cX7_holdThat 86 = .ok (.invokevirtual 152, 3) := by decide +kernel
theorem dX7_holdThat_89 : decode cX7_holdThat 89 = .ok (.astore 5, 2) := by decide +kernel
theorem dX7_holdThat_91 : decode cX7_holdThat 91 = .ok (.aload 6, 2) := by decide +kernel
theorem dX7_holdThat_93 : decode cX7_holdThat 93 = .ok (.getfield 216, 3) := by decide +kernel
theorem dX7_holdThat_96 : decode cX7_holdThat 96 = .ok (.astore 6, 2) := by decide +kernel
theorem dX7_holdThat_98 : decode cX7_holdThat 98 = .ok (.iinc 7 1, 3) := by decide +kernel
theorem dX7_holdThat_101 : decode cX7_holdThat 101 = .ok (.goto (-47), 3) := by decide +kernel
theorem dX7_holdThat_104 : decode cX7_holdThat 104 = .ok (.aload 6, 2) := by decide +kernel
theorem dX7_holdThat_106 : decode cX7_holdThat 106 = .ok (.aload 4, 2) := by decide +kernel
theorem dX7_holdThat_108 : decode cX7_holdThat 108 = .ok (.if_acmp .eq 6, 3) := by decide +kernel
theorem dX7_holdThat_111 : decode cX7_holdThat 111 = .ok (.bipush 8, 2) := by decide +kernel
theorem dX7_holdThat_113 : decode cX7_holdThat 113 = .ok (.ireturn, 1) := by decide +kernel
theorem dX7_holdThat_114 : decode cX7_holdThat 114 = .ok (.aload 5, 2) := by decide +kernel
theorem dX7_holdThat_116 : decode cX7_holdThat 116 = .ok (.ifnonnull 5, 3) := by decide +kernel
theorem dX7_holdThat_119 : decode cX7_holdThat 119 = .ok (.iconst 4, 1) := by decide +kernel
theorem dX7_holdThat_120 : decode cX7_holdThat 120 = .ok (.ireturn, 1) := by decide +kernel
theorem dX7_holdThat_121 : decode cX7_holdThat 121 = .ok (.aload_n 0, 1) := by decide +kernel
theorem dX7_holdThat_122 : decode cX7_holdThat 122 = .ok (.getfield 21, 3) := by decide +kernel
theorem dX7_holdThat_125 : decode cX7_holdThat 125 = .ok (.iload_n 3, 1) := by decide +kernel
theorem dX7_holdThat_126 : decode cX7_holdThat 126 = .ok (.aload 5, 2) := by decide +kernel
theorem dX7_holdThat_128 : decode cX7_holdThat 128 = .ok (.aastore, 1) := by decide +kernel
theorem dX7_holdThat_129 : decode cX7_holdThat 129 = .ok (.iconst 0, 1) := by decide +kernel
theorem dX7_holdThat_130 : decode cX7_holdThat 130 = .ok (.ireturn, 1) := by decide +kernel
end
section
theorem dX8_init_0 : decode cX8_init 0 = .ok (.aload_n 0, 1) := by decide +kernel
theorem dX8_init_1 : decode cX8_init 1 = .ok (.invokespecial 1, 3) := by decide +kernel
theorem dX8_init_4 : decode cX8_init 4 = .ok (.aload_n 0, 1) := by decide +kernel
theorem dX8_init_5 : decode cX8_init 5 = .ok (.bipush 12, 2) := by decide +kernel
theorem dX8_init_7 : decode cX8_init 7 = .ok (.newarray .int, 2) := by decide +kernel
theorem dX8_init_9 : decode cX8_init 9 = .ok (.putfield 7, 3) := by decide +kernel
theorem dX8_init_12 : decode cX8_init 12 = .ok (.aload_n 0, 1) := by decide +kernel
theorem dX8_init_13 : decode cX8_init 13 = .ok (.bipush 12, 2) := by decide +kernel
theorem dX8_init_15 : decode cX8_init 15 = .ok (.newarray .int, 2) := by decide +kernel
theorem dX8_init_17 : decode cX8_init 17 = .ok (.putfield 13, 3) := by decide +kernel
theorem dX8_init_20 : decode cX8_init 20 = .ok (.aload_n 0, 1) := by decide +kernel
theorem dX8_init_21 : decode cX8_init 21 = .ok (.bipush 12, 2) := by decide +kernel
theorem dX8_init_23 : decode cX8_init 23 = .ok (.newarray .int, 2) := by decide +kernel
theorem dX8_init_25 : decode cX8_init 25 = .ok (.putfield 16, 3) := by decide +kernel
theorem dX8_init_28 : decode cX8_init 28 = .ok (.aload_n 0, 1) := by decide +kernel
theorem dX8_init_29 : decode cX8_init 29 = .ok (.bipush 12, 2) := by decide +kernel
theorem dX8_init_31 : decode cX8_init 31 = .ok (.newarray .int, 2) := by decide +kernel
theorem dX8_init_33 : decode cX8_init 33 = .ok (.putfield 19, 3) := by decide +kernel
theorem dX8_init_36 : decode cX8_init 36 = .ok (.aload_n 0, 1) := by decide +kernel
theorem dX8_init_37 : decode cX8_init 37 = .ok (.bipush 12, 2) := by decide +kernel
theorem dX8_init_39 : decode cX8_init 39 = .ok (.newarray .int, 2) := by decide +kernel
theorem dX8_init_41 : decode cX8_init 41 = .ok (.putfield 22, 3) := by decide +kernel
theorem dX8_init_44 : decode cX8_init 44 = .ok (.aload_n 0, 1) := by decide +kernel
theorem dX8_init_45 : decode cX8_init 45 = .ok (.bipush 12, 2) := by decide +kernel
theorem dX8_init_47 : decode cX8_init 47 = .ok (.newarray .int, 2) := by decide +kernel
theorem dX8_init_49 : decode cX8_init 49 = .ok (.putfield 25, 3) := by decide +kernel
theorem dX8_init_52 : decode cX8_init 52 = .ok (.aload_n 0, 1) := by decide +kernel
theorem dX8_init_53 : decode cX8_init 53 = .ok (.bipush 12, 2) := by decide +kernel
theorem dX8_init_55 : decode cX8_init 55 = .ok (.newarray .int, 2) := by decide +kernel
theorem dX8_init_57 : decode cX8_init 57 = .ok (.putfield 28, 3) := by decide +kernel
theorem dX8_init_60 : decode cX8_init 60 = .ok (.aload_n 0, 1) := by decide +kernel
theorem dX8_init_61 : decode cX8_init 61 = .ok (.bipush 48, 2) := by decide +kernel
theorem dX8_init_63 : decode cX8_init 63 = .ok (.newarray .int, 2) := by decide +kernel
theorem dX8_init_65 : decode cX8_init 65 = .ok (.putfield 31, 3) := by decide +kernel
theorem dX8_init_68 : decode cX8_init 68 = .ok (.aload_n 0, 1) := by decide +kernel
theorem dX8_init_69 : decode cX8_init 69 = .ok (.bipush 48, 2) := by decide +kernel
theorem dX8_init_71 : decode cX8_init 71 = .ok (.newarray .long, 2) := by decide +kernel
theorem dX8_init_73 : decode cX8_init 73 = .ok (.putfield 34, 3) := by decide +kernel
theorem dX8_init_76 : decode cX8_init 76 = .ok (.aload_n 0, 1) := by decide +kernel
theorem dX8_init_77 : decode cX8_init 77 = .ok (.bipush 48, 2) := by decide +kernel
theorem dX8_init_79 : decode cX8_init 79 = .ok (.newarray .boolean, 2) := by decide +kernel
theorem dX8_init_81 : decode cX8_init 81 = .ok (.putfield 38, 3) := by decide +kernel
theorem dX8_init_84 : decode cX8_init 84 = .ok (.aload_n 0, 1) := by decide +kernel
theorem dX8_init_85 : decode cX8_init 85 = .ok (.bipush 12, 2) := by decide +kernel
theorem dX8_init_87 : decode cX8_init 87 = .ok (.newarray .boolean, 2) := by decide +kernel
theorem dX8_init_89 : decode cX8_init 89 = .ok (.putfield 42, 3) := by decide +kernel
theorem dX8_init_92 : decode cX8_init 92 = .ok (.aload_n 0, 1) := by decide +kernel
theorem dX8_init_93 : decode cX8_init 93 = .ok (.bipush 12, 2) := by decide +kernel
theorem dX8_init_95 : decode cX8_init 95 = .ok (.newarray .int, 2) := by decide +kernel
theorem dX8_init_97 : decode cX8_init 97 = .ok (.putfield 45, 3) := by decide +kernel
theorem dX8_init_100 : decode cX8_init 100 = .ok (.aload_n 0, 1) := by decide +kernel
theorem dX8_init_101 : decode cX8_init 101 = .ok (.bipush 48, 2) := by decide +kernel
theorem dX8_init_103 : decode cX8_init 103 = .ok (.newarray .int, 2) := by decide +kernel
theorem dX8_init_105 : decode cX8_init 105 = .ok (.putfield 48, 3) := by decide +kernel
theorem dX8_init_108 : decode cX8_init 108 = .ok (.aload_n 0, 1) := by decide +kernel
theorem dX8_init_109 : decode cX8_init 109 = .ok (.bipush 48, 2) := by decide +kernel
theorem dX8_init_111 : decode cX8_init 111 = .ok (.newarray .long, 2) := by decide +kernel
theorem dX8_init_113 : decode cX8_init 113 = .ok (.putfield 51, 3) := by decide +kernel
theorem dX8_init_116 : decode cX8_init 116 = .ok (.aload_n 0, 1) := by decide +kernel
theorem dX8_init_117 : decode cX8_init 117 = .ok (.bipush 48, 2) := by decide +kernel
theorem dX8_init_119 : decode cX8_init 119 = .ok (.newarray .boolean, 2) := by decide +kernel
theorem dX8_init_121 : decode cX8_init 121 = .ok (.putfield 54, 3) := by decide +kernel
theorem dX8_init_124 : decode cX8_init 124 = .ok (.aload_n 0, 1) := by decide +kernel
theorem dX8_init_125 : decode cX8_init 125 = .ok (.sipush 520, 3) := by decide +kernel
theorem dX8_init_128 : decode cX8_init 128 = .ok (.newarray .int, 2) := by decide +kernel
theorem dX8_init_130 : decode cX8_init 130 = .ok (.putfield 57, 3) := by decide +kernel
theorem dX8_init_133 : decode cX8_init 133 = .ok (.aload_n 0, 1) := by decide +kernel
theorem dX8_init_134 : decode cX8_init 134 = .ok (.sipush 6240, 3) := by decide +kernel
theorem dX8_init_137 : decode cX8_init 137 = .ok (.newarray .int, 2) := by decide +kernel
theorem dX8_init_139 : decode cX8_init 139 = .ok (.putfield 60, 3) := by decide +kernel
theorem dX8_init_142 : decode cX8_init 142 = .ok (.aload_n 0, 1) := by decide +kernel
theorem dX8_init_143 : decode cX8_init 143 = .ok (.sipush 6240, 3) := by decide +kernel
theorem dX8_init_146 : decode cX8_init 146 = .ok (.newarray .int, 2) := by decide +kernel
theorem dX8_init_148 : decode cX8_init 148 = .ok (.putfield 63, 3) := by decide +kernel
theorem dX8_init_151 : decode cX8_init 151 = .ok (.aload_n 0, 1) := by decide +kernel
theorem dX8_init_152 : decode cX8_init 152 = .ok (.sipush 24960, 3) := by decide +kernel
theorem dX8_init_155 : decode cX8_init 155 = .ok (.newarray .long, 2) := by decide +kernel
theorem dX8_init_157 : decode cX8_init 157 = .ok (.putfield 66, 3) := by decide +kernel
theorem dX8_init_160 : decode cX8_init 160 = .ok (.aload_n 0, 1) := by decide +kernel
theorem dX8_init_161 : decode cX8_init 161 = .ok (.sipush 24960, 3) := by decide +kernel
theorem dX8_init_164 : decode cX8_init 164 = .ok (.newarray .long, 2) := by decide +kernel
theorem dX8_init_166 : decode cX8_init 166 = .ok (.putfield 69, 3) := by decide +kernel
theorem dX8_init_169 : decode cX8_init 169 = .ok (.aload_n 0, 1) := by decide +kernel
theorem dX8_init_170 : decode cX8_init 170 = .ok (.bipush 8, 2) := by decide +kernel
theorem dX8_init_172 : decode cX8_init 172 = .ok (.newarray .int, 2) := by decide +kernel
theorem dX8_init_174 : decode cX8_init 174 = .ok (.dup, 1) := by decide +kernel
theorem dX8_init_175 : decode cX8_init 175 = .ok (.iconst 0, 1) := by decide +kernel
theorem dX8_init_176 : decode cX8_init 176 = .ok (.bipush (-3), 2) := by decide +kernel
theorem dX8_init_178 : decode cX8_init 178 = .ok (.iastore, 1) := by decide +kernel
theorem dX8_init_179 : decode cX8_init 179 = .ok (.dup, 1) := by decide +kernel
theorem dX8_init_180 : decode cX8_init 180 = .ok (.iconst 1, 1) := by decide +kernel
theorem dX8_init_181 : decode cX8_init 181 = .ok (.bipush (-3), 2) := by decide +kernel
theorem dX8_init_183 : decode cX8_init 183 = .ok (.iastore, 1) := by decide +kernel
theorem dX8_init_184 : decode cX8_init 184 = .ok (.dup, 1) := by decide +kernel
theorem dX8_init_185 : decode cX8_init 185 = .ok (.iconst 2, 1) := by decide +kernel
theorem dX8_init_186 : decode cX8_init 186 = .ok (.bipush (-3), 2) := by decide +kernel
theorem dX8_init_188 : decode cX8_init 188 = .ok (.iastore, 1) := by decide +kernel
theorem dX8_init_189 : decode cX8_init 189 = .ok (.dup, 1) := by decide +kernel
theorem dX8_init_190 : decode cX8_init 190 = .ok (.iconst 3, 1) := by decide +kernel
theorem dX8_init_191 : decode cX8_init 191 = .ok (.bipush (-3), 2) := by decide +kernel
theorem dX8_init_193 : decode cX8_init 193 = .ok (.iastore, 1) := by decide +kernel
theorem dX8_init_194 : decode cX8_init 194 = .ok (.dup, 1) := by decide +kernel
theorem dX8_init_195 : decode cX8_init 195 = .ok (.iconst 4, 1) := by decide +kernel
theorem dX8_init_196 : decode cX8_init 196 = .ok (.bipush (-3), 2) := by decide +kernel
theorem dX8_init_198 : decode cX8_init 198 = .ok (.iastore, 1) := by decide +kernel
theorem dX8_init_199 : decode cX8_init 199 = .ok (.dup, 1) := by decide +kernel
theorem dX8_init_200 : decode cX8_init 200 = .ok (.iconst 5, 1) := by decide +kernel
theorem dX8_init_201 : decode cX8_init 201 = .ok (.bipush (-3), 2) := by decide +kernel
theorem dX8_init_203 : decode cX8_init 203 = .ok (.iastore, 1) := by decide +kernel
theorem dX8_init_204 : decode cX8_init 204 = .ok (.dup, 1) := by decide +kernel
theorem dX8_init_205 : decode cX8_init 205 = .ok (.bipush 6, 2) := by decide +kernel
theorem dX8_init_207 : decode cX8_init 207 = .ok (.bipush (-3), 2) := by decide +kernel
theorem dX8_init_209 : decode cX8_init 209 = .ok (.iastore, 1) := by decide +kernel
theorem dX8_init_210 : decode cX8_init 210 = .ok (.dup, 1) := by decide +kernel
theorem dX8_init_211 : decode cX8_init 211 = .ok (.bipush 7, 2) := by decide +kernel
theorem dX8_init_213 : decode cX8_init 213 = .ok (.bipush (-3), 2) := by decide +kernel
theorem dX8_init_215 : decode cX8_init 215 = .ok (.iastore, 1) := by decide +kernel
theorem dX8_init_216 : decode cX8_init 216 = .ok (.putfield 72, 3) := by decide +kernel
theorem dX8_init_219 : decode cX8_init 219 = .ok (.aload_n 0, 1) := by decide +kernel
theorem dX8_init_220 : decode cX8_init 220 = .ok (.bipush 6, 2) := by decide +kernel
theorem dX8_init_222 : decode cX8_init 222 = .ok (.newarray .int, 2) := by decide +kernel
theorem dX8_init_224 : decode cX8_init 224 = .ok (.putfield 75, 3) := by decide +kernel
theorem dX8_init_227 : decode cX8_init 227 = .ok (.aload_n 0, 1) := by decide +kernel
theorem dX8_init_228 : decode cX8_init 228 = .ok (.bipush 6, 2) := by decide +kernel
theorem dX8_init_230 : decode cX8_init 230 = .ok (.newarray .int, 2) := by decide +kernel
theorem dX8_init_232 : decode cX8_init 232 = .ok (.putfield 78, 3) := by decide +kernel
theorem dX8_init_235 : decode cX8_init 235 = .ok (.aload_n 0, 1) := by decide +kernel
theorem dX8_init_236 : decode cX8_init 236 = .ok (.bipush 6, 2) := by decide +kernel
theorem dX8_init_238 : decode cX8_init 238 = .ok (.newarray .int, 2) := by decide +kernel
theorem dX8_init_240 : decode cX8_init 240 = .ok (.putfield 81, 3) := by decide +kernel
theorem dX8_init_243 : decode cX8_init 243 = .ok (.aload_n 0, 1) := by decide +kernel
theorem dX8_init_244 : decode cX8_init 244 = .ok (.bipush 24, 2) := by decide +kernel
theorem dX8_init_246 : decode cX8_init 246 = .ok (.newarray .long, 2) := by decide +kernel
theorem dX8_init_248 : decode cX8_init 248 = .ok (.putfield 84, 3) := by decide +kernel
theorem dX8_init_251 : decode cX8_init 251 = .ok (.aload_n 0, 1) := by decide +kernel
theorem dX8_init_252 : decode cX8_init 252 = .ok (.bipush 64, 2) := by decide +kernel
theorem dX8_init_254 : decode cX8_init 254 = .ok (.newarray .int, 2) := by decide +kernel
theorem dX8_init_256 : decode cX8_init 256 = .ok (.putfield 87, 3) := by decide +kernel
theorem dX8_init_259 : decode cX8_init 259 = .ok (.return_, 1) := by decide +kernel
theorem dX8_in_0 : decode cX8_in 0 = .ok (.iload_n 0, 1) := by decide +kernel
theorem dX8_in_1 : decode cX8_in 1 = .ok (.iload_n 1, 1) := by decide +kernel
theorem dX8_in_2 : decode cX8_in 2 = .ok (.if_icmp .lt 12, 3) := by decide +kernel
theorem dX8_in_5 : decode cX8_in 5 = .ok (.iload_n 0, 1) := by decide +kernel
theorem dX8_in_6 : decode cX8_in 6 = .ok (.iload_n 2, 1) := by decide +kernel
theorem dX8_in_7 : decode cX8_in 7 = .ok (.if_icmp .gt 7, 3) := by decide +kernel
theorem dX8_in_10 : decode cX8_in 10 = .ok (.iconst 1, 1) := by decide +kernel
theorem dX8_in_11 : decode cX8_in 11 = .ok (.goto 4, 3) := by decide +kernel
theorem dX8_in_14 : decode cX8_in 14 = .ok (.iconst 0, 1) := by decide +kernel
theorem dX8_in_15 : decode cX8_in 15 = .ok (.ireturn, 1) := by decide +kernel
theorem dX8_isType_0 : decode cX8_isType 0 = .ok (.iload_n 1, 1) := by decide +kernel
theorem dX8_isType_1 : decode cX8_isType 1 = .ok (.iconst 0, 1) := by decide +kernel
theorem dX8_isType_2 : decode cX8_isType 2 = .ok (.aload_n 0, 1) := by decide +kernel
theorem dX8_isType_3 : decode cX8_isType 3 = .ok (.getfield 90, 3) := by decide +kernel
theorem dX8_isType_6 : decode cX8_isType 6 = .ok (.iconst 1, 1) := by decide +kernel
theorem dX8_isType_7 : decode cX8_isType 7 = .ok (.isub, 1) := by decide +kernel
theorem dX8_isType_8 : decode cX8_isType 8 = .ok (.invokestatic 94, 3) := by decide +kernel
theorem dX8_isType_11 : decode cX8_isType 11 = .ok (.ireturn, 1) := by decide +kernel
theorem dX8_isPlace_0 : decode cX8_isPlace 0 = .ok (.iload_n 0, 1) := by decide +kernel
theorem dX8_isPlace_1 : decode cX8_isPlace 1 = .ok (.iconst 0, 1) := by decide +kernel
theorem dX8_isPlace_2 : decode cX8_isPlace 2 = .ok (.bipush 7, 2) := by decide +kernel
theorem dX8_isPlace_4 : decode cX8_isPlace 4 = .ok (.invokestatic 94, 3) := by decide +kernel
theorem dX8_isPlace_7 : decode cX8_isPlace 7 = .ok (.ireturn, 1) := by decide +kernel
theorem dX8_isName_0 : decode cX8_isName 0 = .ok (.iload_n 0, 1) := by decide +kernel
theorem dX8_isName_1 : decode cX8_isName 1 = .ok (.iconst 0, 1) := by decide +kernel
theorem dX8_isName_2 : decode cX8_isName 2 = .ok (.bipush 7, 2) := by decide +kernel
theorem dX8_isName_4 : decode cX8_isName 4 = .ok (.invokestatic 94, 3) := by decide +kernel
theorem dX8_isName_7 : decode cX8_isName 7 = .ok (.ireturn, 1) := by decide +kernel
theorem dX8_isInMethod_0 : decode cX8_isInMethod 0 = .ok (.iload_n 0, 1) := by decide +kernel
theorem dX8_isInMethod_1 : decode cX8_isInMethod 1 = .ok (.iconst 3, 1) := by decide +kernel
theorem dX8_isInMethod_2 : decode cX8_isInMethod 2 = .ok (.if_icmp .lt 7, 3) := by decide +kernel
theorem dX8_isInMethod_5 : decode cX8_isInMethod 5 = .ok (.iconst 1, 1) := by decide +kernel
theorem dX8_isInMethod_6 : decode cX8_isInMethod 6 = .ok (.goto 4, 3) := by decide +kernel
theorem dX8_isInMethod_9 : decode cX8_isInMethod 9 = .ok (.iconst 0, 1) := by decide +kernel
theorem dX8_isInMethod_10 : decode cX8_isInMethod 10 = .ok (.ireturn, 1) := by decide +kernel
theorem dX8_isBound_0 : decode cX8_isBound 0 = .ok (.aload_n 0, 1) := by decide +kernel
theorem dX8_isBound_1 : decode cX8_isBound 1 = .ok (.getfield 7, 3) := by decide +kernel
theorem dX8_isBound_4 : decode cX8_isBound 4 = .ok (.iload_n 1, 1) := by decide +kernel
theorem dX8_isBound_5 : decode cX8_isBound 5 = .ok (.iaload, 1) := by decide +kernel
theorem dX8_isBound_6 : decode cX8_isBound 6 = .ok (.iconst 2, 1) := by decide +kernel
theorem dX8_isBound_7 : decode cX8_isBound 7 = .ok (.if_icmp .eq 37, 3) := by decide +kernel
theorem dX8_isBound_10 : decode cX8_isBound 10 = .ok (.aload_n 0, 1) := by decide +kernel
theorem dX8_isBound_11 : decode cX8_isBound 11 = .ok (.getfield 7, 3) := by decide +kernel
theorem dX8_isBound_14 : decode cX8_isBound 14 = .ok (.iload_n 1, 1) := by decide +kernel
theorem dX8_isBound_15 : decode cX8_isBound 15 = .ok (.iaload, 1) := by decide +kernel
theorem dX8_isBound_16 : decode cX8_isBound 16 = .ok (.iconst 3, 1) := by decide +kernel
theorem dX8_isBound_17 : decode cX8_isBound 17 = .ok (.if_icmp .eq 13, 3) := by decide +kernel
theorem dX8_isBound_20 : decode cX8_isBound 20 = .ok (.aload_n 0, 1) := by decide +kernel
theorem dX8_isBound_21 : decode cX8_isBound 21 = .ok (.getfield 7, 3) := by decide +kernel
theorem dX8_isBound_24 : decode cX8_isBound 24 = .ok (.iload_n 1, 1) := by decide +kernel
theorem dX8_isBound_25 : decode cX8_isBound 25 = .ok (.iaload, 1) := by decide +kernel
theorem dX8_isBound_26 : decode cX8_isBound 26 = .ok (.iconst 5, 1) := by decide +kernel
theorem dX8_isBound_27 : decode cX8_isBound 27 = .ok (.if_icmp .ne 21, 3) := by decide +kernel
theorem dX8_isBound_30 : decode cX8_isBound 30 = .ok (.aload_n 0, 1) := by decide +kernel
theorem dX8_isBound_31 : decode cX8_isBound 31 = .ok (.getfield 42, 3) := by decide +kernel
theorem dX8_isBound_34 : decode cX8_isBound 34 = .ok (.aload_n 0, 1) := by decide +kernel
theorem dX8_isBound_35 : decode cX8_isBound 35 = .ok (.getfield 13, 3) := by decide +kernel
theorem dX8_isBound_38 : decode cX8_isBound 38 = .ok (.iload_n 1, 1) := by decide +kernel
theorem dX8_isBound_39 : decode cX8_isBound 39 = .ok (.iaload, 1) := by decide +kernel
theorem dX8_isBound_40 : decode cX8_isBound 40 = .ok (.baload, 1) := by decide +kernel
theorem dX8_isBound_41 : decode cX8_isBound 41 = .ok (.ifCond .ne 7, 3) := by decide +kernel
theorem dX8_isBound_44 : decode cX8_isBound 44 = .ok (.iconst 1, 1) := by decide +kernel
theorem dX8_isBound_45 : decode cX8_isBound 45 = .ok (.goto 4, 3) := by decide +kernel
theorem dX8_isBound_48 : decode cX8_isBound 48 = .ok (.iconst 0, 1) := by decide +kernel
theorem dX8_isBound_49 : decode cX8_isBound 49 = .ok (.ireturn, 1) := by decide +kernel
theorem dX8_isTaken_0 : decode cX8_isTaken 0 = .ok (.iconst 0, 1) := by decide +kernel
theorem dX8_isTaken_1 : decode cX8_isTaken 1 = .ok (.istore 4, 2) := by decide +kernel
theorem dX8_isTaken_3 : decode cX8_isTaken 3 = .ok (.iload_n 1, 1) := by decide +kernel
theorem dX8_isTaken_4 : decode cX8_isTaken 4 = .ok (.ifCond .ne 55, 3) := by decide +kernel
theorem dX8_isTaken_7 : decode cX8_isTaken 7 = .ok (.iconst 0, 1) := by decide +kernel
theorem dX8_isTaken_8 : decode cX8_isTaken 8 = .ok (.istore 5, 2) := by decide +kernel
theorem dX8_isTaken_10 : decode cX8_isTaken 10 = .ok (.iload 5, 2) := by decide +kernel
theorem dX8_isTaken_12 : decode cX8_isTaken 12 = .ok (.aload_n 0, 1) := by decide +kernel
theorem dX8_isTaken_13 : decode cX8_isTaken 13 = .ok (.getfield 90, 3) := by decide +kernel
theorem dX8_isTaken_16 : decode cX8_isTaken 16 = .ok (.if_icmp .ge 40, 3) := by decide +kernel
theorem dX8_isTaken_19 : decode cX8_isTaken 19 = .ok (.iload 4, 2) := by decide +kernel
theorem dX8_isTaken_21 : decode cX8_isTaken 21 = .ok (.aload_n 0, 1) := by decide +kernel
theorem dX8_isTaken_22 : decode cX8_isTaken 22 = .ok (.getfield 7, 3) := by decide +kernel
theorem dX8_isTaken_25 : decode cX8_isTaken 25 = .ok (.iload 5, 2) := by decide +kernel
theorem dX8_isTaken_27 : decode cX8_isTaken 27 = .ok (.iaload, 1) := by decide +kernel
theorem dX8_isTaken_28 : decode cX8_isTaken 28 = .ok (.ifCond .ne 18, 3) := by decide +kernel
theorem dX8_isTaken_31 : decode cX8_isTaken 31 = .ok (.aload_n 0, 1) := by decide +kernel
theorem dX8_isTaken_32 : decode cX8_isTaken 32 = .ok (.getfield 16, 3) := by decide +kernel
theorem dX8_isTaken_35 : decode cX8_isTaken 35 = .ok (.iload 5, 2) := by decide +kernel
theorem dX8_isTaken_37 : decode cX8_isTaken 37 = .ok (.iaload, 1) := by decide +kernel
theorem dX8_isTaken_38 : decode cX8_isTaken 38 = .ok (.iload_n 3, 1) := by decide +kernel
theorem dX8_isTaken_39 : decode cX8_isTaken 39 = .ok (.if_icmp .ne 7, 3) := by decide +kernel
theorem dX8_isTaken_42 : decode cX8_isTaken 42 = .ok (.iconst 1, 1) := by decide +kernel
theorem dX8_isTaken_43 : decode cX8_isTaken 43 = .ok (.goto 4, 3) := by decide +kernel
theorem dX8_isTaken_46 : decode cX8_isTaken 46 = .ok (.iconst 0, 1) := by decide +kernel
theorem dX8_isTaken_47 : decode cX8_isTaken 47 = .ok (.ior, 1) := by decide +kernel
theorem dX8_isTaken_48 : decode cX8_isTaken 48 = .ok (.istore 4, 2) := by decide +kernel
theorem dX8_isTaken_50 : decode cX8_isTaken 50 = .ok (.iinc 5 1, 3) := by decide +kernel
theorem dX8_isTaken_53 : decode cX8_isTaken 53 = .ok (.goto (-43), 3) := by decide +kernel
theorem dX8_isTaken_56 : decode cX8_isTaken 56 = .ok (.iload 4, 2) := by decide +kernel
theorem dX8_isTaken_58 : decode cX8_isTaken 58 = .ok (.ireturn, 1) := by decide +kernel
theorem dX8_isTaken_59 : decode cX8_isTaken 59 = .ok (.iload_n 1, 1) := by decide +kernel
theorem dX8_isTaken_60 : decode cX8_isTaken 60 = .ok (.iconst 5, 1) := by decide +kernel
theorem dX8_isTaken_61 : decode cX8_isTaken 61 = .ok (.if_icmp .ne 5, 3) := by decide +kernel
theorem dX8_isTaken_64 : decode cX8_isTaken 64 = .ok (.iconst 0, 1) := by decide +kernel
theorem dX8_isTaken_65 : decode cX8_isTaken 65 = .ok (.ireturn, 1) := by decide +kernel
theorem dX8_isTaken_66 : decode cX8_isTaken 66 = .ok (.iload_n 2, 1) := by decide +kernel
theorem dX8_isTaken_67 : decode cX8_isTaken 67 = .ok (.istore 5, 2) := by decide +kernel
theorem dX8_isTaken_69 : decode cX8_isTaken 69 = .ok (.iload 5, 2) := by decide +kernel
theorem dX8_isTaken_71 : decode cX8_isTaken 71 = .ok (.ifCond .lt 36, 3) := by decide +kernel
theorem dX8_isTaken_74 : decode cX8_isTaken 74 = .ok (.iload 4, 2) := by decide +kernel
theorem dX8_isTaken_76 : decode cX8_isTaken 76 = .ok (.aload_n 0, 1) := by decide +kernel
theorem dX8_isTaken_77 : decode cX8_isTaken 77 = .ok (.getfield 16, 3) := by decide +kernel
theorem dX8_isTaken_80 : decode cX8_isTaken 80 = .ok (.iload 5, 2) := by decide +kernel
theorem dX8_isTaken_82 : decode cX8_isTaken 82 = .ok (.iaload, 1) := by decide +kernel
theorem dX8_isTaken_83 : decode cX8_isTaken 83 = .ok (.iload_n 3, 1) := by decide +kernel
theorem dX8_isTaken_84 : decode cX8_isTaken 84 = .ok (.if_icmp .ne 7, 3) := by decide +kernel
theorem dX8_isTaken_87 : decode cX8_isTaken 87 = .ok (.iconst 1, 1) := by decide +kernel
theorem dX8_isTaken_88 : decode cX8_isTaken 88 = .ok (.goto 4, 3) := by decide +kernel
theorem dX8_isTaken_91 : decode cX8_isTaken 91 = .ok (.iconst 0, 1) := by decide +kernel
theorem dX8_isTaken_92 : decode cX8_isTaken 92 = .ok (.ior, 1) := by decide +kernel
theorem dX8_isTaken_93 : decode cX8_isTaken 93 = .ok (.istore 4, 2) := by decide +kernel
theorem dX8_isTaken_95 : decode cX8_isTaken 95 = .ok (.aload_n 0, 1) := by decide +kernel
theorem dX8_isTaken_96 : decode cX8_isTaken 96 = .ok (.getfield 13, 3) := by decide +kernel
theorem dX8_isTaken_99 : decode cX8_isTaken 99 = .ok (.iload 5, 2) := by decide +kernel
theorem dX8_isTaken_101 : decode cX8_isTaken 101 = .ok (.iaload, 1) := by decide +kernel
theorem dX8_isTaken_102 : decode cX8_isTaken 102 = .ok (.istore 5, 2) := by decide +kernel
theorem dX8_isTaken_104 : decode cX8_isTaken 104 = .ok (.goto (-35), 3) := by decide +kernel
theorem dX8_isTaken_107 : decode cX8_isTaken 107 = .ok (.iconst 0, 1) := by decide +kernel
theorem dX8_isTaken_108 : decode cX8_isTaken 108 = .ok (.istore 5, 2) := by decide +kernel
theorem dX8_isTaken_110 : decode cX8_isTaken 110 = .ok (.iload 5, 2) := by decide +kernel
theorem dX8_isTaken_112 : decode cX8_isTaken 112 = .ok (.aload_n 0, 1) := by decide +kernel
theorem dX8_isTaken_113 : decode cX8_isTaken 113 = .ok (.getfield 90, 3) := by decide +kernel
theorem dX8_isTaken_116 : decode cX8_isTaken 116 = .ok (.if_icmp .ge 68, 3) := by decide +kernel
theorem dX8_isTaken_119 : decode cX8_isTaken 119 = .ok (.iload_n 1, 1) := by decide +kernel
theorem dX8_isTaken_120 : decode cX8_isTaken 120 = .ok (.iconst 3, 1) := by decide +kernel
theorem dX8_isTaken_121 : decode cX8_isTaken 121 = .ok (.if_icmp .ge 63, 3) := by decide +kernel
theorem dX8_isTaken_124 : decode cX8_isTaken 124 = .ok (.iload 4, 2) := by decide +kernel
theorem dX8_isTaken_126 : decode cX8_isTaken 126 = .ok (.aload_n 0, 1) := by decide +kernel
theorem dX8_isTaken_127 : decode cX8_isTaken 127 = .ok (.getfield 7, 3) := by decide +kernel
theorem dX8_isTaken_130 : decode cX8_isTaken 130 = .ok (.iload 5, 2) := by decide +kernel
theorem dX8_isTaken_132 : decode cX8_isTaken 132 = .ok (.iaload, 1) := by decide +kernel
theorem dX8_isTaken_133 : decode cX8_isTaken 133 = .ok (.iconst 1, 1) := by decide +kernel
theorem dX8_isTaken_134 : decode cX8_isTaken 134 = .ok (.if_icmp .eq 14, 3) := by decide +kernel
theorem dX8_isTaken_137 : decode cX8_isTaken 137 = .ok (.aload_n 0, 1) := by decide +kernel
theorem dX8_isTaken_138 : decode cX8_isTaken 138 = .ok (.getfield 7, 3) := by decide +kernel
theorem dX8_isTaken_141 : decode cX8_isTaken 141 = .ok (.iload 5, 2) := by decide +kernel
theorem dX8_isTaken_143 : decode cX8_isTaken 143 = .ok (.iaload, 1) := by decide +kernel
theorem dX8_isTaken_144 : decode cX8_isTaken 144 = .ok (.iconst 2, 1) := by decide +kernel
theorem dX8_isTaken_145 : decode cX8_isTaken 145 = .ok (.if_icmp .ne 29, 3) := by decide +kernel
theorem dX8_isTaken_148 : decode cX8_isTaken 148 = .ok (.aload_n 0, 1) := by decide +kernel
theorem dX8_isTaken_149 : decode cX8_isTaken 149 = .ok (.getfield 13, 3) := by decide +kernel
theorem dX8_isTaken_152 : decode cX8_isTaken 152 = .ok (.iload 5, 2) := by decide +kernel
theorem dX8_isTaken_154 : decode cX8_isTaken 154 = .ok (.iaload, 1) := by decide +kernel
theorem dX8_isTaken_155 : decode cX8_isTaken 155 = .ok (.iload_n 2, 1) := by decide +kernel
theorem dX8_isTaken_156 : decode cX8_isTaken 156 = .ok (.if_icmp .ne 18, 3) := by decide +kernel
theorem dX8_isTaken_159 : decode cX8_isTaken 159 = .ok (.aload_n 0, 1) := by decide +kernel
theorem dX8_isTaken_160 : decode cX8_isTaken 160 = .ok (.getfield 16, 3) := by decide +kernel
theorem dX8_isTaken_163 : decode cX8_isTaken 163 = .ok (.iload 5, 2) := by decide +kernel
theorem dX8_isTaken_165 : decode cX8_isTaken 165 = .ok (.iaload, 1) := by decide +kernel
theorem dX8_isTaken_166 : decode cX8_isTaken 166 = .ok (.iload_n 3, 1) := by decide +kernel
theorem dX8_isTaken_167 : decode cX8_isTaken 167 = .ok (.if_icmp .ne 7, 3) := by decide +kernel
theorem dX8_isTaken_170 : decode cX8_isTaken 170 = .ok (.iconst 1, 1) := by decide +kernel
theorem dX8_isTaken_171 : decode cX8_isTaken 171 = .ok (.goto 4, 3) := by decide +kernel
theorem dX8_isTaken_174 : decode cX8_isTaken 174 = .ok (.iconst 0, 1) := by decide +kernel
theorem dX8_isTaken_175 : decode cX8_isTaken 175 = .ok (.ior, 1) := by decide +kernel
theorem dX8_isTaken_176 : decode cX8_isTaken 176 = .ok (.istore 4, 2) := by decide +kernel
theorem dX8_isTaken_178 : decode cX8_isTaken 178 = .ok (.iinc 5 1, 3) := by decide +kernel
theorem dX8_isTaken_181 : decode cX8_isTaken 181 = .ok (.goto (-71), 3) := by decide +kernel
theorem dX8_isTaken_184 : decode cX8_isTaken 184 = .ok (.iload 4, 2) := by decide +kernel
theorem dX8_isTaken_186 : decode cX8_isTaken 186 = .ok (.ireturn, 1) := by decide +kernel
theorem dX8_type_0 : decode cX8_type 0 = .ok (.iload_n 1, 1) := by decide +kernel
theorem dX8_type_1 : decode cX8_type 1 = .ok (.iconst 0, 1) := by decide +kernel
theorem dX8_type_2 : decode cX8_type 2 = .ok (.iconst 5, 1) := by decide +kernel
theorem dX8_type_3 : decode cX8_type 3 = .ok (.invokestatic 94, 3) := by decide +kernel
theorem dX8_type_6 : decode cX8_type 6 = .ok (.ifCond .eq 30, 3) := by decide +kernel
theorem dX8_type_9 : decode cX8_type 9 = .ok (.iload_n 1, 1) := by decide +kernel
theorem dX8_type_10 : decode cX8_type 10 = .ok (.iconst 5, 1) := by decide +kernel
theorem dX8_type_11 : decode cX8_type 11 = .ok (.if_icmp .eq 13, 3) := by decide +kernel
theorem dX8_type_14 : decode cX8_type 14 = .ok (.iload_n 3, 1) := by decide +kernel
theorem dX8_type_15 : decode cX8_type 15 = .ok (.iconst 0, 1) := by decide +kernel
theorem dX8_type_16 : decode cX8_type 16 = .ok (.bipush 25, 2) := by decide +kernel
theorem dX8_type_18 : decode cX8_type 18 = .ok (.invokestatic 94, 3) := by decide +kernel
theorem dX8_type_21 : decode cX8_type 21 = .ok (.ifCond .eq 15, 3) := by decide +kernel
theorem dX8_type_24 : decode cX8_type 24 = .ok (.iload_n 1, 1) := by decide +kernel
theorem dX8_type_25 : decode cX8_type 25 = .ok (.ifCond .eq 13, 3) := by decide +kernel
theorem dX8_type_28 : decode cX8_type 28 = .ok (.aload_n 0, 1) := by decide +kernel
theorem dX8_type_29 : decode cX8_type 29 = .ok (.iload_n 2, 1) := by decide +kernel
theorem dX8_type_30 : decode cX8_type 30 = .ok (.invokevirtual 98, 3) := by decide +kernel
theorem dX8_type_33 : decode cX8_type 33 = .ok (.ifCond .ne 5, 3) := by decide +kernel
theorem dX8_type_36 : decode cX8_type 36 = .ok (.iconst (-1), 1) := by decide +kernel
theorem dX8_type_37 : decode cX8_type 37 = .ok (.ireturn, 1) := by decide +kernel
theorem dX8_type_38 : decode cX8_type 38 = .ok (.aload_n 0, 1) := by decide +kernel
theorem dX8_type_39 : decode cX8_type 39 = .ok (.getfield 90, 3) := by decide +kernel
theorem dX8_type_42 : decode cX8_type 42 = .ok (.bipush 12, 2) := by decide +kernel
theorem dX8_type_44 : decode cX8_type 44 = .ok (.if_icmp .ne 6, 3) := by decide +kernel
theorem dX8_type_47 : decode cX8_type 47 = .ok (.bipush (-2), 2) := by decide +kernel
theorem dX8_type_49 : decode cX8_type 49 = .ok (.ireturn, 1) := by decide +kernel
theorem dX8_type_50 : decode cX8_type 50 = .ok (.aload_n 0, 1) := by decide +kernel
theorem dX8_type_51 : decode cX8_type 51 = .ok (.iload_n 1, 1) := by decide +kernel
theorem dX8_type_52 : decode cX8_type 52 = .ok (.iload_n 2, 1) := by decide +kernel
theorem dX8_type_53 : decode cX8_type 53 = .ok (.iload_n 3, 1) := by decide +kernel
theorem dX8_type_54 : decode cX8_type 54 = .ok (.invokevirtual 102, 3) := by decide +kernel
theorem dX8_type_57 : decode cX8_type 57 = .ok (.ifCond .eq 6, 3) := by decide +kernel
theorem dX8_type_60 : decode cX8_type 60 = .ok (.bipush (-4), 2) := by decide +kernel
theorem dX8_type_62 : decode cX8_type 62 = .ok (.ireturn, 1) := by decide +kernel
theorem dX8_type_63 : decode cX8_type 63 = .ok (.aload_n 0, 1) := by decide +kernel
theorem dX8_type_64 : decode cX8_type 64 = .ok (.getfield 90, 3) := by decide +kernel
theorem dX8_type_67 : decode cX8_type 67 = .ok (.istore 4, 2) := by decide +kernel
theorem dX8_type_69 : decode cX8_type 69 = .ok (.aload_n 0, 1) := by decide +kernel
theorem dX8_type_70 : decode cX8_type 70 = .ok (.getfield 7, 3) := by decide +kernel
theorem dX8_type_73 : decode cX8_type 73 = .ok (.iload 4, 2) := by decide +kernel
theorem dX8_type_75 : decode cX8_type 75 = .ok (.iload_n 1, 1) := by decide +kernel
theorem dX8_type_76 : decode cX8_type 76 = .ok (.iastore, 1) := by decide +kernel
theorem dX8_type_77 : decode cX8_type 77 = .ok (.aload_n 0, 1) := by decide +kernel
theorem dX8_type_78 : decode cX8_type 78 = .ok (.getfield 13, 3) := by decide +kernel
theorem dX8_type_81 : decode cX8_type 81 = .ok (.iload 4, 2) := by decide +kernel
theorem dX8_type_83 : decode cX8_type 83 = .ok (.iload_n 1, 1) := by decide +kernel
theorem dX8_type_84 : decode cX8_type 84 = .ok (.ifCond .ne 8, 3) := by decide +kernel
theorem dX8_type_87 : decode cX8_type 87 = .ok (.bipush (-3), 2) := by decide +kernel
theorem dX8_type_89 : decode cX8_type 89 = .ok (.goto 4, 3) := by decide +kernel
theorem dX8_type_92 : decode cX8_type 92 = .ok (.iload_n 2, 1) := by decide +kernel
theorem dX8_type_93 : decode cX8_type 93 = .ok (.iastore, 1) := by decide +kernel
theorem dX8_type_94 : decode cX8_type 94 = .ok (.aload_n 0, 1) := by decide +kernel
theorem dX8_type_95 : decode cX8_type 95 = .ok (.getfield 16, 3) := by decide +kernel
theorem dX8_type_98 : decode cX8_type 98 = .ok (.iload 4, 2) := by decide +kernel
theorem dX8_type_100 : decode cX8_type 100 = .ok (.iload_n 1, 1) := by decide +kernel
theorem dX8_type_101 : decode cX8_type 101 = .ok (.iconst 5, 1) := by decide +kernel
theorem dX8_type_102 : decode cX8_type 102 = .ok (.if_icmp .ne 8, 3) := by decide +kernel
theorem dX8_type_105 : decode cX8_type 105 = .ok (.bipush (-3), 2) := by decide +kernel
theorem dX8_type_107 : decode cX8_type 107 = .ok (.goto 4, 3) := by decide +kernel
theorem dX8_type_110 : decode cX8_type 110 = .ok (.iload_n 3, 1) := by decide +kernel
theorem dX8_type_111 : decode cX8_type 111 = .ok (.iastore, 1) := by decide +kernel
theorem dX8_type_112 : decode cX8_type 112 = .ok (.aload_n 0, 1) := by decide +kernel
theorem dX8_type_113 : decode cX8_type 113 = .ok (.getfield 19, 3) := by decide +kernel
theorem dX8_type_116 : decode cX8_type 116 = .ok (.iload 4, 2) := by decide +kernel
theorem dX8_type_118 : decode cX8_type 118 = .ok (.iconst 1, 1) := by decide +kernel
theorem dX8_type_119 : decode cX8_type 119 = .ok (.iastore, 1) := by decide +kernel
theorem dX8_type_120 : decode cX8_type 120 = .ok (.iconst 0, 1) := by decide +kernel
theorem dX8_type_121 : decode cX8_type 121 = .ok (.istore 5, 2) := by decide +kernel
theorem dX8_type_123 : decode cX8_type 123 = .ok (.iload 5, 2) := by decide +kernel
theorem dX8_type_125 : decode cX8_type 125 = .ok (.aload_n 0, 1) := by decide +kernel
theorem dX8_type_126 : decode cX8_type 126 = .ok (.getfield 90, 3) := by decide +kernel
theorem dX8_type_129 : decode cX8_type 129 = .ok (.if_icmp .ge 72, 3) := by decide +kernel
theorem dX8_type_132 : decode cX8_type 132 = .ok (.aload_n 0, 1) := by decide +kernel
theorem dX8_type_133 : decode cX8_type 133 = .ok (.getfield 19, 3) := by decide +kernel
theorem dX8_type_136 : decode cX8_type 136 = .ok (.iload 4, 2) := by decide +kernel
theorem dX8_type_138 : decode cX8_type 138 = .ok (.dup2, 1) := by decide +kernel
theorem dX8_type_139 : decode cX8_type 139 = .ok (.iaload, 1) := by decide +kernel
theorem dX8_type_140 : decode cX8_type 140 = .ok (.iload_n 1, 1) := by decide +kernel
theorem dX8_type_141 : decode cX8_type 141 = .ok (.invokestatic 105, 3) := by decide +kernel
theorem dX8_type_144 : decode cX8_type 144 = .ok (.ifCond .eq 48, 3) := by decide +kernel
theorem dX8_type_147 : decode cX8_type 147 = .ok (.aload_n 0, 1) := by decide +kernel
theorem dX8_type_148 : decode cX8_type 148 = .ok (.getfield 7, 3) := by decide +kernel
theorem dX8_type_151 : decode cX8_type 151 = .ok (.iload 5, 2) := by decide +kernel
theorem dX8_type_153 : decode cX8_type 153 = .ok (.iaload, 1) := by decide +kernel
theorem dX8_type_154 : decode cX8_type 154 = .ok (.invokestatic 105, 3) := by decide +kernel
theorem dX8_type_157 : decode cX8_type 157 = .ok (.ifCond .eq 35, 3) := by decide +kernel
theorem dX8_type_160 : decode cX8_type 160 = .ok (.aload_n 0, 1) := by decide +kernel
theorem dX8_type_161 : decode cX8_type 161 = .ok (.getfield 13, 3) := by decide +kernel
theorem dX8_type_164 : decode cX8_type 164 = .ok (.iload 5, 2) := by decide +kernel
theorem dX8_type_166 : decode cX8_type 166 = .ok (.iaload, 1) := by decide +kernel
theorem dX8_type_167 : decode cX8_type 167 = .ok (.iload_n 2, 1) := by decide +kernel
theorem dX8_type_168 : decode cX8_type 168 = .ok (.if_icmp .ne 24, 3) := by decide +kernel
theorem dX8_type_171 : decode cX8_type 171 = .ok (.aload_n 0, 1) := by decide +kernel
theorem dX8_type_172 : decode cX8_type 172 = .ok (.getfield 16, 3) := by decide +kernel
theorem dX8_type_175 : decode cX8_type 175 = .ok (.iload 5, 2) := by decide +kernel
theorem dX8_type_177 : decode cX8_type 177 = .ok (.iaload, 1) := by decide +kernel
theorem dX8_type_178 : decode cX8_type 178 = .ok (.aload_n 0, 1) := by decide +kernel
theorem dX8_type_179 : decode cX8_type 179 = .ok (.getfield 16, 3) := by decide +kernel
theorem dX8_type_182 : decode cX8_type 182 = .ok (.iload 4, 2) := by decide +kernel
theorem dX8_type_184 : decode cX8_type 184 = .ok (.iaload, 1) := by decide +kernel
theorem dX8_type_185 : decode cX8_type 185 = .ok (.if_icmp .ne 7, 3) := by decide +kernel
theorem dX8_type_188 : decode cX8_type 188 = .ok (.iconst 1, 1) := by decide +kernel
theorem dX8_type_189 : decode cX8_type 189 = .ok (.goto 4, 3) := by decide +kernel
theorem dX8_type_192 : decode cX8_type 192 = .ok (.iconst 0, 1) := by decide +kernel
theorem dX8_type_193 : decode cX8_type 193 = .ok (.iadd, 1) := by decide +kernel
theorem dX8_type_194 : decode cX8_type 194 = .ok (.iastore, 1) := by decide +kernel
theorem dX8_type_195 : decode cX8_type 195 = .ok (.iinc 5 1, 3) := by decide +kernel
theorem dX8_type_198 : decode cX8_type 198 = .ok (.goto (-75), 3) := by decide +kernel
theorem dX8_type_201 : decode cX8_type 201 = .ok (.aload_n 0, 1) := by decide +kernel
theorem dX8_type_202 : decode cX8_type 202 = .ok (.getfield 22, 3) := by decide +kernel
theorem dX8_type_205 : decode cX8_type 205 = .ok (.iload 4, 2) := by decide +kernel
theorem dX8_type_207 : decode cX8_type 207 = .ok (.iload_n 1, 1) := by decide +kernel
theorem dX8_type_208 : decode cX8_type 208 = .ok (.invokestatic 105, 3) := by decide +kernel
theorem dX8_type_211 : decode cX8_type 211 = .ok (.ifCond .eq 12, 3) := by decide +kernel
theorem dX8_type_214 : decode cX8_type 214 = .ok (.aload_n 0, 1) := by decide +kernel
theorem dX8_type_215 : decode cX8_type 215 = .ok (.getfield 45, 3) := by decide +kernel
theorem dX8_type_218 : decode cX8_type 218 = .ok (.iload_n 2, 1) := by decide +kernel
theorem dX8_type_219 : decode cX8_type 219 = .ok (.iaload, 1) := by decide +kernel
theorem dX8_type_220 : decode cX8_type 220 = .ok (.goto 4, 3) := by decide +kernel
theorem dX8_type_223 : decode cX8_type 223 = .ok (.iconst 0, 1) := by decide +kernel
theorem dX8_type_224 : decode cX8_type 224 = .ok (.iastore, 1) := by decide +kernel
theorem dX8_type_225 : decode cX8_type 225 = .ok (.aload_n 0, 1) := by decide +kernel
theorem dX8_type_226 : decode cX8_type 226 = .ok (.getfield 25, 3) := by decide +kernel
theorem dX8_type_229 : decode cX8_type 229 = .ok (.iload 4, 2) := by decide +kernel
theorem dX8_type_231 : decode cX8_type 231 = .ok (.bipush (-3), 2) := by decide +kernel
theorem dX8_type_233 : decode cX8_type 233 = .ok (.iastore, 1) := by decide +kernel
theorem dX8_type_234 : decode cX8_type 234 = .ok (.aload_n 0, 1) := by decide +kernel
theorem dX8_type_235 : decode cX8_type 235 = .ok (.dup, 1) := by decide +kernel
theorem dX8_type_236 : decode cX8_type 236 = .ok (.getfield 90, 3) := by decide +kernel
theorem dX8_type_239 : decode cX8_type 239 = .ok (.iconst 1, 1) := by decide +kernel
theorem dX8_type_240 : decode cX8_type 240 = .ok (.iadd, 1) := by decide +kernel
theorem dX8_type_241 : decode cX8_type 241 = .ok (.putfield 90, 3) := by decide +kernel
theorem dX8_type_244 : decode cX8_type 244 = .ok (.iload 4, 2) := by decide +kernel
theorem dX8_type_246 : decode cX8_type 246 = .ok (.ireturn, 1) := by decide +kernel
theorem dX8_fieldOf_0 : decode cX8_fieldOf 0 = .ok (.iconst 0, 1) := by decide +kernel
theorem dX8_fieldOf_1 : decode cX8_fieldOf 1 = .ok (.istore_n 3, 1) := by decide +kernel
theorem dX8_fieldOf_2 : decode cX8_fieldOf 2 = .ok (.iload_n 3, 1) := by decide +kernel
theorem dX8_fieldOf_3 : decode cX8_fieldOf 3 = .ok (.aload_n 0, 1) := by decide +kernel
theorem dX8_fieldOf_4 : decode cX8_fieldOf 4 = .ok (.getfield 28, 3) := by decide +kernel
theorem dX8_fieldOf_7 : decode cX8_fieldOf 7 = .ok (.iload_n 1, 1) := by decide +kernel
theorem dX8_fieldOf_8 : decode cX8_fieldOf 8 = .ok (.iaload, 1) := by decide +kernel
theorem dX8_fieldOf_9 : decode cX8_fieldOf 9 = .ok (.if_icmp .ge 25, 3) := by decide +kernel
theorem dX8_fieldOf_12 : decode cX8_fieldOf 12 = .ok (.aload_n 0, 1) := by decide +kernel
theorem dX8_fieldOf_13 : decode cX8_fieldOf 13 = .ok (.getfield 31, 3) := by decide +kernel
theorem dX8_fieldOf_16 : decode cX8_fieldOf 16 = .ok (.iconst 4, 1) := by decide +kernel
theorem dX8_fieldOf_17 : decode cX8_fieldOf 17 = .ok (.iload_n 1, 1) := by decide +kernel
theorem dX8_fieldOf_18 : decode cX8_fieldOf 18 = .ok (.imul, 1) := by decide +kernel
theorem dX8_fieldOf_19 : decode cX8_fieldOf 19 = .ok (.iload_n 3, 1) := by decide +kernel
theorem dX8_fieldOf_20 : decode cX8_fieldOf 20 = .ok (.iadd, 1) := by decide +kernel
theorem dX8_fieldOf_21 : decode cX8_fieldOf 21 = .ok (.iaload, 1) := by decide +kernel
theorem dX8_fieldOf_22 : decode cX8_fieldOf 22 = .ok (.iload_n 2, 1) := by decide +kernel
theorem dX8_fieldOf_23 : decode cX8_fieldOf 23 = .ok (.if_icmp .ne 5, 3) := by decide +kernel
theorem dX8_fieldOf_26 : decode cX8_fieldOf 26 = .ok (.iload_n 3, 1) := by decide +kernel
theorem dX8_fieldOf_27 : decode cX8_fieldOf 27 = .ok (.ireturn, 1) := by decide +kernel
theorem dX8_fieldOf_28 : decode cX8_fieldOf 28 = .ok (.iinc 3 1, 3) := by decide +kernel
theorem dX8_fieldOf_31 : decode cX8_fieldOf 31 = .ok (.goto (-29), 3) := by decide +kernel
theorem dX8_fieldOf_34 : decode cX8_fieldOf 34 = .ok (.bipush (-3), 2) := by decide +kernel
theorem dX8_fieldOf_36 : decode cX8_fieldOf 36 = .ok (.ireturn, 1) := by decide +kernel
theorem dX8_field_0 : decode cX8_field 0 = .ok (.aload_n 0, 1) := by decide +kernel
theorem dX8_field_1 : decode cX8_field 1 = .ok (.iload_n 1, 1) := by decide +kernel
theorem dX8_field_2 : decode cX8_field 2 = .ok (.invokevirtual 98, 3) := by decide +kernel
theorem dX8_field_5 : decode cX8_field 5 = .ok (.ifCond .eq 10, 3) := by decide +kernel
theorem dX8_field_8 : decode cX8_field 8 = .ok (.iload_n 2, 1) := by decide +kernel
theorem dX8_field_9 : decode cX8_field 9 = .ok (.invokestatic 108, 3) := by decide +kernel
theorem dX8_field_12 : decode cX8_field 12 = .ok (.ifCond .ne 5, 3) := by decide +kernel
theorem dX8_field_15 : decode cX8_field 15 = .ok (.iconst (-1), 1) := by decide +kernel
theorem dX8_field_16 : decode cX8_field 16 = .ok (.ireturn, 1) := by decide +kernel
theorem dX8_field_17 : decode cX8_field 17 = .ok (.aload_n 0, 1) := by decide +kernel
theorem dX8_field_18 : decode cX8_field 18 = .ok (.getfield 28, 3) := by decide +kernel
theorem dX8_field_21 : decode cX8_field 21 = .ok (.iload_n 1, 1) := by decide +kernel
theorem dX8_field_22 : decode cX8_field 22 = .ok (.iaload, 1) := by decide +kernel
theorem dX8_field_23 : decode cX8_field 23 = .ok (.iconst 4, 1) := by decide +kernel
theorem dX8_field_24 : decode cX8_field 24 = .ok (.if_icmp .ne 6, 3) := by decide +kernel
theorem dX8_field_27 : decode cX8_field 27 = .ok (.bipush (-2), 2) := by decide +kernel
theorem dX8_field_29 : decode cX8_field 29 = .ok (.ireturn, 1) := by decide +kernel
theorem dX8_field_30 : decode cX8_field 30 = .ok (.aload_n 0, 1) := by decide +kernel
theorem dX8_field_31 : decode cX8_field 31 = .ok (.iload_n 1, 1) := by decide +kernel
theorem dX8_field_32 : decode cX8_field 32 = .ok (.iload_n 2, 1) := by decide +kernel
theorem dX8_field_33 : decode cX8_field 33 = .ok (.invokevirtual 111, 3) := by decide +kernel
theorem dX8_field_36 : decode cX8_field 36 = .ok (.ifCond .lt 6, 3) := by decide +kernel
theorem dX8_field_39 : decode cX8_field 39 = .ok (.bipush (-4), 2) := by decide +kernel
theorem dX8_field_41 : decode cX8_field 41 = .ok (.ireturn, 1) := by decide +kernel
theorem dX8_field_42 : decode cX8_field 42 = .ok (.iconst 4, 1) := by decide +kernel
theorem dX8_field_43 : decode cX8_field 43 = .ok (.iload_n 1, 1) := by decide +kernel
theorem dX8_field_44 : decode cX8_field 44 = .ok (.imul, 1) := by decide +kernel
theorem dX8_field_45 : decode cX8_field 45 = .ok (.aload_n 0, 1) := by decide +kernel
theorem dX8_field_46 : decode cX8_field 46 = .ok (.getfield 28, 3) := by decide +kernel
theorem dX8_field_49 : decode cX8_field 49 = .ok (.iload_n 1, 1) := by decide +kernel
theorem dX8_field_50 : decode cX8_field 50 = .ok (.iaload, 1) := by decide +kernel
theorem dX8_field_51 : decode cX8_field 51 = .ok (.iadd, 1) := by decide +kernel
theorem dX8_field_52 : decode cX8_field 52 = .ok (.istore 6, 2) := by decide +kernel
theorem dX8_field_54 : decode cX8_field 54 = .ok (.aload_n 0, 1) := by decide +kernel
theorem dX8_field_55 : decode cX8_field 55 = .ok (.getfield 31, 3) := by decide +kernel
theorem dX8_field_58 : decode cX8_field 58 = .ok (.iload 6, 2) := by decide +kernel
theorem dX8_field_60 : decode cX8_field 60 = .ok (.iload_n 2, 1) := by decide +kernel
theorem dX8_field_61 : decode cX8_field 61 = .ok (.iastore, 1) := by decide +kernel
theorem dX8_field_62 : decode cX8_field 62 = .ok (.aload_n 0, 1) := by decide +kernel
theorem dX8_field_63 : decode cX8_field 63 = .ok (.getfield 34, 3) := by decide +kernel
theorem dX8_field_66 : decode cX8_field 66 = .ok (.iload 6, 2) := by decide +kernel
theorem dX8_field_68 : decode cX8_field 68 = .ok (.lload_n 3, 1) := by decide +kernel
theorem dX8_field_69 : decode cX8_field 69 = .ok (.lastore, 1) := by decide +kernel
theorem dX8_field_70 : decode cX8_field 70 = .ok (.aload_n 0, 1) := by decide +kernel
theorem dX8_field_71 : decode cX8_field 71 = .ok (.getfield 38, 3) := by decide +kernel
theorem dX8_field_74 : decode cX8_field 74 = .ok (.iload 6, 2) := by decide +kernel
theorem dX8_field_76 : decode cX8_field 76 = .ok (.iload 5, 2) := by decide +kernel
theorem dX8_field_78 : decode cX8_field 78 = .ok (.bastore, 1) := by decide +kernel
theorem dX8_field_79 : decode cX8_field 79 = .ok (.aload_n 0, 1) := by decide +kernel
theorem dX8_field_80 : decode cX8_field 80 = .ok (.getfield 28, 3) := by decide +kernel
theorem dX8_field_83 : decode cX8_field 83 = .ok (.iload_n 1, 1) := by decide +kernel
theorem dX8_field_84 : decode cX8_field 84 = .ok (.dup2, 1) := by decide +kernel
theorem dX8_field_85 : decode cX8_field 85 = .ok (.iaload, 1) := by decide +kernel
theorem dX8_field_86 : decode cX8_field 86 = .ok (.iconst 1, 1) := by decide +kernel
theorem dX8_field_87 : decode cX8_field 87 = .ok (.iadd, 1) := by decide +kernel
theorem dX8_field_88 : decode cX8_field 88 = .ok (.iastore, 1) := by decide +kernel
theorem dX8_field_89 : decode cX8_field 89 = .ok (.aload_n 0, 1) := by decide +kernel
theorem dX8_field_90 : decode cX8_field 90 = .ok (.getfield 28, 3) := by decide +kernel
theorem dX8_field_93 : decode cX8_field 93 = .ok (.iload_n 1, 1) := by decide +kernel
theorem dX8_field_94 : decode cX8_field 94 = .ok (.iaload, 1) := by decide +kernel
theorem dX8_field_95 : decode cX8_field 95 = .ok (.ireturn, 1) := by decide +kernel
theorem dX8_local_0 : decode cX8_local 0 = .ok (.aload_n 0, 1) := by decide +kernel
theorem dX8_local_1 : decode cX8_local 1 = .ok (.iload_n 1, 1) := by decide +kernel
theorem dX8_local_2 : decode cX8_local 2 = .ok (.invokevirtual 98, 3) := by decide +kernel
theorem dX8_local_5 : decode cX8_local 5 = .ok (.ifCond .eq 10, 3) := by decide +kernel
theorem dX8_local_8 : decode cX8_local 8 = .ok (.iload_n 2, 1) := by decide +kernel
theorem dX8_local_9 : decode cX8_local 9 = .ok (.invokestatic 108, 3) := by decide +kernel
theorem dX8_local_12 : decode cX8_local 12 = .ok (.ifCond .ne 5, 3) := by decide +kernel
theorem dX8_local_15 : decode cX8_local 15 = .ok (.iconst (-1), 1) := by decide +kernel
theorem dX8_local_16 : decode cX8_local 16 = .ok (.ireturn, 1) := by decide +kernel
theorem dX8_local_17 : decode cX8_local 17 = .ok (.aload_n 0, 1) := by decide +kernel
theorem dX8_local_18 : decode cX8_local 18 = .ok (.getfield 45, 3) := by decide +kernel
theorem dX8_local_21 : decode cX8_local 21 = .ok (.iload_n 1, 1) := by decide +kernel
theorem dX8_local_22 : decode cX8_local 22 = .ok (.iaload, 1) := by decide +kernel
theorem dX8_local_23 : decode cX8_local 23 = .ok (.iconst 4, 1) := by decide +kernel
theorem dX8_local_24 : decode cX8_local 24 = .ok (.if_icmp .ne 6, 3) := by decide +kernel
theorem dX8_local_27 : decode cX8_local 27 = .ok (.bipush (-2), 2) := by decide +kernel
theorem dX8_local_29 : decode cX8_local 29 = .ok (.ireturn, 1) := by decide +kernel
theorem dX8_local_30 : decode cX8_local 30 = .ok (.iconst 4, 1) := by decide +kernel
theorem dX8_local_31 : decode cX8_local 31 = .ok (.iload_n 1, 1) := by decide +kernel
theorem dX8_local_32 : decode cX8_local 32 = .ok (.imul, 1) := by decide +kernel
theorem dX8_local_33 : decode cX8_local 33 = .ok (.aload_n 0, 1) := by decide +kernel
theorem dX8_local_34 : decode cX8_local 34 = .ok (.getfield 45, 3) := by decide +kernel
theorem dX8_local_37 : decode cX8_local 37 = .ok (.iload_n 1, 1) := by decide +kernel
theorem dX8_local_38 : decode cX8_local 38 = .ok (.iaload, 1) := by decide +kernel
theorem dX8_local_39 : decode cX8_local 39 = .ok (.iadd, 1) := by decide +kernel
theorem dX8_local_40 : decode cX8_local 40 = .ok (.istore 5, 2) := by decide +kernel
theorem dX8_local_42 : decode cX8_local 42 = .ok (.aload_n 0, 1) := by decide +kernel
theorem dX8_local_43 : decode cX8_local 43 = .ok (.getfield 48, 3) := by decide +kernel
theorem dX8_local_46 : decode cX8_local 46 = .ok (.iload 5, 2) := by decide +kernel
theorem dX8_local_48 : decode cX8_local 48 = .ok (.iload_n 2, 1) := by decide +kernel
theorem dX8_local_49 : decode cX8_local 49 = .ok (.iastore, 1) := by decide +kernel
theorem dX8_local_50 : decode cX8_local 50 = .ok (.aload_n 0, 1) := by decide +kernel
theorem dX8_local_51 : decode cX8_local 51 = .ok (.getfield 51, 3) := by decide +kernel
theorem dX8_local_54 : decode cX8_local 54 = .ok (.iload 5, 2) := by decide +kernel
theorem dX8_local_56 : decode cX8_local 56 = .ok (.lload_n 3, 1) := by decide +kernel
theorem dX8_local_57 : decode cX8_local 57 = .ok (.lastore, 1) := by decide +kernel
theorem dX8_local_58 : decode cX8_local 58 = .ok (.aload_n 0, 1) := by decide +kernel
theorem dX8_local_59 : decode cX8_local 59 = .ok (.getfield 45, 3) := by decide +kernel
theorem dX8_local_62 : decode cX8_local 62 = .ok (.iload_n 1, 1) := by decide +kernel
theorem dX8_local_63 : decode cX8_local 63 = .ok (.dup2, 1) := by decide +kernel
theorem dX8_local_64 : decode cX8_local 64 = .ok (.iaload, 1) := by decide +kernel
theorem dX8_local_65 : decode cX8_local 65 = .ok (.iconst 1, 1) := by decide +kernel
theorem dX8_local_66 : decode cX8_local 66 = .ok (.iadd, 1) := by decide +kernel
theorem dX8_local_67 : decode cX8_local 67 = .ok (.iastore, 1) := by decide +kernel
theorem dX8_local_68 : decode cX8_local 68 = .ok (.aload_n 0, 1) := by decide +kernel
theorem dX8_local_69 : decode cX8_local 69 = .ok (.getfield 45, 3) := by decide +kernel
theorem dX8_local_72 : decode cX8_local 72 = .ok (.iload_n 1, 1) := by decide +kernel
theorem dX8_local_73 : decode cX8_local 73 = .ok (.iaload, 1) := by decide +kernel
theorem dX8_local_74 : decode cX8_local 74 = .ok (.ireturn, 1) := by decide +kernel
theorem dX8_assign_0 : decode cX8_assign 0 = .ok (.aload_n 0, 1) := by decide +kernel
theorem dX8_assign_1 : decode cX8_assign 1 = .ok (.iload_n 1, 1) := by decide +kernel
theorem dX8_assign_2 : decode cX8_assign 2 = .ok (.invokevirtual 98, 3) := by decide +kernel
theorem dX8_assign_5 : decode cX8_assign 5 = .ok (.ifCond .eq 19, 3) := by decide +kernel
theorem dX8_assign_8 : decode cX8_assign 8 = .ok (.iload_n 2, 1) := by decide +kernel
theorem dX8_assign_9 : decode cX8_assign 9 = .ok (.iconst 0, 1) := by decide +kernel
theorem dX8_assign_10 : decode cX8_assign 10 = .ok (.aload_n 0, 1) := by decide +kernel
theorem dX8_assign_11 : decode cX8_assign 11 = .ok (.getfield 45, 3) := by decide +kernel
theorem dX8_assign_14 : decode cX8_assign 14 = .ok (.iload_n 1, 1) := by decide +kernel
theorem dX8_assign_15 : decode cX8_assign 15 = .ok (.iaload, 1) := by decide +kernel
theorem dX8_assign_16 : decode cX8_assign 16 = .ok (.iconst 1, 1) := by decide +kernel
theorem dX8_assign_17 : decode cX8_assign 17 = .ok (.isub, 1) := by decide +kernel
theorem dX8_assign_18 : decode cX8_assign 18 = .ok (.invokestatic 94, 3) := by decide +kernel
theorem dX8_assign_21 : decode cX8_assign 21 = .ok (.ifCond .ne 5, 3) := by decide +kernel
theorem dX8_assign_24 : decode cX8_assign 24 = .ok (.iconst (-1), 1) := by decide +kernel
theorem dX8_assign_25 : decode cX8_assign 25 = .ok (.ireturn, 1) := by decide +kernel
theorem dX8_assign_26 : decode cX8_assign 26 = .ok (.iconst 4, 1) := by decide +kernel
theorem dX8_assign_27 : decode cX8_assign 27 = .ok (.iload_n 1, 1) := by decide +kernel
theorem dX8_assign_28 : decode cX8_assign 28 = .ok (.imul, 1) := by decide +kernel
theorem dX8_assign_29 : decode cX8_assign 29 = .ok (.iload_n 2, 1) := by decide +kernel
theorem dX8_assign_30 : decode cX8_assign 30 = .ok (.iadd, 1) := by decide +kernel
theorem dX8_assign_31 : decode cX8_assign 31 = .ok (.istore 5, 2) := by decide +kernel
theorem dX8_assign_33 : decode cX8_assign 33 = .ok (.aload_n 0, 1) := by decide +kernel
theorem dX8_assign_34 : decode cX8_assign 34 = .ok (.getfield 54, 3) := by decide +kernel
theorem dX8_assign_37 : decode cX8_assign 37 = .ok (.iload 5, 2) := by decide +kernel
theorem dX8_assign_39 : decode cX8_assign 39 = .ok (.baload, 1) := by decide +kernel
theorem dX8_assign_40 : decode cX8_assign 40 = .ok (.ifCond .eq 7, 3) := by decide +kernel
theorem dX8_assign_43 : decode cX8_assign 43 = .ok (.iconst 1, 1) := by decide +kernel
theorem dX8_assign_44 : decode cX8_assign 44 = .ok (.goto 4, 3) := by decide +kernel
theorem dX8_assign_47 : decode cX8_assign 47 = .ok (.iconst 0, 1) := by decide +kernel
theorem dX8_assign_48 : decode cX8_assign 48 = .ok (.istore 6, 2) := by decide +kernel
theorem dX8_assign_50 : decode cX8_assign 50 = .ok (.aload_n 0, 1) := by decide +kernel
theorem dX8_assign_51 : decode cX8_assign 51 = .ok (.getfield 54, 3) := by decide +kernel
theorem dX8_assign_54 : decode cX8_assign 54 = .ok (.iload 5, 2) := by decide +kernel
theorem dX8_assign_56 : decode cX8_assign 56 = .ok (.iconst 1, 1) := by decide +kernel
theorem dX8_assign_57 : decode cX8_assign 57 = .ok (.bastore, 1) := by decide +kernel
theorem dX8_assign_58 : decode cX8_assign 58 = .ok (.aload_n 0, 1) := by decide +kernel
theorem dX8_assign_59 : decode cX8_assign 59 = .ok (.getfield 51, 3) := by decide +kernel
theorem dX8_assign_62 : decode cX8_assign 62 = .ok (.iload 5, 2) := by decide +kernel
theorem dX8_assign_64 : decode cX8_assign 64 = .ok (.lload_n 3, 1) := by decide +kernel
theorem dX8_assign_65 : decode cX8_assign 65 = .ok (.lastore, 1) := by decide +kernel
theorem dX8_assign_66 : decode cX8_assign 66 = .ok (.iload 6, 2) := by decide +kernel
theorem dX8_assign_68 : decode cX8_assign 68 = .ok (.ireturn, 1) := by decide +kernel
theorem dX8_method_0 : decode cX8_method 0 = .ok (.aload_n 0, 1) := by decide +kernel
theorem dX8_method_1 : decode cX8_method 1 = .ok (.iload_n 1, 1) := by decide +kernel
theorem dX8_method_2 : decode cX8_method 2 = .ok (.invokevirtual 98, 3) := by decide +kernel
theorem dX8_method_5 : decode cX8_method 5 = .ok (.ifCond .ne 5, 3) := by decide +kernel
theorem dX8_method_8 : decode cX8_method 8 = .ok (.iconst (-1), 1) := by decide +kernel
theorem dX8_method_9 : decode cX8_method 9 = .ok (.ireturn, 1) := by decide +kernel
theorem dX8_method_10 : decode cX8_method 10 = .ok (.iconst 0, 1) := by decide +kernel
theorem dX8_method_11 : decode cX8_method 11 = .ok (.istore_n 3, 1) := by decide +kernel
theorem dX8_method_12 : decode cX8_method 12 = .ok (.iload_n 3, 1) := by decide +kernel
theorem dX8_method_13 : decode cX8_method 13 = .ok (.aload_n 0, 1) := by decide +kernel
theorem dX8_method_14 : decode cX8_method 14 = .ok (.getfield 90, 3) := by decide +kernel
theorem dX8_method_17 : decode cX8_method 17 = .ok (.if_icmp .ge 34, 3) := by decide +kernel
theorem dX8_method_20 : decode cX8_method 20 = .ok (.aload_n 0, 1) := by decide +kernel
theorem dX8_method_21 : decode cX8_method 21 = .ok (.getfield 7, 3) := by decide +kernel
theorem dX8_method_24 : decode cX8_method 24 = .ok (.iload_n 3, 1) := by decide +kernel
theorem dX8_method_25 : decode cX8_method 25 = .ok (.iaload, 1) := by decide +kernel
theorem dX8_method_26 : decode cX8_method 26 = .ok (.invokestatic 105, 3) := by decide +kernel
theorem dX8_method_29 : decode cX8_method 29 = .ok (.ifCond .eq 16, 3) := by decide +kernel
theorem dX8_method_32 : decode cX8_method 32 = .ok (.aload_n 0, 1) := by decide +kernel
theorem dX8_method_33 : decode cX8_method 33 = .ok (.getfield 13, 3) := by decide +kernel
theorem dX8_method_36 : decode cX8_method 36 = .ok (.iload_n 3, 1) := by decide +kernel
theorem dX8_method_37 : decode cX8_method 37 = .ok (.iaload, 1) := by decide +kernel
theorem dX8_method_38 : decode cX8_method 38 = .ok (.iload_n 1, 1) := by decide +kernel
theorem dX8_method_39 : decode cX8_method 39 = .ok (.if_icmp .ne 6, 3) := by decide +kernel
theorem dX8_method_42 : decode cX8_method 42 = .ok (.bipush (-4), 2) := by decide +kernel
theorem dX8_method_44 : decode cX8_method 44 = .ok (.ireturn, 1) := by decide +kernel
theorem dX8_method_45 : decode cX8_method 45 = .ok (.iinc 3 1, 3) := by decide +kernel
theorem dX8_method_48 : decode cX8_method 48 = .ok (.goto (-36), 3) := by decide +kernel
theorem dX8_method_51 : decode cX8_method 51 = .ok (.aload_n 0, 1) := by decide +kernel
theorem dX8_method_52 : decode cX8_method 52 = .ok (.getfield 42, 3) := by decide +kernel
theorem dX8_method_55 : decode cX8_method 55 = .ok (.iload_n 1, 1) := by decide +kernel
theorem dX8_method_56 : decode cX8_method 56 = .ok (.baload, 1) := by decide +kernel
theorem dX8_method_57 : decode cX8_method 57 = .ok (.ifCond .eq 7, 3) := by decide +kernel
theorem dX8_method_60 : decode cX8_method 60 = .ok (.iconst 1, 1) := by decide +kernel
theorem dX8_method_61 : decode cX8_method 61 = .ok (.goto 4, 3) := by decide +kernel
theorem dX8_method_64 : decode cX8_method 64 = .ok (.iconst 0, 1) := by decide +kernel
theorem dX8_method_65 : decode cX8_method 65 = .ok (.istore_n 3, 1) := by decide +kernel
theorem dX8_method_66 : decode cX8_method 66 = .ok (.aload_n 0, 1) := by decide +kernel
theorem dX8_method_67 : decode cX8_method 67 = .ok (.getfield 42, 3) := by decide +kernel
theorem dX8_method_70 : decode cX8_method 70 = .ok (.iload_n 1, 1) := by decide +kernel
theorem dX8_method_71 : decode cX8_method 71 = .ok (.iload_n 2, 1) := by decide +kernel
theorem dX8_method_72 : decode cX8_method 72 = .ok (.bastore, 1) := by decide +kernel
theorem dX8_method_73 : decode cX8_method 73 = .ok (.iload_n 3, 1) := by decide +kernel
theorem dX8_method_74 : decode cX8_method 74 = .ok (.ireturn, 1) := by decide +kernel
theorem dX8_parent_0 : decode cX8_parent 0 = .ok (.aload_n 0, 1) := by decide +kernel
theorem dX8_parent_1 : decode cX8_parent 1 = .ok (.iload_n 1, 1) := by decide +kernel
theorem dX8_parent_2 : decode cX8_parent 2 = .ok (.invokevirtual 98, 3) := by decide +kernel
theorem dX8_parent_5 : decode cX8_parent 5 = .ok (.ifCond .eq 31, 3) := by decide +kernel
theorem dX8_parent_8 : decode cX8_parent 8 = .ok (.aload_n 0, 1) := by decide +kernel
theorem dX8_parent_9 : decode cX8_parent 9 = .ok (.iload_n 2, 1) := by decide +kernel
theorem dX8_parent_10 : decode cX8_parent 10 = .ok (.invokevirtual 98, 3) := by decide +kernel
theorem dX8_parent_13 : decode cX8_parent 13 = .ok (.ifCond .eq 23, 3) := by decide +kernel
theorem dX8_parent_16 : decode cX8_parent 16 = .ok (.aload_n 0, 1) := by decide +kernel
theorem dX8_parent_17 : decode cX8_parent 17 = .ok (.getfield 7, 3) := by decide +kernel
theorem dX8_parent_20 : decode cX8_parent 20 = .ok (.iload_n 1, 1) := by decide +kernel
theorem dX8_parent_21 : decode cX8_parent 21 = .ok (.iaload, 1) := by decide +kernel
theorem dX8_parent_22 : decode cX8_parent 22 = .ok (.iconst 4, 1) := by decide +kernel
theorem dX8_parent_23 : decode cX8_parent 23 = .ok (.if_icmp .eq 13, 3) := by decide +kernel
theorem dX8_parent_26 : decode cX8_parent 26 = .ok (.aload_n 0, 1) := by decide +kernel
theorem dX8_parent_27 : decode cX8_parent 27 = .ok (.getfield 7, 3) := by decide +kernel
theorem dX8_parent_30 : decode cX8_parent 30 = .ok (.iload_n 2, 1) := by decide +kernel
theorem dX8_parent_31 : decode cX8_parent 31 = .ok (.iaload, 1) := by decide +kernel
theorem dX8_parent_32 : decode cX8_parent 32 = .ok (.iconst 4, 1) := by decide +kernel
theorem dX8_parent_33 : decode cX8_parent 33 = .ok (.if_icmp .ne 5, 3) := by decide +kernel
theorem dX8_parent_36 : decode cX8_parent 36 = .ok (.iconst (-1), 1) := by decide +kernel
theorem dX8_parent_37 : decode cX8_parent 37 = .ok (.ireturn, 1) := by decide +kernel
theorem dX8_parent_38 : decode cX8_parent 38 = .ok (.aload_n 0, 1) := by decide +kernel
theorem dX8_parent_39 : decode cX8_parent 39 = .ok (.getfield 25, 3) := by decide +kernel
theorem dX8_parent_42 : decode cX8_parent 42 = .ok (.iload_n 1, 1) := by decide +kernel
theorem dX8_parent_43 : decode cX8_parent 43 = .ok (.iaload, 1) := by decide +kernel
theorem dX8_parent_44 : decode cX8_parent 44 = .ok (.bipush (-3), 2) := by decide +kernel
theorem dX8_parent_46 : decode cX8_parent 46 = .ok (.if_icmp .eq 7, 3) := by decide +kernel
theorem dX8_parent_49 : decode cX8_parent 49 = .ok (.iconst 1, 1) := by decide +kernel
theorem dX8_parent_50 : decode cX8_parent 50 = .ok (.goto 4, 3) := by decide +kernel
theorem dX8_parent_53 : decode cX8_parent 53 = .ok (.iconst 0, 1) := by decide +kernel
theorem dX8_parent_54 : decode cX8_parent 54 = .ok (.istore_n 3, 1) := by decide +kernel
theorem dX8_parent_55 : decode cX8_parent 55 = .ok (.iload_n 2, 1) := by decide +kernel
theorem dX8_parent_56 : decode cX8_parent 56 = .ok (.istore 4, 2) := by decide +kernel
theorem dX8_parent_58 : decode cX8_parent 58 = .ok (.iload 4, 2) := by decide +kernel
theorem dX8_parent_60 : decode cX8_parent 60 = .ok (.bipush (-3), 2) := by decide +kernel
theorem dX8_parent_62 : decode cX8_parent 62 = .ok (.if_icmp .eq 29, 3) := by decide +kernel
theorem dX8_parent_65 : decode cX8_parent 65 = .ok (.iload_n 3, 1) := by decide +kernel
theorem dX8_parent_66 : decode cX8_parent 66 = .ok (.iload 4, 2) := by decide +kernel
theorem dX8_parent_68 : decode cX8_parent 68 = .ok (.iload_n 1, 1) := by decide +kernel
theorem dX8_parent_69 : decode cX8_parent 69 = .ok (.if_icmp .ne 7, 3) := by decide +kernel
theorem dX8_parent_72 : decode cX8_parent 72 = .ok (.iconst 1, 1) := by decide +kernel
theorem dX8_parent_73 : decode cX8_parent 73 = .ok (.goto 4, 3) := by decide +kernel
theorem dX8_parent_76 : decode cX8_parent 76 = .ok (.iconst 0, 1) := by decide +kernel
theorem dX8_parent_77 : decode cX8_parent 77 = .ok (.ior, 1) := by decide +kernel
theorem dX8_parent_78 : decode cX8_parent 78 = .ok (.istore_n 3, 1) := by decide +kernel
theorem dX8_parent_79 : decode cX8_parent 79 = .ok (.aload_n 0, 1) := by decide +kernel
theorem dX8_parent_80 : decode cX8_parent 80 = .ok (.getfield 25, 3) := by decide +kernel
theorem dX8_parent_83 : decode cX8_parent 83 = .ok (.iload 4, 2) := by decide +kernel
theorem dX8_parent_85 : decode cX8_parent 85 = .ok (.iaload, 1) := by decide +kernel
theorem dX8_parent_86 : decode cX8_parent 86 = .ok (.istore 4, 2) := by decide +kernel
theorem dX8_parent_88 : decode cX8_parent 88 = .ok (.goto (-30), 3) := by decide +kernel
theorem dX8_parent_91 : decode cX8_parent 91 = .ok (.iload_n 3, 1) := by decide +kernel
theorem dX8_parent_92 : decode cX8_parent 92 = .ok (.ifCond .eq 6, 3) := by decide +kernel
theorem dX8_parent_95 : decode cX8_parent 95 = .ok (.bipush (-4), 2) := by decide +kernel
theorem dX8_parent_97 : decode cX8_parent 97 = .ok (.ireturn, 1) := by decide +kernel
theorem dX8_parent_98 : decode cX8_parent 98 = .ok (.aload_n 0, 1) := by decide +kernel
theorem dX8_parent_99 : decode cX8_parent 99 = .ok (.getfield 25, 3) := by decide +kernel
theorem dX8_parent_102 : decode cX8_parent 102 = .ok (.iload_n 1, 1) := by decide +kernel
theorem dX8_parent_103 : decode cX8_parent 103 = .ok (.iload_n 2, 1) := by decide +kernel
theorem dX8_parent_104 : decode cX8_parent 104 = .ok (.iastore, 1) := by decide +kernel
theorem dX8_parent_105 : decode cX8_parent 105 = .ok (.iconst 1, 1) := by decide +kernel
theorem dX8_parent_106 : decode cX8_parent 106 = .ok (.ireturn, 1) := by decide +kernel
theorem dX8_put_0 : decode cX8_put 0 = .ok (.aload_n 0, 1) := by decide +kernel
theorem dX8_put_1 : decode cX8_put 1 = .ok (.getfield 87, 3) := by decide +kernel
theorem dX8_put_4 : decode cX8_put 4 = .ok (.aload_n 0, 1) := by decide +kernel
theorem dX8_put_5 : decode cX8_put 5 = .ok (.getfield 115, 3) := by decide +kernel
theorem dX8_put_8 : decode cX8_put 8 = .ok (.iload_n 1, 1) := by decide +kernel
theorem dX8_put_9 : decode cX8_put 9 = .ok (.iastore, 1) := by decide +kernel
theorem dX8_put_10 : decode cX8_put 10 = .ok (.aload_n 0, 1) := by decide +kernel
theorem dX8_put_11 : decode cX8_put 11 = .ok (.dup, 1) := by decide +kernel
theorem dX8_put_12 : decode cX8_put 12 = .ok (.getfield 115, 3) := by decide +kernel
theorem dX8_put_15 : decode cX8_put 15 = .ok (.iconst 1, 1) := by decide +kernel
theorem dX8_put_16 : decode cX8_put 16 = .ok (.iadd, 1) := by decide +kernel
theorem dX8_put_17 : decode cX8_put 17 = .ok (.putfield 115, 3) := by decide +kernel
theorem dX8_put_20 : decode cX8_put 20 = .ok (.return_, 1) := by decide +kernel
theorem dX8_name_0 : decode cX8_name 0 = .ok (.aload_n 0, 1) := by decide +kernel
theorem dX8_name_1 : decode cX8_name 1 = .ok (.iload_n 1, 1) := by decide +kernel
theorem dX8_name_2 : decode cX8_name 2 = .ok (.invokevirtual 98, 3) := by decide +kernel
theorem dX8_name_5 : decode cX8_name 5 = .ok (.ifCond .ne 5, 3) := by decide +kernel
theorem dX8_name_8 : decode cX8_name 8 = .ok (.iconst (-1), 1) := by decide +kernel
theorem dX8_name_9 : decode cX8_name 9 = .ok (.ireturn, 1) := by decide +kernel
theorem dX8_name_10 : decode cX8_name 10 = .ok (.aload_n 0, 1) := by decide +kernel
theorem dX8_name_11 : decode cX8_name 11 = .ok (.iconst 0, 1) := by decide +kernel
theorem dX8_name_12 : decode cX8_name 12 = .ok (.putfield 115, 3) := by decide +kernel
theorem dX8_name_15 : decode cX8_name 15 = .ok (.iload_n 1, 1) := by decide +kernel
theorem dX8_name_16 : decode cX8_name 16 = .ok (.istore_n 3, 1) := by decide +kernel
theorem dX8_name_17 : decode cX8_name 17 = .ok (.iload_n 3, 1) := by decide +kernel
theorem dX8_name_18 : decode cX8_name 18 = .ok (.bipush (-3), 2) := by decide +kernel
theorem dX8_name_20 : decode cX8_name 20 = .ok (.if_icmp .eq 98, 3) := by decide +kernel
theorem dX8_name_23 : decode cX8_name 23 = .ok (.aload_n 0, 1) := by decide +kernel
theorem dX8_name_24 : decode cX8_name 24 = .ok (.getfield 7, 3) := by decide +kernel
theorem dX8_name_27 : decode cX8_name 27 = .ok (.iload_n 3, 1) := by decide +kernel
theorem dX8_name_28 : decode cX8_name 28 = .ok (.iaload, 1) := by decide +kernel
theorem dX8_name_29 : decode cX8_name 29 = .ok (.iconst 5, 1) := by decide +kernel
theorem dX8_name_30 : decode cX8_name 30 = .ok (.if_icmp .eq 16, 3) := by decide +kernel
theorem dX8_name_33 : decode cX8_name 33 = .ok (.aload_n 0, 1) := by decide +kernel
theorem dX8_name_34 : decode cX8_name 34 = .ok (.bipush 65, 2) := by decide +kernel
theorem dX8_name_36 : decode cX8_name 36 = .ok (.aload_n 0, 1) := by decide +kernel
theorem dX8_name_37 : decode cX8_name 37 = .ok (.getfield 16, 3) := by decide +kernel
theorem dX8_name_40 : decode cX8_name 40 = .ok (.iload_n 3, 1) := by decide +kernel
theorem dX8_name_41 : decode cX8_name 41 = .ok (.iaload, 1) := by decide +kernel
theorem dX8_name_42 : decode cX8_name 42 = .ok (.iadd, 1) := by decide +kernel
theorem dX8_name_43 : decode cX8_name 43 = .ok (.invokevirtual 118, 3) := by decide +kernel
theorem dX8_name_46 : decode cX8_name 46 = .ok (.aload_n 0, 1) := by decide +kernel
theorem dX8_name_47 : decode cX8_name 47 = .ok (.getfield 7, 3) := by decide +kernel
theorem dX8_name_50 : decode cX8_name 50 = .ok (.iload_n 3, 1) := by decide +kernel
theorem dX8_name_51 : decode cX8_name 51 = .ok (.iaload, 1) := by decide +kernel
theorem dX8_name_52 : decode cX8_name 52 = .ok (.invokestatic 105, 3) := by decide +kernel
theorem dX8_name_55 : decode cX8_name 55 = .ok (.ifCond .eq 38, 3) := by decide +kernel
theorem dX8_name_58 : decode cX8_name 58 = .ok (.aload_n 0, 1) := by decide +kernel
theorem dX8_name_59 : decode cX8_name 59 = .ok (.getfield 19, 3) := by decide +kernel
theorem dX8_name_62 : decode cX8_name 62 = .ok (.iload_n 3, 1) := by decide +kernel
theorem dX8_name_63 : decode cX8_name 63 = .ok (.iaload, 1) := by decide +kernel
theorem dX8_name_64 : decode cX8_name 64 = .ok (.istore 4, 2) := by decide +kernel
theorem dX8_name_66 : decode cX8_name 66 = .ok (.iload 4, 2) := by decide +kernel
theorem dX8_name_68 : decode cX8_name 68 = .ok (.ifCond .le 25, 3) := by decide +kernel
theorem dX8_name_71 : decode cX8_name 71 = .ok (.aload_n 0, 1) := by decide +kernel
theorem dX8_name_72 : decode cX8_name 72 = .ok (.bipush 48, 2) := by decide +kernel
theorem dX8_name_74 : decode cX8_name 74 = .ok (.iload 4, 2) := by decide +kernel
theorem dX8_name_76 : decode cX8_name 76 = .ok (.bipush 10, 2) := by decide +kernel
theorem dX8_name_78 : decode cX8_name 78 = .ok (.irem, 1) := by decide +kernel
theorem dX8_name_79 : decode cX8_name 79 = .ok (.iadd, 1) := by decide +kernel
theorem dX8_name_80 : decode cX8_name 80 = .ok (.invokevirtual 118, 3) := by decide +kernel
theorem dX8_name_83 : decode cX8_name 83 = .ok (.iload 4, 2) := by decide +kernel
theorem dX8_name_85 : decode cX8_name 85 = .ok (.bipush 10, 2) := by decide +kernel
theorem dX8_name_87 : decode cX8_name 87 = .ok (.idiv, 1) := by decide +kernel
theorem dX8_name_88 : decode cX8_name 88 = .ok (.istore 4, 2) := by decide +kernel
theorem dX8_name_90 : decode cX8_name 90 = .ok (.goto (-24), 3) := by decide +kernel
theorem dX8_name_93 : decode cX8_name 93 = .ok (.aload_n 0, 1) := by decide +kernel
theorem dX8_name_94 : decode cX8_name 94 = .ok (.getfield 7, 3) := by decide +kernel
theorem dX8_name_97 : decode cX8_name 97 = .ok (.iload_n 3, 1) := by decide +kernel
theorem dX8_name_98 : decode cX8_name 98 = .ok (.iaload, 1) := by decide +kernel
theorem dX8_name_99 : decode cX8_name 99 = .ok (.ifCond .eq 9, 3) := by decide +kernel
theorem dX8_name_102 : decode cX8_name 102 = .ok (.aload_n 0, 1) := by decide +kernel
theorem dX8_name_103 : decode cX8_name 103 = .ok (.bipush 36, 2) := by decide +kernel
theorem dX8_name_105 : decode cX8_name 105 = .ok (.invokevirtual 118, 3) := by decide +kernel
theorem dX8_name_108 : decode cX8_name 108 = .ok (.aload_n 0, 1) := by decide +kernel
theorem dX8_name_109 : decode cX8_name 109 = .ok (.getfield 13, 3) := by decide +kernel
theorem dX8_name_112 : decode cX8_name 112 = .ok (.iload_n 3, 1) := by decide +kernel
theorem dX8_name_113 : decode cX8_name 113 = .ok (.iaload, 1) := by decide +kernel
theorem dX8_name_114 : decode cX8_name 114 = .ok (.istore_n 3, 1) := by decide +kernel
theorem dX8_name_115 : decode cX8_name 115 = .ok (.goto (-98), 3) := by decide +kernel
theorem dX8_name_118 : decode cX8_name 118 = .ok (.iload_n 2, 1) := by decide +kernel
theorem dX8_name_119 : decode cX8_name 119 = .ok (.bipush (-3), 2) := by decide +kernel
theorem dX8_name_121 : decode cX8_name 121 = .ok (.if_icmp .ne 10, 3) := by decide +kernel
theorem dX8_name_124 : decode cX8_name 124 = .ok (.aload_n 0, 1) := by decide +kernel
theorem dX8_name_125 : decode cX8_name 125 = .ok (.getfield 115, 3) := by decide +kernel
theorem dX8_name_128 : decode cX8_name 128 = .ok (.goto 34, 3) := by decide +kernel
theorem dX8_name_131 : decode cX8_name 131 = .ok (.iload_n 2, 1) := by decide +kernel
theorem dX8_name_132 : decode cX8_name 132 = .ok (.iconst 0, 1) := by decide +kernel
theorem dX8_name_133 : decode cX8_name 133 = .ok (.aload_n 0, 1) := by decide +kernel
theorem dX8_name_134 : decode cX8_name 134 = .ok (.getfield 115, 3) := by decide +kernel
theorem dX8_name_137 : decode cX8_name 137 = .ok (.iconst 1, 1) := by decide +kernel
theorem dX8_name_138 : decode cX8_name 138 = .ok (.isub, 1) := by decide +kernel
theorem dX8_name_139 : decode cX8_name 139 = .ok (.invokestatic 94, 3) := by decide +kernel
theorem dX8_name_142 : decode cX8_name 142 = .ok (.ifCond .eq 19, 3) := by decide +kernel
theorem dX8_name_145 : decode cX8_name 145 = .ok (.aload_n 0, 1) := by decide +kernel
theorem dX8_name_146 : decode cX8_name 146 = .ok (.getfield 87, 3) := by decide +kernel
theorem dX8_name_149 : decode cX8_name 149 = .ok (.aload_n 0, 1) := by decide +kernel
theorem dX8_name_150 : decode cX8_name 150 = .ok (.getfield 115, 3) := by decide +kernel
theorem dX8_name_153 : decode cX8_name 153 = .ok (.iconst 1, 1) := by decide +kernel
theorem dX8_name_154 : decode cX8_name 154 = .ok (.isub, 1) := by decide +kernel
theorem dX8_name_155 : decode cX8_name 155 = .ok (.iload_n 2, 1) := by decide +kernel
theorem dX8_name_156 : decode cX8_name 156 = .ok (.isub, 1) := by decide +kernel
theorem dX8_name_157 : decode cX8_name 157 = .ok (.iaload, 1) := by decide +kernel
theorem dX8_name_158 : decode cX8_name 158 = .ok (.goto 4, 3) := by decide +kernel
theorem dX8_name_161 : decode cX8_name 161 = .ok (.iconst (-1), 1) := by decide +kernel
theorem dX8_name_162 : decode cX8_name 162 = .ok (.ireturn, 1) := by decide +kernel
theorem dX8_isOf_0 : decode cX8_isOf 0 = .ok (.aload_n 0, 1) := by decide +kernel
theorem dX8_isOf_1 : decode cX8_isOf 1 = .ok (.getfield 60, 3) := by decide +kernel
theorem dX8_isOf_4 : decode cX8_isOf 4 = .ok (.bipush 12, 2) := by decide +kernel
theorem dX8_isOf_6 : decode cX8_isOf 6 = .ok (.iload_n 1, 1) := by decide +kernel
theorem dX8_isOf_7 : decode cX8_isOf 7 = .ok (.imul, 1) := by decide +kernel
theorem dX8_isOf_8 : decode cX8_isOf 8 = .ok (.iload_n 2, 1) := by decide +kernel
theorem dX8_isOf_9 : decode cX8_isOf 9 = .ok (.iadd, 1) := by decide +kernel
theorem dX8_isOf_10 : decode cX8_isOf 10 = .ok (.iaload, 1) := by decide +kernel
theorem dX8_isOf_11 : decode cX8_isOf 11 = .ok (.bipush (-3), 2) := by decide +kernel
theorem dX8_isOf_13 : decode cX8_isOf 13 = .ok (.if_icmp .eq 7, 3) := by decide +kernel
theorem dX8_isOf_16 : decode cX8_isOf 16 = .ok (.iconst 1, 1) := by decide +kernel
theorem dX8_isOf_17 : decode cX8_isOf 17 = .ok (.goto 4, 3) := by decide +kernel
theorem dX8_isOf_20 : decode cX8_isOf 20 = .ok (.iconst 0, 1) := by decide +kernel
theorem dX8_isOf_21 : decode cX8_isOf 21 = .ok (.ireturn, 1) := by decide +kernel
theorem dX8_found_0 : decode cX8_found 0 = .ok (.iload_n 1, 1) := by decide +kernel
theorem dX8_found_1 : decode cX8_found 1 = .ok (.istore 4, 2) := by decide +kernel
theorem dX8_found_3 : decode cX8_found 3 = .ok (.aload_n 0, 1) := by decide +kernel
theorem dX8_found_4 : decode cX8_found 4 = .ok (.getfield 13, 3) := by decide +kernel
theorem dX8_found_7 : decode cX8_found 7 = .ok (.iload_n 2, 1) := by decide +kernel
theorem dX8_found_8 : decode cX8_found 8 = .ok (.iaload, 1) := by decide +kernel
theorem dX8_found_9 : decode cX8_found 9 = .ok (.istore 5, 2) := by decide +kernel
theorem dX8_found_11 : decode cX8_found 11 = .ok (.iload 4, 2) := by decide +kernel
theorem dX8_found_13 : decode cX8_found 13 = .ok (.bipush (-3), 2) := by decide +kernel
theorem dX8_found_15 : decode cX8_found 15 = .ok (.if_icmp .eq 40, 3) := by decide +kernel
theorem dX8_found_18 : decode cX8_found 18 = .ok (.aload_n 0, 1) := by decide +kernel
theorem dX8_found_19 : decode cX8_found 19 = .ok (.iload 4, 2) := by decide +kernel
theorem dX8_found_21 : decode cX8_found 21 = .ok (.iload_n 3, 1) := by decide +kernel
theorem dX8_found_22 : decode cX8_found 22 = .ok (.invokevirtual 122, 3) := by decide +kernel
theorem dX8_found_25 : decode cX8_found 25 = .ok (.ifCond .ne 30, 3) := by decide +kernel
theorem dX8_found_28 : decode cX8_found 28 = .ok (.aload_n 0, 1) := by decide +kernel
theorem dX8_found_29 : decode cX8_found 29 = .ok (.getfield 63, 3) := by decide +kernel
theorem dX8_found_32 : decode cX8_found 32 = .ok (.bipush 12, 2) := by decide +kernel
theorem dX8_found_34 : decode cX8_found 34 = .ok (.iload 4, 2) := by decide +kernel
theorem dX8_found_36 : decode cX8_found 36 = .ok (.imul, 1) := by decide +kernel
theorem dX8_found_37 : decode cX8_found 37 = .ok (.iload 5, 2) := by decide +kernel
theorem dX8_found_39 : decode cX8_found 39 = .ok (.iadd, 1) := by decide +kernel
theorem dX8_found_40 : decode cX8_found 40 = .ok (.iaload, 1) := by decide +kernel
theorem dX8_found_41 : decode cX8_found 41 = .ok (.istore 4, 2) := by decide +kernel
theorem dX8_found_43 : decode cX8_found 43 = .ok (.aload_n 0, 1) := by decide +kernel
theorem dX8_found_44 : decode cX8_found 44 = .ok (.getfield 13, 3) := by decide +kernel
theorem dX8_found_47 : decode cX8_found 47 = .ok (.iload 5, 2) := by decide +kernel
theorem dX8_found_49 : decode cX8_found 49 = .ok (.iaload, 1) := by decide +kernel
theorem dX8_found_50 : decode cX8_found 50 = .ok (.istore 5, 2) := by decide +kernel
theorem dX8_found_52 : decode cX8_found 52 = .ok (.goto (-41), 3) := by decide +kernel
theorem dX8_found_55 : decode cX8_found 55 = .ok (.iload 4, 2) := by decide +kernel
theorem dX8_found_57 : decode cX8_found 57 = .ok (.ireturn, 1) := by decide +kernel
theorem dX8_level_0 : decode cX8_level 0 = .ok (.bipush 12, 2) := by decide +kernel
theorem dX8_level_2 : decode cX8_level 2 = .ok (.iload_n 1, 1) := by decide +kernel
theorem dX8_level_3 : decode cX8_level 3 = .ok (.imul, 1) := by decide +kernel
theorem dX8_level_4 : decode cX8_level 4 = .ok (.iload_n 2, 1) := by decide +kernel
theorem dX8_level_5 : decode cX8_level 5 = .ok (.iadd, 1) := by decide +kernel
theorem dX8_level_6 : decode cX8_level 6 = .ok (.istore 4, 2) := by decide +kernel
theorem dX8_level_8 : decode cX8_level 8 = .ok (.aload_n 0, 1) := by decide +kernel
theorem dX8_level_9 : decode cX8_level 9 = .ok (.getfield 60, 3) := by decide +kernel
theorem dX8_level_12 : decode cX8_level 12 = .ok (.iload 4, 2) := by decide +kernel
theorem dX8_level_14 : decode cX8_level 14 = .ok (.aload_n 0, 1) := by decide +kernel
theorem dX8_level_15 : decode cX8_level 15 = .ok (.getfield 28, 3) := by decide +kernel
theorem dX8_level_18 : decode cX8_level 18 = .ok (.iload_n 2, 1) := by decide +kernel
theorem dX8_level_19 : decode cX8_level 19 = .ok (.iaload, 1) := by decide +kernel
theorem dX8_level_20 : decode cX8_level 20 = .ok (.iastore, 1) := by decide +kernel
theorem dX8_level_21 : decode cX8_level 21 = .ok (.aload_n 0, 1) := by decide +kernel
theorem dX8_level_22 : decode cX8_level 22 = .ok (.getfield 63, 3) := by decide +kernel
theorem dX8_level_25 : decode cX8_level 25 = .ok (.iload 4, 2) := by decide +kernel
theorem dX8_level_27 : decode cX8_level 27 = .ok (.iload_n 3, 1) := by decide +kernel
theorem dX8_level_28 : decode cX8_level 28 = .ok (.iastore, 1) := by decide +kernel
theorem dX8_level_29 : decode cX8_level 29 = .ok (.iconst 0, 1) := by decide +kernel
theorem dX8_level_30 : decode cX8_level 30 = .ok (.istore 5, 2) := by decide +kernel
theorem dX8_level_32 : decode cX8_level 32 = .ok (.iload 5, 2) := by decide +kernel
theorem dX8_level_34 : decode cX8_level 34 = .ok (.aload_n 0, 1) := by decide +kernel
theorem dX8_level_35 : decode cX8_level 35 = .ok (.getfield 28, 3) := by decide +kernel
theorem dX8_level_38 : decode cX8_level 38 = .ok (.iload_n 2, 1) := by decide +kernel
theorem dX8_level_39 : decode cX8_level 39 = .ok (.iaload, 1) := by decide +kernel
theorem dX8_level_40 : decode cX8_level 40 = .ok (.if_icmp .ge 32, 3) := by decide +kernel
theorem dX8_level_43 : decode cX8_level 43 = .ok (.aload_n 0, 1) := by decide +kernel
theorem dX8_level_44 : decode cX8_level 44 = .ok (.getfield 66, 3) := by decide +kernel
theorem dX8_level_47 : decode cX8_level 47 = .ok (.iconst 4, 1) := by decide +kernel
theorem dX8_level_48 : decode cX8_level 48 = .ok (.iload 4, 2) := by decide +kernel
theorem dX8_level_50 : decode cX8_level 50 = .ok (.imul, 1) := by decide +kernel
theorem dX8_level_51 : decode cX8_level 51 = .ok (.iload 5, 2) := by decide +kernel
theorem dX8_level_53 : decode cX8_level 53 = .ok (.iadd, 1) := by decide +kernel
theorem dX8_level_54 : decode cX8_level 54 = .ok (.aload_n 0, 1) := by decide +kernel
theorem dX8_level_55 : decode cX8_level 55 = .ok (.getfield 34, 3) := by decide +kernel
theorem dX8_level_58 : decode cX8_level 58 = .ok (.iconst 4, 1) := by decide +kernel
theorem dX8_level_59 : decode cX8_level 59 = .ok (.iload_n 2, 1) := by decide +kernel
theorem dX8_level_60 : decode cX8_level 60 = .ok (.imul, 1) := by decide +kernel
theorem dX8_level_61 : decode cX8_level 61 = .ok (.iload 5, 2) := by decide +kernel
theorem dX8_level_63 : decode cX8_level 63 = .ok (.iadd, 1) := by decide +kernel
theorem dX8_level_64 : decode cX8_level 64 = .ok (.laload, 1) := by decide +kernel
theorem dX8_level_65 : decode cX8_level 65 = .ok (.lastore, 1) := by decide +kernel
theorem dX8_level_66 : decode cX8_level 66 = .ok (.iinc 5 1, 3) := by decide +kernel
theorem dX8_level_69 : decode cX8_level 69 = .ok (.goto (-37), 3) := by decide +kernel
theorem dX8_level_72 : decode cX8_level 72 = .ok (.iconst 0, 1) := by decide +kernel
theorem dX8_level_73 : decode cX8_level 73 = .ok (.istore 5, 2) := by decide +kernel
theorem dX8_level_75 : decode cX8_level 75 = .ok (.iload 5, 2) := by decide +kernel
theorem dX8_level_77 : decode cX8_level 77 = .ok (.aload_n 0, 1) := by decide +kernel
theorem dX8_level_78 : decode cX8_level 78 = .ok (.getfield 22, 3) := by decide +kernel
theorem dX8_level_81 : decode cX8_level 81 = .ok (.iload_n 2, 1) := by decide +kernel
theorem dX8_level_82 : decode cX8_level 82 = .ok (.iaload, 1) := by decide +kernel
theorem dX8_level_83 : decode cX8_level 83 = .ok (.if_icmp .ge 37, 3) := by decide +kernel
theorem dX8_level_86 : decode cX8_level 86 = .ok (.aload_n 0, 1) := by decide +kernel
theorem dX8_level_87 : decode cX8_level 87 = .ok (.getfield 69, 3) := by decide +kernel
theorem dX8_level_90 : decode cX8_level 90 = .ok (.iconst 4, 1) := by decide +kernel
theorem dX8_level_91 : decode cX8_level 91 = .ok (.iload 4, 2) := by decide +kernel
theorem dX8_level_93 : decode cX8_level 93 = .ok (.imul, 1) := by decide +kernel
theorem dX8_level_94 : decode cX8_level 94 = .ok (.iload 5, 2) := by decide +kernel
theorem dX8_level_96 : decode cX8_level 96 = .ok (.iadd, 1) := by decide +kernel
theorem dX8_level_97 : decode cX8_level 97 = .ok (.aload_n 0, 1) := by decide +kernel
theorem dX8_level_98 : decode cX8_level 98 = .ok (.getfield 51, 3) := by decide +kernel
theorem dX8_level_101 : decode cX8_level 101 = .ok (.iconst 4, 1) := by decide +kernel
theorem dX8_level_102 : decode cX8_level 102 = .ok (.aload_n 0, 1) := by decide +kernel
theorem dX8_level_103 : decode cX8_level 103 = .ok (.getfield 13, 3) := by decide +kernel
theorem dX8_level_106 : decode cX8_level 106 = .ok (.iload_n 2, 1) := by decide +kernel
theorem dX8_level_107 : decode cX8_level 107 = .ok (.iaload, 1) := by decide +kernel
theorem dX8_level_108 : decode cX8_level 108 = .ok (.imul, 1) := by decide +kernel
theorem dX8_level_109 : decode cX8_level 109 = .ok (.iload 5, 2) := by decide +kernel
theorem dX8_level_111 : decode cX8_level 111 = .ok (.iadd, 1) := by decide +kernel
theorem dX8_level_112 : decode cX8_level 112 = .ok (.laload, 1) := by decide +kernel
theorem dX8_level_113 : decode cX8_level 113 = .ok (.lastore, 1) := by decide +kernel
theorem dX8_level_114 : decode cX8_level 114 = .ok (.iinc 5 1, 3) := by decide +kernel
theorem dX8_level_117 : decode cX8_level 117 = .ok (.goto (-42), 3) := by decide +kernel
theorem dX8_level_120 : decode cX8_level 120 = .ok (.return_, 1) := by decide +kernel
theorem dX8_make_0 : decode cX8_make 0 = .ok (.aload_n 0, 1) := by decide +kernel
theorem dX8_make_1 : decode cX8_make 1 = .ok (.iload_n 1, 1) := by decide +kernel
theorem dX8_make_2 : decode cX8_make 2 = .ok (.invokevirtual 98, 3) := by decide +kernel
theorem dX8_make_5 : decode cX8_make 5 = .ok (.ifCond .eq 25, 3) := by decide +kernel
theorem dX8_make_8 : decode cX8_make 8 = .ok (.iload_n 3, 1) := by decide +kernel
theorem dX8_make_9 : decode cX8_make 9 = .ok (.invokestatic 126, 3) := by decide +kernel
theorem dX8_make_12 : decode cX8_make 12 = .ok (.ifCond .eq 18, 3) := by decide +kernel
theorem dX8_make_15 : decode cX8_make 15 = .ok (.aload_n 0, 1) := by decide +kernel
theorem dX8_make_16 : decode cX8_make 16 = .ok (.iload_n 1, 1) := by decide +kernel
theorem dX8_make_17 : decode cX8_make 17 = .ok (.invokevirtual 129, 3) := by decide +kernel
theorem dX8_make_20 : decode cX8_make 20 = .ok (.ifCond .eq 17, 3) := by decide +kernel
theorem dX8_make_23 : decode cX8_make 23 = .ok (.iload_n 2, 1) := by decide +kernel
theorem dX8_make_24 : decode cX8_make 24 = .ok (.invokestatic 126, 3) := by decide +kernel
theorem dX8_make_27 : decode cX8_make 27 = .ok (.ifCond .ne 10, 3) := by decide +kernel
theorem dX8_make_30 : decode cX8_make 30 = .ok (.aload_n 0, 1) := by decide +kernel
theorem dX8_make_31 : decode cX8_make 31 = .ok (.iconst (-1), 1) := by decide +kernel
theorem dX8_make_32 : decode cX8_make 32 = .ok (.putfield 132, 3) := by decide +kernel
theorem dX8_make_35 : decode cX8_make 35 = .ok (.iconst (-1), 1) := by decide +kernel
theorem dX8_make_36 : decode cX8_make 36 = .ok (.ireturn, 1) := by decide +kernel
theorem dX8_make_37 : decode cX8_make 37 = .ok (.aload_n 0, 1) := by decide +kernel
theorem dX8_make_38 : decode cX8_make 38 = .ok (.getfield 135, 3) := by decide +kernel
theorem dX8_make_41 : decode cX8_make 41 = .ok (.istore 4, 2) := by decide +kernel
theorem dX8_make_43 : decode cX8_make 43 = .ok (.aload_n 0, 1) := by decide +kernel
theorem dX8_make_44 : decode cX8_make 44 = .ok (.iload_n 1, 1) := by decide +kernel
theorem dX8_make_45 : decode cX8_make 45 = .ok (.invokevirtual 129, 3) := by decide +kernel
theorem dX8_make_48 : decode cX8_make 48 = .ok (.ifCond .eq 12, 3) := by decide +kernel
theorem dX8_make_51 : decode cX8_make 51 = .ok (.aload_n 0, 1) := by decide +kernel
theorem dX8_make_52 : decode cX8_make 52 = .ok (.getfield 72, 3) := by decide +kernel
theorem dX8_make_55 : decode cX8_make 55 = .ok (.iload_n 2, 1) := by decide +kernel
theorem dX8_make_56 : decode cX8_make 56 = .ok (.iaload, 1) := by decide +kernel
theorem dX8_make_57 : decode cX8_make 57 = .ok (.goto 5, 3) := by decide +kernel
theorem dX8_make_60 : decode cX8_make 60 = .ok (.bipush (-3), 2) := by decide +kernel
theorem dX8_make_62 : decode cX8_make 62 = .ok (.istore 5, 2) := by decide +kernel
theorem dX8_make_64 : decode cX8_make 64 = .ok (.aload_n 0, 1) := by decide +kernel
theorem dX8_make_65 : decode cX8_make 65 = .ok (.iconst 0, 1) := by decide +kernel
theorem dX8_make_66 : decode cX8_make 66 = .ok (.putfield 132, 3) := by decide +kernel
theorem dX8_make_69 : decode cX8_make 69 = .ok (.aload_n 0, 1) := by decide +kernel
theorem dX8_make_70 : decode cX8_make 70 = .ok (.iload_n 1, 1) := by decide +kernel
theorem dX8_make_71 : decode cX8_make 71 = .ok (.invokevirtual 129, 3) := by decide +kernel
theorem dX8_make_74 : decode cX8_make 74 = .ok (.ifCond .eq 38, 3) := by decide +kernel
theorem dX8_make_77 : decode cX8_make 77 = .ok (.aload_n 0, 1) := by decide +kernel
theorem dX8_make_78 : decode cX8_make 78 = .ok (.iload 5, 2) := by decide +kernel
theorem dX8_make_80 : decode cX8_make 80 = .ok (.bipush (-3), 2) := by decide +kernel
theorem dX8_make_82 : decode cX8_make 82 = .ok (.if_icmp .ne 7, 3) := by decide +kernel
theorem dX8_make_85 : decode cX8_make 85 = .ok (.iconst 1, 1) := by decide +kernel
theorem dX8_make_86 : decode cX8_make 86 = .ok (.goto 23, 3) := by decide +kernel
theorem dX8_make_89 : decode cX8_make 89 = .ok (.aload_n 0, 1) := by decide +kernel
theorem dX8_make_90 : decode cX8_make 90 = .ok (.iload 5, 2) := by decide +kernel
theorem dX8_make_92 : decode cX8_make 92 = .ok (.aload_n 0, 1) := by decide +kernel
theorem dX8_make_93 : decode cX8_make 93 = .ok (.getfield 13, 3) := by decide +kernel
theorem dX8_make_96 : decode cX8_make 96 = .ok (.iload_n 1, 1) := by decide +kernel
theorem dX8_make_97 : decode cX8_make 97 = .ok (.iaload, 1) := by decide +kernel
theorem dX8_make_98 : decode cX8_make 98 = .ok (.invokevirtual 122, 3) := by decide +kernel
theorem dX8_make_101 : decode cX8_make 101 = .ok (.ifCond .ne 7, 3) := by decide +kernel
theorem dX8_make_104 : decode cX8_make 104 = .ok (.iconst 2, 1) := by decide +kernel
theorem dX8_make_105 : decode cX8_make 105 = .ok (.goto 4, 3) := by decide +kernel
theorem dX8_make_108 : decode cX8_make 108 = .ok (.iconst 0, 1) := by decide +kernel
theorem dX8_make_109 : decode cX8_make 109 = .ok (.putfield 132, 3) := by decide +kernel
theorem dX8_make_112 : decode cX8_make 112 = .ok (.aload_n 0, 1) := by decide +kernel
theorem dX8_make_113 : decode cX8_make 113 = .ok (.getfield 132, 3) := by decide +kernel
theorem dX8_make_116 : decode cX8_make 116 = .ok (.ifCond .le 8, 3) := by decide +kernel
theorem dX8_make_119 : decode cX8_make 119 = .ok (.aload_n 0, 1) := by decide +kernel
theorem dX8_make_120 : decode cX8_make 120 = .ok (.getfield 132, 3) := by decide +kernel
theorem dX8_make_123 : decode cX8_make 123 = .ok (.ireturn, 1) := by decide +kernel
theorem dX8_make_124 : decode cX8_make 124 = .ok (.iconst 0, 1) := by decide +kernel
theorem dX8_make_125 : decode cX8_make 125 = .ok (.istore 6, 2) := by decide +kernel
theorem dX8_make_127 : decode cX8_make 127 = .ok (.iload 6, 2) := by decide +kernel
theorem dX8_make_129 : decode cX8_make 129 = .ok (.bipush 12, 2) := by decide +kernel
theorem dX8_make_131 : decode cX8_make 131 = .ok (.if_icmp .ge 24, 3) := by decide +kernel
theorem dX8_make_134 : decode cX8_make 134 = .ok (.aload_n 0, 1) := by decide +kernel
theorem dX8_make_135 : decode cX8_make 135 = .ok (.getfield 60, 3) := by decide +kernel
theorem dX8_make_138 : decode cX8_make 138 = .ok (.bipush 12, 2) := by decide +kernel
theorem dX8_make_140 : decode cX8_make 140 = .ok (.iload 4, 2) := by decide +kernel
theorem dX8_make_142 : decode cX8_make 142 = .ok (.imul, 1) := by decide +kernel
theorem dX8_make_143 : decode cX8_make 143 = .ok (.iload 6, 2) := by decide +kernel
theorem dX8_make_145 : decode cX8_make 145 = .ok (.iadd, 1) := by decide +kernel
theorem dX8_make_146 : decode cX8_make 146 = .ok (.bipush (-3), 2) := by decide +kernel
theorem dX8_make_148 : decode cX8_make 148 = .ok (.iastore, 1) := by decide +kernel
theorem dX8_make_149 : decode cX8_make 149 = .ok (.iinc 6 1, 3) := by decide +kernel
theorem dX8_make_152 : decode cX8_make 152 = .ok (.goto (-25), 3) := by decide +kernel
theorem dX8_make_155 : decode cX8_make 155 = .ok (.aload_n 0, 1) := by decide +kernel
theorem dX8_make_156 : decode cX8_make 156 = .ok (.iload 4, 2) := by decide +kernel
theorem dX8_make_158 : decode cX8_make 158 = .ok (.iload_n 1, 1) := by decide +kernel
theorem dX8_make_159 : decode cX8_make 159 = .ok (.iload 5, 2) := by decide +kernel
theorem dX8_make_161 : decode cX8_make 161 = .ok (.invokevirtual 138, 3) := by decide +kernel
theorem dX8_make_164 : decode cX8_make 164 = .ok (.aload_n 0, 1) := by decide +kernel
theorem dX8_make_165 : decode cX8_make 165 = .ok (.getfield 25, 3) := by decide +kernel
theorem dX8_make_168 : decode cX8_make 168 = .ok (.iload_n 1, 1) := by decide +kernel
theorem dX8_make_169 : decode cX8_make 169 = .ok (.iaload, 1) := by decide +kernel
theorem dX8_make_170 : decode cX8_make 170 = .ok (.istore 6, 2) := by decide +kernel
theorem dX8_make_172 : decode cX8_make 172 = .ok (.iload 6, 2) := by decide +kernel
theorem dX8_make_174 : decode cX8_make 174 = .ok (.bipush (-3), 2) := by decide +kernel
theorem dX8_make_176 : decode cX8_make 176 = .ok (.if_icmp .eq 81, 3) := by decide +kernel
theorem dX8_make_179 : decode cX8_make 179 = .ok (.aload_n 0, 1) := by decide +kernel
theorem dX8_make_180 : decode cX8_make 180 = .ok (.iload 6, 2) := by decide +kernel
theorem dX8_make_182 : decode cX8_make 182 = .ok (.invokevirtual 129, 3) := by decide +kernel
theorem dX8_make_185 : decode cX8_make 185 = .ok (.ifCond .eq 20, 3) := by decide +kernel
theorem dX8_make_188 : decode cX8_make 188 = .ok (.aload_n 0, 1) := by decide +kernel
theorem dX8_make_189 : decode cX8_make 189 = .ok (.iload 5, 2) := by decide +kernel
theorem dX8_make_191 : decode cX8_make 191 = .ok (.iload_n 1, 1) := by decide +kernel
theorem dX8_make_192 : decode cX8_make 192 = .ok (.aload_n 0, 1) := by decide +kernel
theorem dX8_make_193 : decode cX8_make 193 = .ok (.getfield 13, 3) := by decide +kernel
theorem dX8_make_196 : decode cX8_make 196 = .ok (.iload 6, 2) := by decide +kernel
theorem dX8_make_198 : decode cX8_make 198 = .ok (.iaload, 1) := by decide +kernel
theorem dX8_make_199 : decode cX8_make 199 = .ok (.invokevirtual 142, 3) := by decide +kernel
theorem dX8_make_202 : decode cX8_make 202 = .ok (.goto 5, 3) := by decide +kernel
theorem dX8_make_205 : decode cX8_make 205 = .ok (.bipush (-3), 2) := by decide +kernel
theorem dX8_make_207 : decode cX8_make 207 = .ok (.istore 7, 2) := by decide +kernel
theorem dX8_make_209 : decode cX8_make 209 = .ok (.aload_n 0, 1) := by decide +kernel
theorem dX8_make_210 : decode cX8_make 210 = .ok (.iload 6, 2) := by decide +kernel
theorem dX8_make_212 : decode cX8_make 212 = .ok (.invokevirtual 129, 3) := by decide +kernel
theorem dX8_make_215 : decode cX8_make 215 = .ok (.ifCond .eq 20, 3) := by decide +kernel
theorem dX8_make_218 : decode cX8_make 218 = .ok (.iload 7, 2) := by decide +kernel
theorem dX8_make_220 : decode cX8_make 220 = .ok (.bipush (-3), 2) := by decide +kernel
theorem dX8_make_222 : decode cX8_make 222 = .ok (.if_icmp .ne 13, 3) := by decide +kernel
theorem dX8_make_225 : decode cX8_make 225 = .ok (.aload_n 0, 1) := by decide +kernel
theorem dX8_make_226 : decode cX8_make 226 = .ok (.iconst 3, 1) := by decide +kernel
theorem dX8_make_227 : decode cX8_make 227 = .ok (.putfield 132, 3) := by decide +kernel
theorem dX8_make_230 : decode cX8_make 230 = .ok (.aload_n 0, 1) := by decide +kernel
theorem dX8_make_231 : decode cX8_make 231 = .ok (.getfield 132, 3) := by decide +kernel
theorem dX8_make_234 : decode cX8_make 234 = .ok (.ireturn, 1) := by decide +kernel
theorem dX8_make_235 : decode cX8_make 235 = .ok (.aload_n 0, 1) := by decide +kernel
theorem dX8_make_236 : decode cX8_make 236 = .ok (.iload 4, 2) := by decide +kernel
theorem dX8_make_238 : decode cX8_make 238 = .ok (.iload 6, 2) := by decide +kernel
theorem dX8_make_240 : decode cX8_make 240 = .ok (.iload 7, 2) := by decide +kernel
theorem dX8_make_242 : decode cX8_make 242 = .ok (.invokevirtual 138, 3) := by decide +kernel
theorem dX8_make_245 : decode cX8_make 245 = .ok (.aload_n 0, 1) := by decide +kernel
theorem dX8_make_246 : decode cX8_make 246 = .ok (.getfield 25, 3) := by decide +kernel
theorem dX8_make_249 : decode cX8_make 249 = .ok (.iload 6, 2) := by decide +kernel
theorem dX8_make_251 : decode cX8_make 251 = .ok (.iaload, 1) := by decide +kernel
theorem dX8_make_252 : decode cX8_make 252 = .ok (.istore 6, 2) := by decide +kernel
theorem dX8_make_254 : decode cX8_make 254 = .ok (.goto (-82), 3) := by decide +kernel
theorem dX8_make_257 : decode cX8_make 257 = .ok (.aload_n 0, 1) := by decide +kernel
theorem dX8_make_258 : decode cX8_make 258 = .ok (.getfield 57, 3) := by decide +kernel
theorem dX8_make_261 : decode cX8_make 261 = .ok (.iload 4, 2) := by decide +kernel
theorem dX8_make_263 : decode cX8_make 263 = .ok (.iload_n 1, 1) := by decide +kernel
theorem dX8_make_264 : decode cX8_make 264 = .ok (.iastore, 1) := by decide +kernel
theorem dX8_make_265 : decode cX8_make 265 = .ok (.aload_n 0, 1) := by decide +kernel
theorem dX8_make_266 : decode cX8_make 266 = .ok (.dup, 1) := by decide +kernel
theorem dX8_make_267 : decode cX8_make 267 = .ok (.getfield 135, 3) := by decide +kernel
theorem dX8_make_270 : decode cX8_make 270 = .ok (.iconst 1, 1) := by decide +kernel
theorem dX8_make_271 : decode cX8_make 271 = .ok (.iadd, 1) := by decide +kernel
theorem dX8_make_272 : decode cX8_make 272 = .ok (.putfield 135, 3) := by decide +kernel
theorem dX8_make_275 : decode cX8_make 275 = .ok (.aload_n 0, 1) := by decide +kernel
theorem dX8_make_276 : decode cX8_make 276 = .ok (.getfield 72, 3) := by decide +kernel
theorem dX8_make_279 : decode cX8_make 279 = .ok (.iload_n 3, 1) := by decide +kernel
theorem dX8_make_280 : decode cX8_make 280 = .ok (.iload 4, 2) := by decide +kernel
theorem dX8_make_282 : decode cX8_make 282 = .ok (.iastore, 1) := by decide +kernel
theorem dX8_make_283 : decode cX8_make 283 = .ok (.iconst 0, 1) := by decide +kernel
theorem dX8_make_284 : decode cX8_make 284 = .ok (.ireturn, 1) := by decide +kernel
theorem dX8_share_0 : decode cX8_share 0 = .ok (.iload_n 1, 1) := by decide +kernel
theorem dX8_share_1 : decode cX8_share 1 = .ok (.invokestatic 126, 3) := by decide +kernel
theorem dX8_share_4 : decode cX8_share 4 = .ok (.ifCond .eq 10, 3) := by decide +kernel
theorem dX8_share_7 : decode cX8_share 7 = .ok (.iload_n 2, 1) := by decide +kernel
theorem dX8_share_8 : decode cX8_share 8 = .ok (.invokestatic 126, 3) := by decide +kernel
theorem dX8_share_11 : decode cX8_share 11 = .ok (.ifCond .ne 5, 3) := by decide +kernel
theorem dX8_share_14 : decode cX8_share 14 = .ok (.iconst (-1), 1) := by decide +kernel
theorem dX8_share_15 : decode cX8_share 15 = .ok (.ireturn, 1) := by decide +kernel
theorem dX8_share_16 : decode cX8_share 16 = .ok (.aload_n 0, 1) := by decide +kernel
theorem dX8_share_17 : decode cX8_share 17 = .ok (.getfield 72, 3) := by decide +kernel
theorem dX8_share_20 : decode cX8_share 20 = .ok (.iload_n 2, 1) := by decide +kernel
theorem dX8_share_21 : decode cX8_share 21 = .ok (.aload_n 0, 1) := by decide +kernel
theorem dX8_share_22 : decode cX8_share 22 = .ok (.getfield 72, 3) := by decide +kernel
theorem dX8_share_25 : decode cX8_share 25 = .ok (.iload_n 1, 1) := by decide +kernel
theorem dX8_share_26 : decode cX8_share 26 = .ok (.iaload, 1) := by decide +kernel
theorem dX8_share_27 : decode cX8_share 27 = .ok (.iastore, 1) := by decide +kernel
theorem dX8_share_28 : decode cX8_share 28 = .ok (.aload_n 0, 1) := by decide +kernel
theorem dX8_share_29 : decode cX8_share 29 = .ok (.getfield 72, 3) := by decide +kernel
theorem dX8_share_32 : decode cX8_share 32 = .ok (.iload_n 2, 1) := by decide +kernel
theorem dX8_share_33 : decode cX8_share 33 = .ok (.iaload, 1) := by decide +kernel
theorem dX8_share_34 : decode cX8_share 34 = .ok (.bipush (-3), 2) := by decide +kernel
theorem dX8_share_36 : decode cX8_share 36 = .ok (.if_icmp .ne 7, 3) := by decide +kernel
theorem dX8_share_39 : decode cX8_share 39 = .ok (.iconst 0, 1) := by decide +kernel
theorem dX8_share_40 : decode cX8_share 40 = .ok (.goto 4, 3) := by decide +kernel
theorem dX8_share_43 : decode cX8_share 43 = .ok (.iconst 1, 1) := by decide +kernel
theorem dX8_share_44 : decode cX8_share 44 = .ok (.ireturn, 1) := by decide +kernel
theorem dX8_free_0 : decode cX8_free 0 = .ok (.iload_n 1, 1) := by decide +kernel
theorem dX8_free_1 : decode cX8_free 1 = .ok (.invokestatic 126, 3) := by decide +kernel
theorem dX8_free_4 : decode cX8_free 4 = .ok (.ifCond .ne 5, 3) := by decide +kernel
theorem dX8_free_7 : decode cX8_free 7 = .ok (.iconst (-1), 1) := by decide +kernel
theorem dX8_free_8 : decode cX8_free 8 = .ok (.ireturn, 1) := by decide +kernel
theorem dX8_free_9 : decode cX8_free 9 = .ok (.aload_n 0, 1) := by decide +kernel
theorem dX8_free_10 : decode cX8_free 10 = .ok (.getfield 72, 3) := by decide +kernel
theorem dX8_free_13 : decode cX8_free 13 = .ok (.iload_n 1, 1) := by decide +kernel
theorem dX8_free_14 : decode cX8_free 14 = .ok (.iaload, 1) := by decide +kernel
theorem dX8_free_15 : decode cX8_free 15 = .ok (.bipush (-3), 2) := by decide +kernel
theorem dX8_free_17 : decode cX8_free 17 = .ok (.if_icmp .ne 7, 3) := by decide +kernel
theorem dX8_free_20 : decode cX8_free 20 = .ok (.iconst 0, 1) := by decide +kernel
theorem dX8_free_21 : decode cX8_free 21 = .ok (.goto 4, 3) := by decide +kernel
theorem dX8_free_24 : decode cX8_free 24 = .ok (.iconst 1, 1) := by decide +kernel
theorem dX8_free_25 : decode cX8_free 25 = .ok (.istore_n 2, 1) := by decide +kernel
theorem dX8_free_26 : decode cX8_free 26 = .ok (.aload_n 0, 1) := by decide +kernel
theorem dX8_free_27 : decode cX8_free 27 = .ok (.getfield 72, 3) := by decide +kernel
theorem dX8_free_30 : decode cX8_free 30 = .ok (.iload_n 1, 1) := by decide +kernel
theorem dX8_free_31 : decode cX8_free 31 = .ok (.bipush (-3), 2) := by decide +kernel
theorem dX8_free_33 : decode cX8_free 33 = .ok (.iastore, 1) := by decide +kernel
theorem dX8_free_34 : decode cX8_free 34 = .ok (.iload_n 2, 1) := by decide +kernel
theorem dX8_free_35 : decode cX8_free 35 = .ok (.ireturn, 1) := by decide +kernel
theorem dX8_about_0 : decode cX8_about 0 = .ok (.iload_n 1, 1) := by decide +kernel
theorem dX8_about_1 : decode cX8_about 1 = .ok (.invokestatic 126, 3) := by decide +kernel
theorem dX8_about_4 : decode cX8_about 4 = .ok (.ifCond .eq 12, 3) := by decide +kernel
theorem dX8_about_7 : decode cX8_about 7 = .ok (.iload_n 2, 1) := by decide +kernel
theorem dX8_about_8 : decode cX8_about 8 = .ok (.iconst 0, 1) := by decide +kernel
theorem dX8_about_9 : decode cX8_about 9 = .ok (.iconst 3, 1) := by decide +kernel
theorem dX8_about_10 : decode cX8_about 10 = .ok (.invokestatic 94, 3) := by decide +kernel
theorem dX8_about_13 : decode cX8_about 13 = .ok (.ifCond .ne 5, 3) := by decide +kernel
theorem dX8_about_16 : decode cX8_about 16 = .ok (.iconst (-1), 1) := by decide +kernel
theorem dX8_about_17 : decode cX8_about 17 = .ok (.ireturn, 1) := by decide +kernel
theorem dX8_about_18 : decode cX8_about 18 = .ok (.aload_n 0, 1) := by decide +kernel
theorem dX8_about_19 : decode cX8_about 19 = .ok (.getfield 72, 3) := by decide +kernel
theorem dX8_about_22 : decode cX8_about 22 = .ok (.iload_n 1, 1) := by decide +kernel
theorem dX8_about_23 : decode cX8_about 23 = .ok (.iaload, 1) := by decide +kernel
theorem dX8_about_24 : decode cX8_about 24 = .ok (.istore_n 3, 1) := by decide +kernel
theorem dX8_about_25 : decode cX8_about 25 = .ok (.iload_n 3, 1) := by decide +kernel
theorem dX8_about_26 : decode cX8_about 26 = .ok (.bipush (-3), 2) := by decide +kernel
theorem dX8_about_28 : decode cX8_about 28 = .ok (.if_icmp .ne 6, 3) := by decide +kernel
theorem dX8_about_31 : decode cX8_about 31 = .ok (.bipush (-3), 2) := by decide +kernel
theorem dX8_about_33 : decode cX8_about 33 = .ok (.ireturn, 1) := by decide +kernel
theorem dX8_about_34 : decode cX8_about 34 = .ok (.aload_n 0, 1) := by decide +kernel
theorem dX8_about_35 : decode cX8_about 35 = .ok (.getfield 57, 3) := by decide +kernel
theorem dX8_about_38 : decode cX8_about 38 = .ok (.iload_n 3, 1) := by decide +kernel
theorem dX8_about_39 : decode cX8_about 39 = .ok (.iaload, 1) := by decide +kernel
theorem dX8_about_40 : decode cX8_about 40 = .ok (.istore 4, 2) := by decide +kernel
theorem dX8_about_42 : decode cX8_about 42 = .ok (.iload_n 2, 1) := by decide +kernel
theorem dX8_about_43 : decode cX8_about 43 = .ok (.ifCond .ne 6, 3) := by decide +kernel
theorem dX8_about_46 : decode cX8_about 46 = .ok (.iload 4, 2) := by decide +kernel
theorem dX8_about_48 : decode cX8_about 48 = .ok (.ireturn, 1) := by decide +kernel
theorem dX8_about_49 : decode cX8_about 49 = .ok (.iload_n 2, 1) := by decide +kernel
theorem dX8_about_50 : decode cX8_about 50 = .ok (.iconst 2, 1) := by decide +kernel
theorem dX8_about_51 : decode cX8_about 51 = .ok (.if_icmp .ne 37, 3) := by decide +kernel
theorem dX8_about_54 : decode cX8_about 54 = .ok (.aload_n 0, 1) := by decide +kernel
theorem dX8_about_55 : decode cX8_about 55 = .ok (.getfield 63, 3) := by decide +kernel
theorem dX8_about_58 : decode cX8_about 58 = .ok (.bipush 12, 2) := by decide +kernel
theorem dX8_about_60 : decode cX8_about 60 = .ok (.iload_n 3, 1) := by decide +kernel
theorem dX8_about_61 : decode cX8_about 61 = .ok (.imul, 1) := by decide +kernel
theorem dX8_about_62 : decode cX8_about 62 = .ok (.iload 4, 2) := by decide +kernel
theorem dX8_about_64 : decode cX8_about 64 = .ok (.iadd, 1) := by decide +kernel
theorem dX8_about_65 : decode cX8_about 65 = .ok (.iaload, 1) := by decide +kernel
theorem dX8_about_66 : decode cX8_about 66 = .ok (.istore 5, 2) := by decide +kernel
theorem dX8_about_68 : decode cX8_about 68 = .ok (.iload 5, 2) := by decide +kernel
theorem dX8_about_70 : decode cX8_about 70 = .ok (.bipush (-3), 2) := by decide +kernel
theorem dX8_about_72 : decode cX8_about 72 = .ok (.if_icmp .ne 8, 3) := by decide +kernel
theorem dX8_about_75 : decode cX8_about 75 = .ok (.bipush (-3), 2) := by decide +kernel
theorem dX8_about_77 : decode cX8_about 77 = .ok (.goto 10, 3) := by decide +kernel
theorem dX8_about_80 : decode cX8_about 80 = .ok (.aload_n 0, 1) := by decide +kernel
theorem dX8_about_81 : decode cX8_about 81 = .ok (.getfield 57, 3) := by decide +kernel
theorem dX8_about_84 : decode cX8_about 84 = .ok (.iload 5, 2) := by decide +kernel
theorem dX8_about_86 : decode cX8_about 86 = .ok (.iaload, 1) := by decide +kernel
theorem dX8_about_87 : decode cX8_about 87 = .ok (.ireturn, 1) := by decide +kernel
theorem dX8_about_88 : decode cX8_about 88 = .ok (.iload_n 2, 1) := by decide +kernel
theorem dX8_about_89 : decode cX8_about 89 = .ok (.iconst 3, 1) := by decide +kernel
theorem dX8_about_90 : decode cX8_about 90 = .ok (.if_icmp .ne 26, 3) := by decide +kernel
theorem dX8_about_93 : decode cX8_about 93 = .ok (.aload_n 0, 1) := by decide +kernel
theorem dX8_about_94 : decode cX8_about 94 = .ok (.getfield 7, 3) := by decide +kernel
theorem dX8_about_97 : decode cX8_about 97 = .ok (.iload 4, 2) := by decide +kernel
theorem dX8_about_99 : decode cX8_about 99 = .ok (.iaload, 1) := by decide +kernel
theorem dX8_about_100 : decode cX8_about 100 = .ok (.iconst 4, 1) := by decide +kernel
theorem dX8_about_101 : decode cX8_about 101 = .ok (.if_icmp .ne 7, 3) := by decide +kernel
theorem dX8_about_104 : decode cX8_about 104 = .ok (.iconst 0, 1) := by decide +kernel
theorem dX8_about_105 : decode cX8_about 105 = .ok (.goto 10, 3) := by decide +kernel
theorem dX8_about_108 : decode cX8_about 108 = .ok (.aload_n 0, 1) := by decide +kernel
theorem dX8_about_109 : decode cX8_about 109 = .ok (.getfield 22, 3) := by decide +kernel
theorem dX8_about_112 : decode cX8_about 112 = .ok (.iload 4, 2) := by decide +kernel
theorem dX8_about_114 : decode cX8_about 114 = .ok (.iaload, 1) := by decide +kernel
theorem dX8_about_115 : decode cX8_about 115 = .ok (.ireturn, 1) := by decide +kernel
theorem dX8_about_116 : decode cX8_about 116 = .ok (.iconst 0, 1) := by decide +kernel
theorem dX8_about_117 : decode cX8_about 117 = .ok (.istore 5, 2) := by decide +kernel
theorem dX8_about_119 : decode cX8_about 119 = .ok (.iconst 0, 1) := by decide +kernel
theorem dX8_about_120 : decode cX8_about 120 = .ok (.istore 6, 2) := by decide +kernel
theorem dX8_about_122 : decode cX8_about 122 = .ok (.iload 6, 2) := by decide +kernel
theorem dX8_about_124 : decode cX8_about 124 = .ok (.bipush 12, 2) := by decide +kernel
theorem dX8_about_126 : decode cX8_about 126 = .ok (.if_icmp .ge 29, 3) := by decide +kernel
theorem dX8_about_129 : decode cX8_about 129 = .ok (.iload 5, 2) := by decide +kernel
theorem dX8_about_131 : decode cX8_about 131 = .ok (.aload_n 0, 1) := by decide +kernel
theorem dX8_about_132 : decode cX8_about 132 = .ok (.iload_n 3, 1) := by decide +kernel
theorem dX8_about_133 : decode cX8_about 133 = .ok (.iload 6, 2) := by decide +kernel
theorem dX8_about_135 : decode cX8_about 135 = .ok (.invokevirtual 122, 3) := by decide +kernel
theorem dX8_about_138 : decode cX8_about 138 = .ok (.ifCond .eq 7, 3) := by decide +kernel
theorem dX8_about_141 : decode cX8_about 141 = .ok (.iconst 1, 1) := by decide +kernel
theorem dX8_about_142 : decode cX8_about 142 = .ok (.goto 4, 3) := by decide +kernel
theorem dX8_about_145 : decode cX8_about 145 = .ok (.iconst 0, 1) := by decide +kernel
theorem dX8_about_146 : decode cX8_about 146 = .ok (.iadd, 1) := by decide +kernel
theorem dX8_about_147 : decode cX8_about 147 = .ok (.istore 5, 2) := by decide +kernel
theorem dX8_about_149 : decode cX8_about 149 = .ok (.iinc 6 1, 3) := by decide +kernel
theorem dX8_about_152 : decode cX8_about 152 = .ok (.goto (-30), 3) := by decide +kernel
theorem dX8_about_155 : decode cX8_about 155 = .ok (.iload 5, 2) := by decide +kernel
theorem dX8_about_157 : decode cX8_about 157 = .ok (.ireturn, 1) := by decide +kernel
theorem dX8_same_0 : decode cX8_same 0 = .ok (.iload_n 1, 1) := by decide +kernel
theorem dX8_same_1 : decode cX8_same 1 = .ok (.invokestatic 126, 3) := by decide +kernel
theorem dX8_same_4 : decode cX8_same 4 = .ok (.ifCond .eq 10, 3) := by decide +kernel
theorem dX8_same_7 : decode cX8_same 7 = .ok (.iload_n 2, 1) := by decide +kernel
theorem dX8_same_8 : decode cX8_same 8 = .ok (.invokestatic 126, 3) := by decide +kernel
theorem dX8_same_11 : decode cX8_same 11 = .ok (.ifCond .ne 7, 3) := by decide +kernel
theorem dX8_same_14 : decode cX8_same 14 = .ok (.iconst (-1), 1) := by decide +kernel
theorem dX8_same_15 : decode cX8_same 15 = .ok (.goto 23, 3) := by decide +kernel
theorem dX8_same_18 : decode cX8_same 18 = .ok (.aload_n 0, 1) := by decide +kernel
theorem dX8_same_19 : decode cX8_same 19 = .ok (.getfield 72, 3) := by decide +kernel
theorem dX8_same_22 : decode cX8_same 22 = .ok (.iload_n 1, 1) := by decide +kernel
theorem dX8_same_23 : decode cX8_same 23 = .ok (.iaload, 1) := by decide +kernel
theorem dX8_same_24 : decode cX8_same 24 = .ok (.aload_n 0, 1) := by decide +kernel
theorem dX8_same_25 : decode cX8_same 25 = .ok (.getfield 72, 3) := by decide +kernel
theorem dX8_same_28 : decode cX8_same 28 = .ok (.iload_n 2, 1) := by decide +kernel
theorem dX8_same_29 : decode cX8_same 29 = .ok (.iaload, 1) := by decide +kernel
theorem dX8_same_30 : decode cX8_same 30 = .ok (.if_icmp .ne 7, 3) := by decide +kernel
theorem dX8_same_33 : decode cX8_same 33 = .ok (.iconst 1, 1) := by decide +kernel
theorem dX8_same_34 : decode cX8_same 34 = .ok (.goto 4, 3) := by decide +kernel
theorem dX8_same_37 : decode cX8_same 37 = .ok (.iconst 0, 1) := by decide +kernel
theorem dX8_same_38 : decode cX8_same 38 = .ok (.ireturn, 1) := by decide +kernel
theorem dX8_told_0 : decode cX8_told 0 = .ok (.aload_n 0, 1) := by decide +kernel
theorem dX8_told_1 : decode cX8_told 1 = .ok (.iload_n 1, 1) := by decide +kernel
theorem dX8_told_2 : decode cX8_told 2 = .ok (.putfield 132, 3) := by decide +kernel
theorem dX8_told_5 : decode cX8_told 5 = .ok (.lconst 0, 1) := by decide +kernel
theorem dX8_told_6 : decode cX8_told 6 = .ok (.lreturn, 1) := by decide +kernel
theorem dX8_localOf_0 : decode cX8_localOf 0 = .ok (.bipush (-3), 2) := by decide +kernel
theorem dX8_localOf_2 : decode cX8_localOf 2 = .ok (.istore 4, 2) := by decide +kernel
theorem dX8_localOf_4 : decode cX8_localOf 4 = .ok (.iconst 0, 1) := by decide +kernel
theorem dX8_localOf_5 : decode cX8_localOf 5 = .ok (.istore 5, 2) := by decide +kernel
theorem dX8_localOf_7 : decode cX8_localOf 7 = .ok (.iload 5, 2) := by decide +kernel
theorem dX8_localOf_9 : decode cX8_localOf 9 = .ok (.iload_n 2, 1) := by decide +kernel
theorem dX8_localOf_10 : decode cX8_localOf 10 = .ok (.if_icmp .ge 33, 3) := by decide +kernel
theorem dX8_localOf_13 : decode cX8_localOf 13 = .ok (.aload_n 0, 1) := by decide +kernel
theorem dX8_localOf_14 : decode cX8_localOf 14 = .ok (.getfield 48, 3) := by decide +kernel
theorem dX8_localOf_17 : decode cX8_localOf 17 = .ok (.iconst 4, 1) := by decide +kernel
theorem dX8_localOf_18 : decode cX8_localOf 18 = .ok (.iload_n 1, 1) := by decide +kernel
theorem dX8_localOf_19 : decode cX8_localOf 19 = .ok (.imul, 1) := by decide +kernel
theorem dX8_localOf_20 : decode cX8_localOf 20 = .ok (.iload 5, 2) := by decide +kernel
theorem dX8_localOf_22 : decode cX8_localOf 22 = .ok (.iadd, 1) := by decide +kernel
theorem dX8_localOf_23 : decode cX8_localOf 23 = .ok (.iaload, 1) := by decide +kernel
theorem dX8_localOf_24 : decode cX8_localOf 24 = .ok (.iload_n 3, 1) := by decide +kernel
theorem dX8_localOf_25 : decode cX8_localOf 25 = .ok (.if_icmp .ne 8, 3) := by decide +kernel
theorem dX8_localOf_28 : decode cX8_localOf 28 = .ok (.iload 5, 2) := by decide +kernel
theorem dX8_localOf_30 : decode cX8_localOf 30 = .ok (.goto 5, 3) := by decide +kernel
theorem dX8_localOf_33 : decode cX8_localOf 33 = .ok (.iload 4, 2) := by decide +kernel
theorem dX8_localOf_35 : decode cX8_localOf 35 = .ok (.istore 4, 2) := by decide +kernel
theorem dX8_localOf_37 : decode cX8_localOf 37 = .ok (.iinc 5 1, 3) := by decide +kernel
theorem dX8_localOf_40 : decode cX8_localOf 40 = .ok (.goto (-33), 3) := by decide +kernel
theorem dX8_localOf_43 : decode cX8_localOf 43 = .ok (.iload 4, 2) := by decide +kernel
theorem dX8_localOf_45 : decode cX8_localOf 45 = .ok (.ireturn, 1) := by decide +kernel
theorem dX8_ofField_0 : decode cX8_ofField 0 = .ok (.aload_n 0, 1) := by decide +kernel
theorem dX8_ofField_1 : decode cX8_ofField 1 = .ok (.iconst 4, 1) := by decide +kernel
theorem dX8_ofField_2 : decode cX8_ofField 2 = .ok (.iload_n 1, 1) := by decide +kernel
theorem dX8_ofField_3 : decode cX8_ofField 3 = .ok (.imul, 1) := by decide +kernel
theorem dX8_ofField_4 : decode cX8_ofField 4 = .ok (.iload_n 2, 1) := by decide +kernel
theorem dX8_ofField_5 : decode cX8_ofField 5 = .ok (.iadd, 1) := by decide +kernel
theorem dX8_ofField_6 : decode cX8_ofField 6 = .ok (.putfield 146, 3) := by decide +kernel
theorem dX8_ofField_9 : decode cX8_ofField 9 = .ok (.aload_n 0, 1) := by decide +kernel
theorem dX8_ofField_10 : decode cX8_ofField 10 = .ok (.bipush (-3), 2) := by decide +kernel
theorem dX8_ofField_12 : decode cX8_ofField 12 = .ok (.putfield 149, 3) := by decide +kernel
theorem dX8_ofField_15 : decode cX8_ofField 15 = .ok (.aload_n 0, 1) := by decide +kernel
theorem dX8_ofField_16 : decode cX8_ofField 16 = .ok (.getfield 38, 3) := by decide +kernel
theorem dX8_ofField_19 : decode cX8_ofField 19 = .ok (.iconst 4, 1) := by decide +kernel
theorem dX8_ofField_20 : decode cX8_ofField 20 = .ok (.iload_n 1, 1) := by decide +kernel
theorem dX8_ofField_21 : decode cX8_ofField 21 = .ok (.imul, 1) := by decide +kernel
theorem dX8_ofField_22 : decode cX8_ofField 22 = .ok (.iload_n 2, 1) := by decide +kernel
theorem dX8_ofField_23 : decode cX8_ofField 23 = .ok (.iadd, 1) := by decide +kernel
theorem dX8_ofField_24 : decode cX8_ofField 24 = .ok (.baload, 1) := by decide +kernel
theorem dX8_ofField_25 : decode cX8_ofField 25 = .ok (.ifCond .eq 19, 3) := by decide +kernel
theorem dX8_ofField_28 : decode cX8_ofField 28 = .ok (.aload_n 0, 1) := by decide +kernel
theorem dX8_ofField_29 : decode cX8_ofField 29 = .ok (.iconst 0, 1) := by decide +kernel
theorem dX8_ofField_30 : decode cX8_ofField 30 = .ok (.putfield 132, 3) := by decide +kernel
theorem dX8_ofField_33 : decode cX8_ofField 33 = .ok (.aload_n 0, 1) := by decide +kernel
theorem dX8_ofField_34 : decode cX8_ofField 34 = .ok (.getfield 34, 3) := by decide +kernel
theorem dX8_ofField_37 : decode cX8_ofField 37 = .ok (.iconst 4, 1) := by decide +kernel
theorem dX8_ofField_38 : decode cX8_ofField 38 = .ok (.iload_n 1, 1) := by decide +kernel
theorem dX8_ofField_39 : decode cX8_ofField 39 = .ok (.imul, 1) := by decide +kernel
theorem dX8_ofField_40 : decode cX8_ofField 40 = .ok (.iload_n 2, 1) := by decide +kernel
theorem dX8_ofField_41 : decode cX8_ofField 41 = .ok (.iadd, 1) := by decide +kernel
theorem dX8_ofField_42 : decode cX8_ofField 42 = .ok (.laload, 1) := by decide +kernel
theorem dX8_ofField_43 : decode cX8_ofField 43 = .ok (.lreturn, 1) := by decide +kernel
theorem dX8_ofField_44 : decode cX8_ofField 44 = .ok (.iload_n 3, 1) := by decide +kernel
theorem dX8_ofField_45 : decode cX8_ofField 45 = .ok (.bipush (-3), 2) := by decide +kernel
theorem dX8_ofField_47 : decode cX8_ofField 47 = .ok (.if_icmp .ne 9, 3) := by decide +kernel
theorem dX8_ofField_50 : decode cX8_ofField 50 = .ok (.aload_n 0, 1) := by decide +kernel
theorem dX8_ofField_51 : decode cX8_ofField 51 = .ok (.iconst 4, 1) := by decide +kernel
theorem dX8_ofField_52 : decode cX8_ofField 52 = .ok (.invokevirtual 152, 3) := by decide +kernel
theorem dX8_ofField_55 : decode cX8_ofField 55 = .ok (.lreturn, 1) := by decide +kernel
theorem dX8_ofField_56 : decode cX8_ofField 56 = .ok (.iload_n 2, 1) := by decide +kernel
theorem dX8_ofField_57 : decode cX8_ofField 57 = .ok (.aload_n 0, 1) := by decide +kernel
theorem dX8_ofField_58 : decode cX8_ofField 58 = .ok (.getfield 60, 3) := by decide +kernel
theorem dX8_ofField_61 : decode cX8_ofField 61 = .ok (.bipush 12, 2) := by decide +kernel
theorem dX8_ofField_63 : decode cX8_ofField 63 = .ok (.iload_n 3, 1) := by decide +kernel
theorem dX8_ofField_64 : decode cX8_ofField 64 = .ok (.imul, 1) := by decide +kernel
theorem dX8_ofField_65 : decode cX8_ofField 65 = .ok (.iload_n 1, 1) := by decide +kernel
theorem dX8_ofField_66 : decode cX8_ofField 66 = .ok (.iadd, 1) := by decide +kernel
theorem dX8_ofField_67 : decode cX8_ofField 67 = .ok (.iaload, 1) := by decide +kernel
theorem dX8_ofField_68 : decode cX8_ofField 68 = .ok (.if_icmp .lt 9, 3) := by decide +kernel
theorem dX8_ofField_71 : decode cX8_ofField 71 = .ok (.aload_n 0, 1) := by decide +kernel
theorem dX8_ofField_72 : decode cX8_ofField 72 = .ok (.iconst 5, 1) := by decide +kernel
theorem dX8_ofField_73 : decode cX8_ofField 73 = .ok (.invokevirtual 152, 3) := by decide +kernel
theorem dX8_ofField_76 : decode cX8_ofField 76 = .ok (.lreturn, 1) := by decide +kernel
theorem dX8_ofField_77 : decode cX8_ofField 77 = .ok (.aload_n 0, 1) := by decide +kernel
theorem dX8_ofField_78 : decode cX8_ofField 78 = .ok (.iload_n 3, 1) := by decide +kernel
theorem dX8_ofField_79 : decode cX8_ofField 79 = .ok (.putfield 149, 3) := by decide +kernel
theorem dX8_ofField_82 : decode cX8_ofField 82 = .ok (.aload_n 0, 1) := by decide +kernel
theorem dX8_ofField_83 : decode cX8_ofField 83 = .ok (.iconst 0, 1) := by decide +kernel
theorem dX8_ofField_84 : decode cX8_ofField 84 = .ok (.putfield 132, 3) := by decide +kernel
theorem dX8_ofField_87 : decode cX8_ofField 87 = .ok (.aload_n 0, 1) := by decide +kernel
theorem dX8_ofField_88 : decode cX8_ofField 88 = .ok (.getfield 66, 3) := by decide +kernel
theorem dX8_ofField_91 : decode cX8_ofField 91 = .ok (.iconst 4, 1) := by decide +kernel
theorem dX8_ofField_92 : decode cX8_ofField 92 = .ok (.bipush 12, 2) := by decide +kernel
theorem dX8_ofField_94 : decode cX8_ofField 94 = .ok (.iload_n 3, 1) := by decide +kernel
theorem dX8_ofField_95 : decode cX8_ofField 95 = .ok (.imul, 1) := by decide +kernel
theorem dX8_ofField_96 : decode cX8_ofField 96 = .ok (.iload_n 1, 1) := by decide +kernel
theorem dX8_ofField_97 : decode cX8_ofField 97 = .ok (.iadd, 1) := by decide +kernel
theorem dX8_ofField_98 : decode cX8_ofField 98 = .ok (.imul, 1) := by decide +kernel
theorem dX8_ofField_99 : decode cX8_ofField 99 = .ok (.iload_n 2, 1) := by decide +kernel
theorem dX8_ofField_100 : decode cX8_ofField 100 = .ok (.iadd, 1) := by decide +kernel
theorem dX8_ofField_101 : decode cX8_ofField 101 = .ok (.laload, 1) := by decide +kernel
theorem dX8_ofField_102 : decode cX8_ofField 102 = .ok (.lreturn, 1) := by decide +kernel
theorem dX8_ofLocal_0 : decode cX8_ofLocal 0 = .ok (.iconst 4, 1) := by decide +kernel
theorem dX8_ofLocal_1 : decode cX8_ofLocal 1 = .ok (.aload_n 0, 1) := by decide +kernel
theorem dX8_ofLocal_2 : decode cX8_ofLocal 2 = .ok (.getfield 13, 3) := by decide +kernel
theorem dX8_ofLocal_5 : decode cX8_ofLocal 5 = .ok (.iload_n 1, 1) := by decide +kernel
theorem dX8_ofLocal_6 : decode cX8_ofLocal 6 = .ok (.iaload, 1) := by decide +kernel
theorem dX8_ofLocal_7 : decode cX8_ofLocal 7 = .ok (.imul, 1) := by decide +kernel
theorem dX8_ofLocal_8 : decode cX8_ofLocal 8 = .ok (.iload_n 2, 1) := by decide +kernel
theorem dX8_ofLocal_9 : decode cX8_ofLocal 9 = .ok (.iadd, 1) := by decide +kernel
theorem dX8_ofLocal_10 : decode cX8_ofLocal 10 = .ok (.istore 5, 2) := by decide +kernel
theorem dX8_ofLocal_12 : decode cX8_ofLocal 12 = .ok (.aload_n 0, 1) := by decide +kernel
theorem dX8_ofLocal_13 : decode cX8_ofLocal 13 = .ok (.getfield 7, 3) := by decide +kernel
theorem dX8_ofLocal_16 : decode cX8_ofLocal 16 = .ok (.iload_n 1, 1) := by decide +kernel
theorem dX8_ofLocal_17 : decode cX8_ofLocal 17 = .ok (.iaload, 1) := by decide +kernel
theorem dX8_ofLocal_18 : decode cX8_ofLocal 18 = .ok (.iconst 4, 1) := by decide +kernel
theorem dX8_ofLocal_19 : decode cX8_ofLocal 19 = .ok (.if_icmp .ne 10, 3) := by decide +kernel
theorem dX8_ofLocal_22 : decode cX8_ofLocal 22 = .ok (.aload_n 0, 1) := by decide +kernel
theorem dX8_ofLocal_23 : decode cX8_ofLocal 23 = .ok (.bipush 6, 2) := by decide +kernel
theorem dX8_ofLocal_25 : decode cX8_ofLocal 25 = .ok (.invokevirtual 152, 3) := by decide +kernel
theorem dX8_ofLocal_28 : decode cX8_ofLocal 28 = .ok (.lreturn, 1) := by decide +kernel
theorem dX8_ofLocal_29 : decode cX8_ofLocal 29 = .ok (.aload_n 0, 1) := by decide +kernel
theorem dX8_ofLocal_30 : decode cX8_ofLocal 30 = .ok (.getfield 54, 3) := by decide +kernel
theorem dX8_ofLocal_33 : decode cX8_ofLocal 33 = .ok (.iload 5, 2) := by decide +kernel
theorem dX8_ofLocal_35 : decode cX8_ofLocal 35 = .ok (.baload, 1) := by decide +kernel
theorem dX8_ofLocal_36 : decode cX8_ofLocal 36 = .ok (.ifCond .eq 10, 3) := by decide +kernel
theorem dX8_ofLocal_39 : decode cX8_ofLocal 39 = .ok (.aload_n 0, 1) := by decide +kernel
theorem dX8_ofLocal_40 : decode cX8_ofLocal 40 = .ok (.bipush 7, 2) := by decide +kernel
theorem dX8_ofLocal_42 : decode cX8_ofLocal 42 = .ok (.invokevirtual 152, 3) := by decide +kernel
theorem dX8_ofLocal_45 : decode cX8_ofLocal 45 = .ok (.lreturn, 1) := by decide +kernel
theorem dX8_ofLocal_46 : decode cX8_ofLocal 46 = .ok (.iload_n 3, 1) := by decide +kernel
theorem dX8_ofLocal_47 : decode cX8_ofLocal 47 = .ok (.bipush (-3), 2) := by decide +kernel
theorem dX8_ofLocal_49 : decode cX8_ofLocal 49 = .ok (.if_icmp .ne 9, 3) := by decide +kernel
theorem dX8_ofLocal_52 : decode cX8_ofLocal 52 = .ok (.aload_n 0, 1) := by decide +kernel
theorem dX8_ofLocal_53 : decode cX8_ofLocal 53 = .ok (.iconst 4, 1) := by decide +kernel
theorem dX8_ofLocal_54 : decode cX8_ofLocal 54 = .ok (.invokevirtual 152, 3) := by decide +kernel
theorem dX8_ofLocal_57 : decode cX8_ofLocal 57 = .ok (.lreturn, 1) := by decide +kernel
theorem dX8_ofLocal_58 : decode cX8_ofLocal 58 = .ok (.aload_n 0, 1) := by decide +kernel
theorem dX8_ofLocal_59 : decode cX8_ofLocal 59 = .ok (.iload_n 3, 1) := by decide +kernel
theorem dX8_ofLocal_60 : decode cX8_ofLocal 60 = .ok (.iload_n 1, 1) := by decide +kernel
theorem dX8_ofLocal_61 : decode cX8_ofLocal 61 = .ok (.invokevirtual 122, 3) := by decide +kernel
theorem dX8_ofLocal_64 : decode cX8_ofLocal 64 = .ok (.ifCond .ne 9, 3) := by decide +kernel
theorem dX8_ofLocal_67 : decode cX8_ofLocal 67 = .ok (.aload_n 0, 1) := by decide +kernel
theorem dX8_ofLocal_68 : decode cX8_ofLocal 68 = .ok (.iconst 5, 1) := by decide +kernel
theorem dX8_ofLocal_69 : decode cX8_ofLocal 69 = .ok (.invokevirtual 152, 3) := by decide +kernel
theorem dX8_ofLocal_72 : decode cX8_ofLocal 72 = .ok (.lreturn, 1) := by decide +kernel
theorem dX8_ofLocal_73 : decode cX8_ofLocal 73 = .ok (.iload 4, 2) := by decide +kernel
theorem dX8_ofLocal_75 : decode cX8_ofLocal 75 = .ok (.ifCond .eq 10, 3) := by decide +kernel
theorem dX8_ofLocal_78 : decode cX8_ofLocal 78 = .ok (.aload_n 0, 1) := by decide +kernel
theorem dX8_ofLocal_79 : decode cX8_ofLocal 79 = .ok (.bipush 7, 2) := by decide +kernel
theorem dX8_ofLocal_81 : decode cX8_ofLocal 81 = .ok (.invokevirtual 152, 3) := by decide +kernel
theorem dX8_ofLocal_84 : decode cX8_ofLocal 84 = .ok (.lreturn, 1) := by decide +kernel
theorem dX8_ofLocal_85 : decode cX8_ofLocal 85 = .ok (.aload_n 0, 1) := by decide +kernel
theorem dX8_ofLocal_86 : decode cX8_ofLocal 86 = .ok (.iconst 0, 1) := by decide +kernel
theorem dX8_ofLocal_87 : decode cX8_ofLocal 87 = .ok (.putfield 132, 3) := by decide +kernel
theorem dX8_ofLocal_90 : decode cX8_ofLocal 90 = .ok (.aload_n 0, 1) := by decide +kernel
theorem dX8_ofLocal_91 : decode cX8_ofLocal 91 = .ok (.getfield 69, 3) := by decide +kernel
theorem dX8_ofLocal_94 : decode cX8_ofLocal 94 = .ok (.iconst 4, 1) := by decide +kernel
theorem dX8_ofLocal_95 : decode cX8_ofLocal 95 = .ok (.bipush 12, 2) := by decide +kernel
theorem dX8_ofLocal_97 : decode cX8_ofLocal 97 = .ok (.iload_n 3, 1) := by decide +kernel
theorem dX8_ofLocal_98 : decode cX8_ofLocal 98 = .ok (.imul, 1) := by decide +kernel
theorem dX8_ofLocal_99 : decode cX8_ofLocal 99 = .ok (.iload_n 1, 1) := by decide +kernel
theorem dX8_ofLocal_100 : decode cX8_ofLocal 100 = .ok (.iadd, 1) := by decide +kernel
theorem dX8_ofLocal_101 : decode cX8_ofLocal 101 = .ok (.imul, 1) := by decide +kernel
theorem dX8_ofLocal_102 : decode cX8_ofLocal 102 = .ok (.iload_n 2, 1) := by decide +kernel
theorem dX8_ofLocal_103 : decode cX8_ofLocal 103 = .ok (.iadd, 1) := by decide +kernel
theorem dX8_ofLocal_104 : decode cX8_ofLocal 104 = .ok (.laload, 1) := by decide +kernel
theorem dX8_ofLocal_105 : decode cX8_ofLocal 105 = .ok (.lreturn, 1) := by decide +kernel
theorem dX8_find_0 : decode cX8_find 0 = .ok (.iload_n 1, 1) := by decide +kernel
theorem dX8_find_1 : decode cX8_find 1 = .ok (.istore 5, 2) := by decide +kernel
theorem dX8_find_3 : decode cX8_find 3 = .ok (.iload_n 2, 1) := by decide +kernel
theorem dX8_find_4 : decode cX8_find 4 = .ok (.istore 6, 2) := by decide +kernel
theorem dX8_find_6 : decode cX8_find 6 = .ok (.aload_n 0, 1) := by decide +kernel
theorem dX8_find_7 : decode cX8_find 7 = .ok (.bipush (-3), 2) := by decide +kernel
theorem dX8_find_9 : decode cX8_find 9 = .ok (.putfield 146, 3) := by decide +kernel
theorem dX8_find_12 : decode cX8_find 12 = .ok (.iload 5, 2) := by decide +kernel
theorem dX8_find_14 : decode cX8_find 14 = .ok (.bipush (-3), 2) := by decide +kernel
theorem dX8_find_16 : decode cX8_find 16 = .ok (.if_icmp .eq 156, 3) := by decide +kernel
theorem dX8_find_19 : decode cX8_find 19 = .ok (.iload 5, 2) := by decide +kernel
theorem dX8_find_21 : decode cX8_find 21 = .ok (.istore 7, 2) := by decide +kernel
theorem dX8_find_23 : decode cX8_find 23 = .ok (.iload 7, 2) := by decide +kernel
theorem dX8_find_25 : decode cX8_find 25 = .ok (.bipush (-3), 2) := by decide +kernel
theorem dX8_find_27 : decode cX8_find 27 = .ok (.if_icmp .eq 40, 3) := by decide +kernel
theorem dX8_find_30 : decode cX8_find 30 = .ok (.aload_n 0, 1) := by decide +kernel
theorem dX8_find_31 : decode cX8_find 31 = .ok (.iload 7, 2) := by decide +kernel
theorem dX8_find_33 : decode cX8_find 33 = .ok (.iload_n 3, 1) := by decide +kernel
theorem dX8_find_34 : decode cX8_find 34 = .ok (.invokevirtual 111, 3) := by decide +kernel
theorem dX8_find_37 : decode cX8_find 37 = .ok (.istore 8, 2) := by decide +kernel
theorem dX8_find_39 : decode cX8_find 39 = .ok (.iload 8, 2) := by decide +kernel
theorem dX8_find_41 : decode cX8_find 41 = .ok (.ifCond .lt 14, 3) := by decide +kernel
theorem dX8_find_44 : decode cX8_find 44 = .ok (.aload_n 0, 1) := by decide +kernel
theorem dX8_find_45 : decode cX8_find 45 = .ok (.iload 7, 2) := by decide +kernel
theorem dX8_find_47 : decode cX8_find 47 = .ok (.iload 8, 2) := by decide +kernel
theorem dX8_find_49 : decode cX8_find 49 = .ok (.iload 6, 2) := by decide +kernel
theorem dX8_find_51 : decode cX8_find 51 = .ok (.invokevirtual 156, 3) := by decide +kernel
theorem dX8_find_54 : decode cX8_find 54 = .ok (.lreturn, 1) := by decide +kernel
theorem dX8_find_55 : decode cX8_find 55 = .ok (.aload_n 0, 1) := by decide +kernel
theorem dX8_find_56 : decode cX8_find 56 = .ok (.getfield 25, 3) := by decide +kernel
theorem dX8_find_59 : decode cX8_find 59 = .ok (.iload 7, 2) := by decide +kernel
theorem dX8_find_61 : decode cX8_find 61 = .ok (.iaload, 1) := by decide +kernel
theorem dX8_find_62 : decode cX8_find 62 = .ok (.istore 7, 2) := by decide +kernel
theorem dX8_find_64 : decode cX8_find 64 = .ok (.goto (-41), 3) := by decide +kernel
theorem dX8_find_67 : decode cX8_find 67 = .ok (.aload_n 0, 1) := by decide +kernel
theorem dX8_find_68 : decode cX8_find 68 = .ok (.getfield 7, 3) := by decide +kernel
theorem dX8_find_71 : decode cX8_find 71 = .ok (.iload 5, 2) := by decide +kernel
theorem dX8_find_73 : decode cX8_find 73 = .ok (.iaload, 1) := by decide +kernel
theorem dX8_find_74 : decode cX8_find 74 = .ok (.invokestatic 105, 3) := by decide +kernel
theorem dX8_find_77 : decode cX8_find 77 = .ok (.ifCond .eq 25, 3) := by decide +kernel
theorem dX8_find_80 : decode cX8_find 80 = .ok (.aload_n 0, 1) := by decide +kernel
theorem dX8_find_81 : decode cX8_find 81 = .ok (.aload_n 0, 1) := by decide +kernel
theorem dX8_find_82 : decode cX8_find 82 = .ok (.getfield 13, 3) := by decide +kernel
theorem dX8_find_85 : decode cX8_find 85 = .ok (.iload 5, 2) := by decide +kernel
theorem dX8_find_87 : decode cX8_find 87 = .ok (.iaload, 1) := by decide +kernel
theorem dX8_find_88 : decode cX8_find 88 = .ok (.aload_n 0, 1) := by decide +kernel
theorem dX8_find_89 : decode cX8_find 89 = .ok (.getfield 22, 3) := by decide +kernel
theorem dX8_find_92 : decode cX8_find 92 = .ok (.iload 5, 2) := by decide +kernel
theorem dX8_find_94 : decode cX8_find 94 = .ok (.iaload, 1) := by decide +kernel
theorem dX8_find_95 : decode cX8_find 95 = .ok (.iload_n 3, 1) := by decide +kernel
theorem dX8_find_96 : decode cX8_find 96 = .ok (.invokevirtual 160, 3) := by decide +kernel
theorem dX8_find_99 : decode cX8_find 99 = .ok (.goto 5, 3) := by decide +kernel
theorem dX8_find_102 : decode cX8_find 102 = .ok (.bipush (-3), 2) := by decide +kernel
theorem dX8_find_104 : decode cX8_find 104 = .ok (.istore 7, 2) := by decide +kernel
theorem dX8_find_106 : decode cX8_find 106 = .ok (.iload 7, 2) := by decide +kernel
theorem dX8_find_108 : decode cX8_find 108 = .ok (.ifCond .lt 16, 3) := by decide +kernel
theorem dX8_find_111 : decode cX8_find 111 = .ok (.aload_n 0, 1) := by decide +kernel
theorem dX8_find_112 : decode cX8_find 112 = .ok (.iload 5, 2) := by decide +kernel
theorem dX8_find_114 : decode cX8_find 114 = .ok (.iload 7, 2) := by decide +kernel
theorem dX8_find_116 : decode cX8_find 116 = .ok (.iload 6, 2) := by decide +kernel
theorem dX8_find_118 : decode cX8_find 118 = .ok (.iload 4, 2) := by decide +kernel
theorem dX8_find_120 : decode cX8_find 120 = .ok (.invokevirtual 163, 3) := by decide +kernel
theorem dX8_find_123 : decode cX8_find 123 = .ok (.lreturn, 1) := by decide +kernel
theorem dX8_find_124 : decode cX8_find 124 = .ok (.iload 6, 2) := by decide +kernel
theorem dX8_find_126 : decode cX8_find 126 = .ok (.bipush (-3), 2) := by decide +kernel
theorem dX8_find_128 : decode cX8_find 128 = .ok (.if_icmp .eq 12, 3) := by decide +kernel
theorem dX8_find_131 : decode cX8_find 131 = .ok (.aload_n 0, 1) := by decide +kernel
theorem dX8_find_132 : decode cX8_find 132 = .ok (.iload 5, 2) := by decide +kernel
theorem dX8_find_134 : decode cX8_find 134 = .ok (.invokevirtual 129, 3) := by decide +kernel
theorem dX8_find_137 : decode cX8_find 137 = .ok (.ifCond .ne 8, 3) := by decide +kernel
theorem dX8_find_140 : decode cX8_find 140 = .ok (.bipush (-3), 2) := by decide +kernel
theorem dX8_find_142 : decode cX8_find 142 = .ok (.goto 16, 3) := by decide +kernel
theorem dX8_find_145 : decode cX8_find 145 = .ok (.aload_n 0, 1) := by decide +kernel
theorem dX8_find_146 : decode cX8_find 146 = .ok (.getfield 63, 3) := by decide +kernel
theorem dX8_find_149 : decode cX8_find 149 = .ok (.bipush 12, 2) := by decide +kernel
theorem dX8_find_151 : decode cX8_find 151 = .ok (.iload 6, 2) := by decide +kernel
theorem dX8_find_153 : decode cX8_find 153 = .ok (.imul, 1) := by decide +kernel
theorem dX8_find_154 : decode cX8_find 154 = .ok (.iload 5, 2) := by decide +kernel
theorem dX8_find_156 : decode cX8_find 156 = .ok (.iadd, 1) := by decide +kernel
theorem dX8_find_157 : decode cX8_find 157 = .ok (.iaload, 1) := by decide +kernel
theorem dX8_find_158 : decode cX8_find 158 = .ok (.istore 6, 2) := by decide +kernel
theorem dX8_find_160 : decode cX8_find 160 = .ok (.aload_n 0, 1) := by decide +kernel
theorem dX8_find_161 : decode cX8_find 161 = .ok (.getfield 13, 3) := by decide +kernel
theorem dX8_find_164 : decode cX8_find 164 = .ok (.iload 5, 2) := by decide +kernel
theorem dX8_find_166 : decode cX8_find 166 = .ok (.iaload, 1) := by decide +kernel
theorem dX8_find_167 : decode cX8_find 167 = .ok (.istore 5, 2) := by decide +kernel
theorem dX8_find_169 : decode cX8_find 169 = .ok (.goto (-157), 3) := by decide +kernel
theorem dX8_find_172 : decode cX8_find 172 = .ok (.aload_n 0, 1) := by decide +kernel
theorem dX8_find_173 : decode cX8_find 173 = .ok (.bipush 8, 2) := by decide +kernel
theorem dX8_find_175 : decode cX8_find 175 = .ok (.invokevirtual 152, 3) := by decide +kernel
theorem dX8_find_178 : decode cX8_find 178 = .ok (.lreturn, 1) := by decide +kernel
theorem dX8_see_0 : decode cX8_see 0 = .ok (.iload_n 1, 1) := by decide +kernel
theorem dX8_see_1 : decode cX8_see 1 = .ok (.invokestatic 126, 3) := by decide +kernel
theorem dX8_see_4 : decode cX8_see 4 = .ok (.ifCond .eq 10, 3) := by decide +kernel
theorem dX8_see_7 : decode cX8_see 7 = .ok (.iload_n 2, 1) := by decide +kernel
theorem dX8_see_8 : decode cX8_see 8 = .ok (.invokestatic 108, 3) := by decide +kernel
theorem dX8_see_11 : decode cX8_see 11 = .ok (.ifCond .ne 9, 3) := by decide +kernel
theorem dX8_see_14 : decode cX8_see 14 = .ok (.aload_n 0, 1) := by decide +kernel
theorem dX8_see_15 : decode cX8_see 15 = .ok (.iconst (-1), 1) := by decide +kernel
theorem dX8_see_16 : decode cX8_see 16 = .ok (.invokevirtual 152, 3) := by decide +kernel
theorem dX8_see_19 : decode cX8_see 19 = .ok (.lreturn, 1) := by decide +kernel
theorem dX8_see_20 : decode cX8_see 20 = .ok (.aload_n 0, 1) := by decide +kernel
theorem dX8_see_21 : decode cX8_see 21 = .ok (.getfield 72, 3) := by decide +kernel
theorem dX8_see_24 : decode cX8_see 24 = .ok (.iload_n 1, 1) := by decide +kernel
theorem dX8_see_25 : decode cX8_see 25 = .ok (.iaload, 1) := by decide +kernel
theorem dX8_see_26 : decode cX8_see 26 = .ok (.istore_n 3, 1) := by decide +kernel
theorem dX8_see_27 : decode cX8_see 27 = .ok (.iload_n 3, 1) := by decide +kernel
theorem dX8_see_28 : decode cX8_see 28 = .ok (.bipush (-3), 2) := by decide +kernel
theorem dX8_see_30 : decode cX8_see 30 = .ok (.if_icmp .ne 12, 3) := by decide +kernel
theorem dX8_see_33 : decode cX8_see 33 = .ok (.aload_n 0, 1) := by decide +kernel
theorem dX8_see_34 : decode cX8_see 34 = .ok (.bipush 9, 2) := by decide +kernel
theorem dX8_see_36 : decode cX8_see 36 = .ok (.invokevirtual 152, 3) := by decide +kernel
theorem dX8_see_39 : decode cX8_see 39 = .ok (.goto 16, 3) := by decide +kernel
theorem dX8_see_42 : decode cX8_see 42 = .ok (.aload_n 0, 1) := by decide +kernel
theorem dX8_see_43 : decode cX8_see 43 = .ok (.aload_n 0, 1) := by decide +kernel
theorem dX8_see_44 : decode cX8_see 44 = .ok (.getfield 57, 3) := by decide +kernel
theorem dX8_see_47 : decode cX8_see 47 = .ok (.iload_n 3, 1) := by decide +kernel
theorem dX8_see_48 : decode cX8_see 48 = .ok (.iaload, 1) := by decide +kernel
theorem dX8_see_49 : decode cX8_see 49 = .ok (.iload_n 3, 1) := by decide +kernel
theorem dX8_see_50 : decode cX8_see 50 = .ok (.iload_n 2, 1) := by decide +kernel
theorem dX8_see_51 : decode cX8_see 51 = .ok (.iconst 0, 1) := by decide +kernel
theorem dX8_see_52 : decode cX8_see 52 = .ok (.invokevirtual 167, 3) := by decide +kernel
theorem dX8_see_55 : decode cX8_see 55 = .ok (.lreturn, 1) := by decide +kernel
theorem dX8_put__0 : decode cX8_put_ 0 = .ok (.iload_n 1, 1) := by decide +kernel
theorem dX8_put__1 : decode cX8_put_ 1 = .ok (.invokestatic 126, 3) := by decide +kernel
theorem dX8_put__4 : decode cX8_put_ 4 = .ok (.ifCond .eq 10, 3) := by decide +kernel
theorem dX8_put__7 : decode cX8_put_ 7 = .ok (.iload_n 2, 1) := by decide +kernel
theorem dX8_put__8 : decode cX8_put_ 8 = .ok (.invokestatic 108, 3) := by decide +kernel
theorem dX8_put__11 : decode cX8_put_ 11 = .ok (.ifCond .ne 10, 3) := by decide +kernel
theorem dX8_put__14 : decode cX8_put_ 14 = .ok (.aload_n 0, 1) := by decide +kernel
theorem dX8_put__15 : decode cX8_put_ 15 = .ok (.iconst (-1), 1) := by decide +kernel
theorem dX8_put__16 : decode cX8_put_ 16 = .ok (.putfield 132, 3) := by decide +kernel
theorem dX8_put__19 : decode cX8_put_ 19 = .ok (.iconst (-1), 1) := by decide +kernel
theorem dX8_put__20 : decode cX8_put_ 20 = .ok (.ireturn, 1) := by decide +kernel
theorem dX8_put__21 : decode cX8_put_ 21 = .ok (.aload_n 0, 1) := by decide +kernel
theorem dX8_put__22 : decode cX8_put_ 22 = .ok (.getfield 72, 3) := by decide +kernel
theorem dX8_put__25 : decode cX8_put_ 25 = .ok (.iload_n 1, 1) := by decide +kernel
theorem dX8_put__26 : decode cX8_put_ 26 = .ok (.iaload, 1) := by decide +kernel
theorem dX8_put__27 : decode cX8_put_ 27 = .ok (.istore 5, 2) := by decide +kernel
theorem dX8_put__29 : decode cX8_put_ 29 = .ok (.iload 5, 2) := by decide +kernel
theorem dX8_put__31 : decode cX8_put_ 31 = .ok (.bipush (-3), 2) := by decide +kernel
theorem dX8_put__33 : decode cX8_put_ 33 = .ok (.if_icmp .ne 12, 3) := by decide +kernel
theorem dX8_put__36 : decode cX8_put_ 36 = .ok (.aload_n 0, 1) := by decide +kernel
theorem dX8_put__37 : decode cX8_put_ 37 = .ok (.bipush 9, 2) := by decide +kernel
theorem dX8_put__39 : decode cX8_put_ 39 = .ok (.putfield 132, 3) := by decide +kernel
theorem dX8_put__42 : decode cX8_put_ 42 = .ok (.bipush 9, 2) := by decide +kernel
theorem dX8_put__44 : decode cX8_put_ 44 = .ok (.ireturn, 1) := by decide +kernel
theorem dX8_put__45 : decode cX8_put_ 45 = .ok (.aload_n 0, 1) := by decide +kernel
theorem dX8_put__46 : decode cX8_put_ 46 = .ok (.aload_n 0, 1) := by decide +kernel
theorem dX8_put__47 : decode cX8_put_ 47 = .ok (.getfield 57, 3) := by decide +kernel
theorem dX8_put__50 : decode cX8_put_ 50 = .ok (.iload 5, 2) := by decide +kernel
theorem dX8_put__52 : decode cX8_put_ 52 = .ok (.iaload, 1) := by decide +kernel
theorem dX8_put__53 : decode cX8_put_ 53 = .ok (.iload 5, 2) := by decide +kernel
theorem dX8_put__55 : decode cX8_put_ 55 = .ok (.iload_n 2, 1) := by decide +kernel
theorem dX8_put__56 : decode cX8_put_ 56 = .ok (.iconst 1, 1) := by decide +kernel
theorem dX8_put__57 : decode cX8_put_ 57 = .ok (.invokevirtual 167, 3) := by decide +kernel
theorem dX8_put__60 : decode cX8_put_ 60 = .ok (.lstore 6, 2) := by decide +kernel
theorem dX8_put__62 : decode cX8_put_ 62 = .ok (.aload_n 0, 1) := by decide +kernel
theorem dX8_put__63 : decode cX8_put_ 63 = .ok (.getfield 132, 3) := by decide +kernel
theorem dX8_put__66 : decode cX8_put_ 66 = .ok (.ifCond .ne 25, 3) := by decide +kernel
theorem dX8_put__69 : decode cX8_put_ 69 = .ok (.aload_n 0, 1) := by decide +kernel
theorem dX8_put__70 : decode cX8_put_ 70 = .ok (.getfield 149, 3) := by decide +kernel
theorem dX8_put__73 : decode cX8_put_ 73 = .ok (.bipush (-3), 2) := by decide +kernel
theorem dX8_put__75 : decode cX8_put_ 75 = .ok (.if_icmp .ne 16, 3) := by decide +kernel
theorem dX8_put__78 : decode cX8_put_ 78 = .ok (.aload_n 0, 1) := by decide +kernel
theorem dX8_put__79 : decode cX8_put_ 79 = .ok (.getfield 34, 3) := by decide +kernel
theorem dX8_put__82 : decode cX8_put_ 82 = .ok (.aload_n 0, 1) := by decide +kernel
theorem dX8_put__83 : decode cX8_put_ 83 = .ok (.getfield 146, 3) := by decide +kernel
theorem dX8_put__86 : decode cX8_put_ 86 = .ok (.lload_n 3, 1) := by decide +kernel
theorem dX8_put__87 : decode cX8_put_ 87 = .ok (.lastore, 1) := by decide +kernel
theorem dX8_put__88 : decode cX8_put_ 88 = .ok (.goto 39, 3) := by decide +kernel
theorem dX8_put__91 : decode cX8_put_ 91 = .ok (.aload_n 0, 1) := by decide +kernel
theorem dX8_put__92 : decode cX8_put_ 92 = .ok (.getfield 132, 3) := by decide +kernel
theorem dX8_put__95 : decode cX8_put_ 95 = .ok (.ifCond .ne 32, 3) := by decide +kernel
theorem dX8_put__98 : decode cX8_put_ 98 = .ok (.aload_n 0, 1) := by decide +kernel
theorem dX8_put__99 : decode cX8_put_ 99 = .ok (.getfield 66, 3) := by decide +kernel
theorem dX8_put__102 : decode cX8_put_ 102 = .ok (.iconst 4, 1) := by decide +kernel
theorem dX8_put__103 : decode cX8_put_ 103 = .ok (.bipush 12, 2) := by decide +kernel
theorem dX8_put__105 : decode cX8_put_ 105 = .ok (.aload_n 0, 1) := by decide +kernel
theorem dX8_put__106 : decode cX8_put_ 106 = .ok (.getfield 149, 3) := by decide +kernel
theorem dX8_put__109 : decode cX8_put_ 109 = .ok (.imul, 1) := by decide +kernel
theorem dX8_put__110 : decode cX8_put_ 110 = .ok (.aload_n 0, 1) := by decide +kernel
theorem dX8_put__111 : decode cX8_put_ 111 = .ok (.getfield 146, 3) := by decide +kernel
theorem dX8_put__114 : decode cX8_put_ 114 = .ok (.iconst 4, 1) := by decide +kernel
theorem dX8_put__115 : decode cX8_put_ 115 = .ok (.idiv, 1) := by decide +kernel
theorem dX8_put__116 : decode cX8_put_ 116 = .ok (.iadd, 1) := by decide +kernel
theorem dX8_put__117 : decode cX8_put_ 117 = .ok (.imul, 1) := by decide +kernel
theorem dX8_put__118 : decode cX8_put_ 118 = .ok (.aload_n 0, 1) := by decide +kernel
theorem dX8_put__119 : decode cX8_put_ 119 = .ok (.getfield 146, 3) := by decide +kernel
theorem dX8_put__122 : decode cX8_put_ 122 = .ok (.iconst 4, 1) := by decide +kernel
theorem dX8_put__123 : decode cX8_put_ 123 = .ok (.irem, 1) := by decide +kernel
theorem dX8_put__124 : decode cX8_put_ 124 = .ok (.iadd, 1) := by decide +kernel
theorem dX8_put__125 : decode cX8_put_ 125 = .ok (.lload_n 3, 1) := by decide +kernel
theorem dX8_put__126 : decode cX8_put_ 126 = .ok (.lastore, 1) := by decide +kernel
theorem dX8_put__127 : decode cX8_put_ 127 = .ok (.aload_n 0, 1) := by decide +kernel
theorem dX8_put__128 : decode cX8_put_ 128 = .ok (.getfield 132, 3) := by decide +kernel
theorem dX8_put__131 : decode cX8_put_ 131 = .ok (.ireturn, 1) := by decide +kernel
theorem dX8_that_0 : decode cX8_that 0 = .ok (.iload_n 1, 1) := by decide +kernel
theorem dX8_that_1 : decode cX8_that 1 = .ok (.invokestatic 126, 3) := by decide +kernel
theorem dX8_that_4 : decode cX8_that 4 = .ok (.ifCond .eq 18, 3) := by decide +kernel
theorem dX8_that_7 : decode cX8_that 7 = .ok (.aload_n 0, 1) := by decide +kernel
theorem dX8_that_8 : decode cX8_that 8 = .ok (.iload_n 2, 1) := by decide +kernel
theorem dX8_that_9 : decode cX8_that 9 = .ok (.invokevirtual 98, 3) := by decide +kernel
theorem dX8_that_12 : decode cX8_that 12 = .ok (.ifCond .eq 10, 3) := by decide +kernel
theorem dX8_that_15 : decode cX8_that 15 = .ok (.iload_n 3, 1) := by decide +kernel
theorem dX8_that_16 : decode cX8_that 16 = .ok (.invokestatic 126, 3) := by decide +kernel
theorem dX8_that_19 : decode cX8_that 19 = .ok (.ifCond .ne 10, 3) := by decide +kernel
theorem dX8_that_22 : decode cX8_that 22 = .ok (.aload_n 0, 1) := by decide +kernel
theorem dX8_that_23 : decode cX8_that 23 = .ok (.iconst (-1), 1) := by decide +kernel
theorem dX8_that_24 : decode cX8_that 24 = .ok (.putfield 132, 3) := by decide +kernel
theorem dX8_that_27 : decode cX8_that 27 = .ok (.iconst (-1), 1) := by decide +kernel
theorem dX8_that_28 : decode cX8_that 28 = .ok (.ireturn, 1) := by decide +kernel
theorem dX8_that_29 : decode cX8_that 29 = .ok (.aload_n 0, 1) := by decide +kernel
theorem dX8_that_30 : decode cX8_that 30 = .ok (.getfield 72, 3) := by decide +kernel
theorem dX8_that_33 : decode cX8_that 33 = .ok (.iload_n 1, 1) := by decide +kernel
theorem dX8_that_34 : decode cX8_that 34 = .ok (.iaload, 1) := by decide +kernel
theorem dX8_that_35 : decode cX8_that 35 = .ok (.istore 4, 2) := by decide +kernel
theorem dX8_that_37 : decode cX8_that 37 = .ok (.iload 4, 2) := by decide +kernel
theorem dX8_that_39 : decode cX8_that 39 = .ok (.bipush (-3), 2) := by decide +kernel
theorem dX8_that_41 : decode cX8_that 41 = .ok (.if_icmp .ne 12, 3) := by decide +kernel
theorem dX8_that_44 : decode cX8_that 44 = .ok (.aload_n 0, 1) := by decide +kernel
theorem dX8_that_45 : decode cX8_that 45 = .ok (.bipush 9, 2) := by decide +kernel
theorem dX8_that_47 : decode cX8_that 47 = .ok (.putfield 132, 3) := by decide +kernel
theorem dX8_that_50 : decode cX8_that 50 = .ok (.bipush 9, 2) := by decide +kernel
theorem dX8_that_52 : decode cX8_that 52 = .ok (.ireturn, 1) := by decide +kernel
theorem dX8_that_53 : decode cX8_that 53 = .ok (.aload_n 0, 1) := by decide +kernel
theorem dX8_that_54 : decode cX8_that 54 = .ok (.getfield 57, 3) := by decide +kernel
theorem dX8_that_57 : decode cX8_that 57 = .ok (.iload 4, 2) := by decide +kernel
theorem dX8_that_59 : decode cX8_that 59 = .ok (.iaload, 1) := by decide +kernel
theorem dX8_that_60 : decode cX8_that 60 = .ok (.istore 5, 2) := by decide +kernel
theorem dX8_that_62 : decode cX8_that 62 = .ok (.iload 5, 2) := by decide +kernel
theorem dX8_that_64 : decode cX8_that 64 = .ok (.bipush (-3), 2) := by decide +kernel
theorem dX8_that_66 : decode cX8_that 66 = .ok (.if_icmp .eq 57, 3) := by decide +kernel
theorem dX8_that_69 : decode cX8_that 69 = .ok (.iload 5, 2) := by decide +kernel
theorem dX8_that_71 : decode cX8_that 71 = .ok (.iload_n 2, 1) := by decide +kernel
theorem dX8_that_72 : decode cX8_that 72 = .ok (.if_icmp .eq 51, 3) := by decide +kernel
theorem dX8_that_75 : decode cX8_that 75 = .ok (.iload 4, 2) := by decide +kernel
theorem dX8_that_77 : decode cX8_that 77 = .ok (.bipush (-3), 2) := by decide +kernel
theorem dX8_that_79 : decode cX8_that 79 = .ok (.if_icmp .eq 12, 3) := by decide +kernel
theorem dX8_that_82 : decode cX8_that 82 = .ok (.aload_n 0, 1) := by decide +kernel
theorem dX8_that_83 : decode cX8_that 83 = .ok (.iload 5, 2) := by decide +kernel
theorem dX8_that_85 : decode cX8_that 85 = .ok (.invokevirtual 129, 3) := by decide +kernel
theorem dX8_that_88 : decode cX8_that 88 = .ok (.ifCond .ne 8, 3) := by decide +kernel
theorem dX8_that_91 : decode cX8_that 91 = .ok (.bipush (-3), 2) := by decide +kernel
theorem dX8_that_93 : decode cX8_that 93 = .ok (.goto 16, 3) := by decide +kernel
theorem dX8_that_96 : decode cX8_that 96 = .ok (.aload_n 0, 1) := by decide +kernel
theorem dX8_that_97 : decode cX8_that 97 = .ok (.getfield 63, 3) := by decide +kernel
theorem dX8_that_100 : decode cX8_that 100 = .ok (.bipush 12, 2) := by decide +kernel
theorem dX8_that_102 : decode cX8_that 102 = .ok (.iload 4, 2) := by decide +kernel
theorem dX8_that_104 : decode cX8_that 104 = .ok (.imul, 1) := by decide +kernel
theorem dX8_that_105 : decode cX8_that 105 = .ok (.iload 5, 2) := by decide +kernel
theorem dX8_that_107 : decode cX8_that 107 = .ok (.iadd, 1) := by decide +kernel
theorem dX8_that_108 : decode cX8_that 108 = .ok (.iaload, 1) := by decide +kernel
theorem dX8_that_109 : decode cX8_that 109 = .ok (.istore 4, 2) := by decide +kernel
theorem dX8_that_111 : decode cX8_that 111 = .ok (.aload_n 0, 1) := by decide +kernel
theorem dX8_that_112 : decode cX8_that 112 = .ok (.getfield 13, 3) := by decide +kernel
theorem dX8_that_115 : decode cX8_that 115 = .ok (.iload 5, 2) := by decide +kernel
theorem dX8_that_117 : decode cX8_that 117 = .ok (.iaload, 1) := by decide +kernel
theorem dX8_that_118 : decode cX8_that 118 = .ok (.istore 5, 2) := by decide +kernel
theorem dX8_that_120 : decode cX8_that 120 = .ok (.goto (-58), 3) := by decide +kernel
theorem dX8_that_123 : decode cX8_that 123 = .ok (.aload_n 0, 1) := by decide +kernel
theorem dX8_that_124 : decode cX8_that 124 = .ok (.iload 5, 2) := by decide +kernel
theorem dX8_that_126 : decode cX8_that 126 = .ok (.bipush (-3), 2) := by decide +kernel
theorem dX8_that_128 : decode cX8_that 128 = .ok (.if_icmp .ne 8, 3) := by decide +kernel
theorem dX8_that_131 : decode cX8_that 131 = .ok (.bipush 8, 2) := by decide +kernel
theorem dX8_that_133 : decode cX8_that 133 = .ok (.goto 15, 3) := by decide +kernel
theorem dX8_that_136 : decode cX8_that 136 = .ok (.iload 4, 2) := by decide +kernel
theorem dX8_that_138 : decode cX8_that 138 = .ok (.bipush (-3), 2) := by decide +kernel
theorem dX8_that_140 : decode cX8_that 140 = .ok (.if_icmp .ne 7, 3) := by decide +kernel
theorem dX8_that_143 : decode cX8_that 143 = .ok (.iconst 4, 1) := by decide +kernel
theorem dX8_that_144 : decode cX8_that 144 = .ok (.goto 4, 3) := by decide +kernel
theorem dX8_that_147 : decode cX8_that 147 = .ok (.iconst 0, 1) := by decide +kernel
theorem dX8_that_148 : decode cX8_that 148 = .ok (.putfield 132, 3) := by decide +kernel
theorem dX8_that_151 : decode cX8_that 151 = .ok (.aload_n 0, 1) := by decide +kernel
theorem dX8_that_152 : decode cX8_that 152 = .ok (.getfield 72, 3) := by decide +kernel
theorem dX8_that_155 : decode cX8_that 155 = .ok (.iload_n 3, 1) := by decide +kernel
theorem dX8_that_156 : decode cX8_that 156 = .ok (.aload_n 0, 1) := by decide +kernel
theorem dX8_that_157 : decode cX8_that 157 = .ok (.getfield 132, 3) := by decide +kernel
theorem dX8_that_160 : decode cX8_that 160 = .ok (.ifCond .ne 8, 3) := by decide +kernel
theorem dX8_that_163 : decode cX8_that 163 = .ok (.iload 4, 2) := by decide +kernel
theorem dX8_that_165 : decode cX8_that 165 = .ok (.goto 9, 3) := by decide +kernel
theorem dX8_that_168 : decode cX8_that 168 = .ok (.aload_n 0, 1) := by decide +kernel
theorem dX8_that_169 : decode cX8_that 169 = .ok (.getfield 72, 3) := by decide +kernel
theorem dX8_that_172 : decode cX8_that 172 = .ok (.iload_n 3, 1) := by decide +kernel
theorem dX8_that_173 : decode cX8_that 173 = .ok (.iaload, 1) := by decide +kernel
theorem dX8_that_174 : decode cX8_that 174 = .ok (.iastore, 1) := by decide +kernel
theorem dX8_that_175 : decode cX8_that 175 = .ok (.aload_n 0, 1) := by decide +kernel
theorem dX8_that_176 : decode cX8_that 176 = .ok (.getfield 132, 3) := by decide +kernel
theorem dX8_that_179 : decode cX8_that 179 = .ok (.ireturn, 1) := by decide +kernel
theorem dX8_constant_0 : decode cX8_constant 0 = .ok (.aload_n 0, 1) := by decide +kernel
theorem dX8_constant_1 : decode cX8_constant 1 = .ok (.iload_n 1, 1) := by decide +kernel
theorem dX8_constant_2 : decode cX8_constant 2 = .ok (.invokevirtual 98, 3) := by decide +kernel
theorem dX8_constant_5 : decode cX8_constant 5 = .ok (.ifCond .eq 32, 3) := by decide +kernel
theorem dX8_constant_8 : decode cX8_constant 8 = .ok (.iload_n 2, 1) := by decide +kernel
theorem dX8_constant_9 : decode cX8_constant 9 = .ok (.iconst 0, 1) := by decide +kernel
theorem dX8_constant_10 : decode cX8_constant 10 = .ok (.aload_n 0, 1) := by decide +kernel
theorem dX8_constant_11 : decode cX8_constant 11 = .ok (.getfield 28, 3) := by decide +kernel
theorem dX8_constant_14 : decode cX8_constant 14 = .ok (.iload_n 1, 1) := by decide +kernel
theorem dX8_constant_15 : decode cX8_constant 15 = .ok (.iaload, 1) := by decide +kernel
theorem dX8_constant_16 : decode cX8_constant 16 = .ok (.iconst 1, 1) := by decide +kernel
theorem dX8_constant_17 : decode cX8_constant 17 = .ok (.isub, 1) := by decide +kernel
theorem dX8_constant_18 : decode cX8_constant 18 = .ok (.invokestatic 94, 3) := by decide +kernel
theorem dX8_constant_21 : decode cX8_constant 21 = .ok (.ifCond .eq 16, 3) := by decide +kernel
theorem dX8_constant_24 : decode cX8_constant 24 = .ok (.aload_n 0, 1) := by decide +kernel
theorem dX8_constant_25 : decode cX8_constant 25 = .ok (.getfield 38, 3) := by decide +kernel
theorem dX8_constant_28 : decode cX8_constant 28 = .ok (.iconst 4, 1) := by decide +kernel
theorem dX8_constant_29 : decode cX8_constant 29 = .ok (.iload_n 1, 1) := by decide +kernel
theorem dX8_constant_30 : decode cX8_constant 30 = .ok (.imul, 1) := by decide +kernel
theorem dX8_constant_31 : decode cX8_constant 31 = .ok (.iload_n 2, 1) := by decide +kernel
theorem dX8_constant_32 : decode cX8_constant 32 = .ok (.iadd, 1) := by decide +kernel
theorem dX8_constant_33 : decode cX8_constant 33 = .ok (.baload, 1) := by decide +kernel
theorem dX8_constant_34 : decode cX8_constant 34 = .ok (.ifCond .ne 9, 3) := by decide +kernel
theorem dX8_constant_37 : decode cX8_constant 37 = .ok (.aload_n 0, 1) := by decide +kernel
theorem dX8_constant_38 : decode cX8_constant 38 = .ok (.iconst (-1), 1) := by decide +kernel
theorem dX8_constant_39 : decode cX8_constant 39 = .ok (.invokevirtual 152, 3) := by decide +kernel
theorem dX8_constant_42 : decode cX8_constant 42 = .ok (.lreturn, 1) := by decide +kernel
theorem dX8_constant_43 : decode cX8_constant 43 = .ok (.aload_n 0, 1) := by decide +kernel
theorem dX8_constant_44 : decode cX8_constant 44 = .ok (.iconst 0, 1) := by decide +kernel
theorem dX8_constant_45 : decode cX8_constant 45 = .ok (.putfield 132, 3) := by decide +kernel
theorem dX8_constant_48 : decode cX8_constant 48 = .ok (.aload_n 0, 1) := by decide +kernel
theorem dX8_constant_49 : decode cX8_constant 49 = .ok (.getfield 34, 3) := by decide +kernel
theorem dX8_constant_52 : decode cX8_constant 52 = .ok (.iconst 4, 1) := by decide +kernel
theorem dX8_constant_53 : decode cX8_constant 53 = .ok (.iload_n 1, 1) := by decide +kernel
theorem dX8_constant_54 : decode cX8_constant 54 = .ok (.imul, 1) := by decide +kernel
theorem dX8_constant_55 : decode cX8_constant 55 = .ok (.iload_n 2, 1) := by decide +kernel
theorem dX8_constant_56 : decode cX8_constant 56 = .ok (.iadd, 1) := by decide +kernel
theorem dX8_constant_57 : decode cX8_constant 57 = .ok (.laload, 1) := by decide +kernel
theorem dX8_constant_58 : decode cX8_constant 58 = .ok (.lreturn, 1) := by decide +kernel
theorem dX8_lambda_0 : decode cX8_lambda 0 = .ok (.iload_n 1, 1) := by decide +kernel
theorem dX8_lambda_1 : decode cX8_lambda 1 = .ok (.invokestatic 126, 3) := by decide +kernel
theorem dX8_lambda_4 : decode cX8_lambda 4 = .ok (.ifCond .ne 5, 3) := by decide +kernel
theorem dX8_lambda_7 : decode cX8_lambda 7 = .ok (.iconst (-1), 1) := by decide +kernel
theorem dX8_lambda_8 : decode cX8_lambda 8 = .ok (.ireturn, 1) := by decide +kernel
theorem dX8_lambda_9 : decode cX8_lambda 9 = .ok (.aload_n 0, 1) := by decide +kernel
theorem dX8_lambda_10 : decode cX8_lambda 10 = .ok (.getfield 72, 3) := by decide +kernel
theorem dX8_lambda_13 : decode cX8_lambda 13 = .ok (.iload_n 1, 1) := by decide +kernel
theorem dX8_lambda_14 : decode cX8_lambda 14 = .ok (.iaload, 1) := by decide +kernel
theorem dX8_lambda_15 : decode cX8_lambda 15 = .ok (.istore_n 3, 1) := by decide +kernel
theorem dX8_lambda_16 : decode cX8_lambda 16 = .ok (.iload_n 3, 1) := by decide +kernel
theorem dX8_lambda_17 : decode cX8_lambda 17 = .ok (.bipush (-3), 2) := by decide +kernel
theorem dX8_lambda_19 : decode cX8_lambda 19 = .ok (.if_icmp .ne 6, 3) := by decide +kernel
theorem dX8_lambda_22 : decode cX8_lambda 22 = .ok (.bipush (-3), 2) := by decide +kernel
theorem dX8_lambda_24 : decode cX8_lambda 24 = .ok (.ireturn, 1) := by decide +kernel
theorem dX8_lambda_25 : decode cX8_lambda 25 = .ok (.aload_n 0, 1) := by decide +kernel
theorem dX8_lambda_26 : decode cX8_lambda 26 = .ok (.getfield 57, 3) := by decide +kernel
theorem dX8_lambda_29 : decode cX8_lambda 29 = .ok (.iload_n 3, 1) := by decide +kernel
theorem dX8_lambda_30 : decode cX8_lambda 30 = .ok (.iaload, 1) := by decide +kernel
theorem dX8_lambda_31 : decode cX8_lambda 31 = .ok (.istore 4, 2) := by decide +kernel
theorem dX8_lambda_33 : decode cX8_lambda 33 = .ok (.iload_n 2, 1) := by decide +kernel
theorem dX8_lambda_34 : decode cX8_lambda 34 = .ok (.iconst 0, 1) := by decide +kernel
theorem dX8_lambda_35 : decode cX8_lambda 35 = .ok (.aload_n 0, 1) := by decide +kernel
theorem dX8_lambda_36 : decode cX8_lambda 36 = .ok (.getfield 45, 3) := by decide +kernel
theorem dX8_lambda_39 : decode cX8_lambda 39 = .ok (.iload 4, 2) := by decide +kernel
theorem dX8_lambda_41 : decode cX8_lambda 41 = .ok (.iaload, 1) := by decide +kernel
theorem dX8_lambda_42 : decode cX8_lambda 42 = .ok (.invokestatic 94, 3) := by decide +kernel
theorem dX8_lambda_45 : decode cX8_lambda 45 = .ok (.ifCond .ne 5, 3) := by decide +kernel
theorem dX8_lambda_48 : decode cX8_lambda 48 = .ok (.iconst (-1), 1) := by decide +kernel
theorem dX8_lambda_49 : decode cX8_lambda 49 = .ok (.ireturn, 1) := by decide +kernel
theorem dX8_lambda_50 : decode cX8_lambda 50 = .ok (.aload_n 0, 1) := by decide +kernel
theorem dX8_lambda_51 : decode cX8_lambda 51 = .ok (.getfield 170, 3) := by decide +kernel
theorem dX8_lambda_54 : decode cX8_lambda 54 = .ok (.bipush 6, 2) := by decide +kernel
theorem dX8_lambda_56 : decode cX8_lambda 56 = .ok (.if_icmp .ne 6, 3) := by decide +kernel
theorem dX8_lambda_59 : decode cX8_lambda 59 = .ok (.bipush (-2), 2) := by decide +kernel
theorem dX8_lambda_61 : decode cX8_lambda 61 = .ok (.ireturn, 1) := by decide +kernel
theorem dX8_lambda_62 : decode cX8_lambda 62 = .ok (.aload_n 0, 1) := by decide +kernel
theorem dX8_lambda_63 : decode cX8_lambda 63 = .ok (.getfield 75, 3) := by decide +kernel
theorem dX8_lambda_66 : decode cX8_lambda 66 = .ok (.aload_n 0, 1) := by decide +kernel
theorem dX8_lambda_67 : decode cX8_lambda 67 = .ok (.getfield 170, 3) := by decide +kernel
theorem dX8_lambda_70 : decode cX8_lambda 70 = .ok (.iload 4, 2) := by decide +kernel
theorem dX8_lambda_72 : decode cX8_lambda 72 = .ok (.iastore, 1) := by decide +kernel
theorem dX8_lambda_73 : decode cX8_lambda 73 = .ok (.aload_n 0, 1) := by decide +kernel
theorem dX8_lambda_74 : decode cX8_lambda 74 = .ok (.getfield 78, 3) := by decide +kernel
theorem dX8_lambda_77 : decode cX8_lambda 77 = .ok (.aload_n 0, 1) := by decide +kernel
theorem dX8_lambda_78 : decode cX8_lambda 78 = .ok (.getfield 170, 3) := by decide +kernel
theorem dX8_lambda_81 : decode cX8_lambda 81 = .ok (.aload_n 0, 1) := by decide +kernel
theorem dX8_lambda_82 : decode cX8_lambda 82 = .ok (.getfield 42, 3) := by decide +kernel
theorem dX8_lambda_85 : decode cX8_lambda 85 = .ok (.iload 4, 2) := by decide +kernel
theorem dX8_lambda_87 : decode cX8_lambda 87 = .ok (.baload, 1) := by decide +kernel
theorem dX8_lambda_88 : decode cX8_lambda 88 = .ok (.ifCond .eq 8, 3) := by decide +kernel
theorem dX8_lambda_91 : decode cX8_lambda 91 = .ok (.bipush (-3), 2) := by decide +kernel
theorem dX8_lambda_93 : decode cX8_lambda 93 = .ok (.goto 4, 3) := by decide +kernel
theorem dX8_lambda_96 : decode cX8_lambda 96 = .ok (.iload_n 3, 1) := by decide +kernel
theorem dX8_lambda_97 : decode cX8_lambda 97 = .ok (.iastore, 1) := by decide +kernel
theorem dX8_lambda_98 : decode cX8_lambda 98 = .ok (.aload_n 0, 1) := by decide +kernel
theorem dX8_lambda_99 : decode cX8_lambda 99 = .ok (.getfield 81, 3) := by decide +kernel
theorem dX8_lambda_102 : decode cX8_lambda 102 = .ok (.aload_n 0, 1) := by decide +kernel
theorem dX8_lambda_103 : decode cX8_lambda 103 = .ok (.getfield 170, 3) := by decide +kernel
theorem dX8_lambda_106 : decode cX8_lambda 106 = .ok (.iload_n 2, 1) := by decide +kernel
theorem dX8_lambda_107 : decode cX8_lambda 107 = .ok (.iastore, 1) := by decide +kernel
theorem dX8_lambda_108 : decode cX8_lambda 108 = .ok (.iconst 0, 1) := by decide +kernel
theorem dX8_lambda_109 : decode cX8_lambda 109 = .ok (.istore 5, 2) := by decide +kernel
theorem dX8_lambda_111 : decode cX8_lambda 111 = .ok (.iload 5, 2) := by decide +kernel
theorem dX8_lambda_113 : decode cX8_lambda 113 = .ok (.iload_n 2, 1) := by decide +kernel
theorem dX8_lambda_114 : decode cX8_lambda 114 = .ok (.if_icmp .ge 35, 3) := by decide +kernel
theorem dX8_lambda_117 : decode cX8_lambda 117 = .ok (.aload_n 0, 1) := by decide +kernel
theorem dX8_lambda_118 : decode cX8_lambda 118 = .ok (.getfield 84, 3) := by decide +kernel
theorem dX8_lambda_121 : decode cX8_lambda 121 = .ok (.iconst 4, 1) := by decide +kernel
theorem dX8_lambda_122 : decode cX8_lambda 122 = .ok (.aload_n 0, 1) := by decide +kernel
theorem dX8_lambda_123 : decode cX8_lambda 123 = .ok (.getfield 170, 3) := by decide +kernel
theorem dX8_lambda_126 : decode cX8_lambda 126 = .ok (.imul, 1) := by decide +kernel
theorem dX8_lambda_127 : decode cX8_lambda 127 = .ok (.iload 5, 2) := by decide +kernel
theorem dX8_lambda_129 : decode cX8_lambda 129 = .ok (.iadd, 1) := by decide +kernel
theorem dX8_lambda_130 : decode cX8_lambda 130 = .ok (.aload_n 0, 1) := by decide +kernel
theorem dX8_lambda_131 : decode cX8_lambda 131 = .ok (.getfield 51, 3) := by decide +kernel
theorem dX8_lambda_134 : decode cX8_lambda 134 = .ok (.iconst 4, 1) := by decide +kernel
theorem dX8_lambda_135 : decode cX8_lambda 135 = .ok (.iload 4, 2) := by decide +kernel
theorem dX8_lambda_137 : decode cX8_lambda 137 = .ok (.imul, 1) := by decide +kernel
theorem dX8_lambda_138 : decode cX8_lambda 138 = .ok (.iload 5, 2) := by decide +kernel
theorem dX8_lambda_140 : decode cX8_lambda 140 = .ok (.iadd, 1) := by decide +kernel
theorem dX8_lambda_141 : decode cX8_lambda 141 = .ok (.laload, 1) := by decide +kernel
theorem dX8_lambda_142 : decode cX8_lambda 142 = .ok (.lastore, 1) := by decide +kernel
theorem dX8_lambda_143 : decode cX8_lambda 143 = .ok (.iinc 5 1, 3) := by decide +kernel
theorem dX8_lambda_146 : decode cX8_lambda 146 = .ok (.goto (-35), 3) := by decide +kernel
theorem dX8_lambda_149 : decode cX8_lambda 149 = .ok (.aload_n 0, 1) := by decide +kernel
theorem dX8_lambda_150 : decode cX8_lambda 150 = .ok (.dup, 1) := by decide +kernel
theorem dX8_lambda_151 : decode cX8_lambda 151 = .ok (.getfield 170, 3) := by decide +kernel
theorem dX8_lambda_154 : decode cX8_lambda 154 = .ok (.iconst 1, 1) := by decide +kernel
theorem dX8_lambda_155 : decode cX8_lambda 155 = .ok (.iadd, 1) := by decide +kernel
theorem dX8_lambda_156 : decode cX8_lambda 156 = .ok (.putfield 170, 3) := by decide +kernel
theorem dX8_lambda_159 : decode cX8_lambda 159 = .ok (.aload_n 0, 1) := by decide +kernel
theorem dX8_lambda_160 : decode cX8_lambda 160 = .ok (.getfield 170, 3) := by decide +kernel
theorem dX8_lambda_163 : decode cX8_lambda 163 = .ok (.iconst 1, 1) := by decide +kernel
theorem dX8_lambda_164 : decode cX8_lambda 164 = .ok (.isub, 1) := by decide +kernel
theorem dX8_lambda_165 : decode cX8_lambda 165 = .ok (.ireturn, 1) := by decide +kernel
theorem dX8_seen_0 : decode cX8_seen 0 = .ok (.iload_n 1, 1) := by decide +kernel
theorem dX8_seen_1 : decode cX8_seen 1 = .ok (.iconst 0, 1) := by decide +kernel
theorem dX8_seen_2 : decode cX8_seen 2 = .ok (.aload_n 0, 1) := by decide +kernel
theorem dX8_seen_3 : decode cX8_seen 3 = .ok (.getfield 170, 3) := by decide +kernel
theorem dX8_seen_6 : decode cX8_seen 6 = .ok (.iconst 1, 1) := by decide +kernel
theorem dX8_seen_7 : decode cX8_seen 7 = .ok (.isub, 1) := by decide +kernel
theorem dX8_seen_8 : decode cX8_seen 8 = .ok (.invokestatic 94, 3) := by decide +kernel
theorem dX8_seen_11 : decode cX8_seen 11 = .ok (.ifCond .eq 10, 3) := by decide +kernel
theorem dX8_seen_14 : decode cX8_seen 14 = .ok (.iload_n 2, 1) := by decide +kernel
theorem dX8_seen_15 : decode cX8_seen 15 = .ok (.invokestatic 108, 3) := by decide +kernel
theorem dX8_seen_18 : decode cX8_seen 18 = .ok (.ifCond .ne 9, 3) := by decide +kernel
theorem dX8_seen_21 : decode cX8_seen 21 = .ok (.aload_n 0, 1) := by decide +kernel
theorem dX8_seen_22 : decode cX8_seen 22 = .ok (.iconst (-1), 1) := by decide +kernel
theorem dX8_seen_23 : decode cX8_seen 23 = .ok (.invokevirtual 152, 3) := by decide +kernel
theorem dX8_seen_26 : decode cX8_seen 26 = .ok (.lreturn, 1) := by decide +kernel
theorem dX8_seen_27 : decode cX8_seen 27 = .ok (.aload_n 0, 1) := by decide +kernel
theorem dX8_seen_28 : decode cX8_seen 28 = .ok (.getfield 75, 3) := by decide +kernel
theorem dX8_seen_31 : decode cX8_seen 31 = .ok (.iload_n 1, 1) := by decide +kernel
theorem dX8_seen_32 : decode cX8_seen 32 = .ok (.iaload, 1) := by decide +kernel
theorem dX8_seen_33 : decode cX8_seen 33 = .ok (.istore_n 3, 1) := by decide +kernel
theorem dX8_seen_34 : decode cX8_seen 34 = .ok (.aload_n 0, 1) := by decide +kernel
theorem dX8_seen_35 : decode cX8_seen 35 = .ok (.iload_n 3, 1) := by decide +kernel
theorem dX8_seen_36 : decode cX8_seen 36 = .ok (.aload_n 0, 1) := by decide +kernel
theorem dX8_seen_37 : decode cX8_seen 37 = .ok (.getfield 81, 3) := by decide +kernel
theorem dX8_seen_40 : decode cX8_seen 40 = .ok (.iload_n 1, 1) := by decide +kernel
theorem dX8_seen_41 : decode cX8_seen 41 = .ok (.iaload, 1) := by decide +kernel
theorem dX8_seen_42 : decode cX8_seen 42 = .ok (.iload_n 2, 1) := by decide +kernel
theorem dX8_seen_43 : decode cX8_seen 43 = .ok (.invokevirtual 160, 3) := by decide +kernel
theorem dX8_seen_46 : decode cX8_seen 46 = .ok (.istore 4, 2) := by decide +kernel
theorem dX8_seen_48 : decode cX8_seen 48 = .ok (.iload 4, 2) := by decide +kernel
theorem dX8_seen_50 : decode cX8_seen 50 = .ok (.ifCond .ge 17, 3) := by decide +kernel
theorem dX8_seen_53 : decode cX8_seen 53 = .ok (.aload_n 0, 1) := by decide +kernel
theorem dX8_seen_54 : decode cX8_seen 54 = .ok (.iload_n 3, 1) := by decide +kernel
theorem dX8_seen_55 : decode cX8_seen 55 = .ok (.aload_n 0, 1) := by decide +kernel
theorem dX8_seen_56 : decode cX8_seen 56 = .ok (.getfield 78, 3) := by decide +kernel
theorem dX8_seen_59 : decode cX8_seen 59 = .ok (.iload_n 1, 1) := by decide +kernel
theorem dX8_seen_60 : decode cX8_seen 60 = .ok (.iaload, 1) := by decide +kernel
theorem dX8_seen_61 : decode cX8_seen 61 = .ok (.iload_n 2, 1) := by decide +kernel
theorem dX8_seen_62 : decode cX8_seen 62 = .ok (.iconst 0, 1) := by decide +kernel
theorem dX8_seen_63 : decode cX8_seen 63 = .ok (.invokevirtual 167, 3) := by decide +kernel
theorem dX8_seen_66 : decode cX8_seen 66 = .ok (.lreturn, 1) := by decide +kernel
theorem dX8_seen_67 : decode cX8_seen 67 = .ok (.aload_n 0, 1) := by decide +kernel
theorem dX8_seen_68 : decode cX8_seen 68 = .ok (.getfield 54, 3) := by decide +kernel
theorem dX8_seen_71 : decode cX8_seen 71 = .ok (.iconst 4, 1) := by decide +kernel
theorem dX8_seen_72 : decode cX8_seen 72 = .ok (.iload_n 3, 1) := by decide +kernel
theorem dX8_seen_73 : decode cX8_seen 73 = .ok (.imul, 1) := by decide +kernel
theorem dX8_seen_74 : decode cX8_seen 74 = .ok (.iload 4, 2) := by decide +kernel
theorem dX8_seen_76 : decode cX8_seen 76 = .ok (.iadd, 1) := by decide +kernel
theorem dX8_seen_77 : decode cX8_seen 77 = .ok (.baload, 1) := by decide +kernel
theorem dX8_seen_78 : decode cX8_seen 78 = .ok (.ifCond .eq 10, 3) := by decide +kernel
theorem dX8_seen_81 : decode cX8_seen 81 = .ok (.aload_n 0, 1) := by decide +kernel
theorem dX8_seen_82 : decode cX8_seen 82 = .ok (.bipush 7, 2) := by decide +kernel
theorem dX8_seen_84 : decode cX8_seen 84 = .ok (.invokevirtual 152, 3) := by decide +kernel
theorem dX8_seen_87 : decode cX8_seen 87 = .ok (.lreturn, 1) := by decide +kernel
theorem dX8_seen_88 : decode cX8_seen 88 = .ok (.aload_n 0, 1) := by decide +kernel
theorem dX8_seen_89 : decode cX8_seen 89 = .ok (.iconst 0, 1) := by decide +kernel
theorem dX8_seen_90 : decode cX8_seen 90 = .ok (.putfield 132, 3) := by decide +kernel
theorem dX8_seen_93 : decode cX8_seen 93 = .ok (.aload_n 0, 1) := by decide +kernel
theorem dX8_seen_94 : decode cX8_seen 94 = .ok (.getfield 84, 3) := by decide +kernel
theorem dX8_seen_97 : decode cX8_seen 97 = .ok (.iconst 4, 1) := by decide +kernel
theorem dX8_seen_98 : decode cX8_seen 98 = .ok (.iload_n 1, 1) := by decide +kernel
theorem dX8_seen_99 : decode cX8_seen 99 = .ok (.imul, 1) := by decide +kernel
theorem dX8_seen_100 : decode cX8_seen 100 = .ok (.iload 4, 2) := by decide +kernel
theorem dX8_seen_102 : decode cX8_seen 102 = .ok (.iadd, 1) := by decide +kernel
theorem dX8_seen_103 : decode cX8_seen 103 = .ok (.laload, 1) := by decide +kernel
theorem dX8_seen_104 : decode cX8_seen 104 = .ok (.lreturn, 1) := by decide +kernel
theorem dX8_why_0 : decode cX8_why 0 = .ok (.aload_n 0, 1) := by decide +kernel
theorem dX8_why_1 : decode cX8_why 1 = .ok (.getfield 132, 3) := by decide +kernel
theorem dX8_why_4 : decode cX8_why 4 = .ok (.ireturn, 1) := by decide +kernel
theorem dX8_count_0 : decode cX8_count 0 = .ok (.iconst 0, 1) := by decide +kernel
theorem dX8_count_1 : decode cX8_count 1 = .ok (.istore_n 2, 1) := by decide +kernel
theorem dX8_count_2 : decode cX8_count 2 = .ok (.iconst 0, 1) := by decide +kernel
theorem dX8_count_3 : decode cX8_count 3 = .ok (.istore_n 3, 1) := by decide +kernel
theorem dX8_count_4 : decode cX8_count 4 = .ok (.iload_n 3, 1) := by decide +kernel
theorem dX8_count_5 : decode cX8_count 5 = .ok (.bipush 8, 2) := by decide +kernel
theorem dX8_count_7 : decode cX8_count 7 = .ok (.if_icmp .ge 28, 3) := by decide +kernel
theorem dX8_count_10 : decode cX8_count 10 = .ok (.iload_n 2, 1) := by decide +kernel
theorem dX8_count_11 : decode cX8_count 11 = .ok (.aload_n 0, 1) := by decide +kernel
theorem dX8_count_12 : decode cX8_count 12 = .ok (.getfield 72, 3) := by decide +kernel
theorem dX8_count_15 : decode cX8_count 15 = .ok (.iload_n 3, 1) := by decide +kernel
theorem dX8_count_16 : decode cX8_count 16 = .ok (.iaload, 1) := by decide +kernel
theorem dX8_count_17 : decode cX8_count 17 = .ok (.bipush (-3), 2) := by decide +kernel
theorem dX8_count_19 : decode cX8_count 19 = .ok (.if_icmp .ne 7, 3) := by decide +kernel
theorem dX8_count_22 : decode cX8_count 22 = .ok (.iconst 0, 1) := by decide +kernel
theorem dX8_count_23 : decode cX8_count 23 = .ok (.goto 4, 3) := by decide +kernel
theorem dX8_count_26 : decode cX8_count 26 = .ok (.iconst 1, 1) := by decide +kernel
theorem dX8_count_27 : decode cX8_count 27 = .ok (.iadd, 1) := by decide +kernel
theorem dX8_count_28 : decode cX8_count 28 = .ok (.istore_n 2, 1) := by decide +kernel
theorem dX8_count_29 : decode cX8_count 29 = .ok (.iinc 3 1, 3) := by decide +kernel
theorem dX8_count_32 : decode cX8_count 32 = .ok (.goto (-28), 3) := by decide +kernel
theorem dX8_count_35 : decode cX8_count 35 = .ok (.iload_n 1, 1) := by decide +kernel
theorem dX8_count_36 : decode cX8_count 36 = .ok (.ifCond .ne 10, 3) := by decide +kernel
theorem dX8_count_39 : decode cX8_count 39 = .ok (.aload_n 0, 1) := by decide +kernel
theorem dX8_count_40 : decode cX8_count 40 = .ok (.getfield 90, 3) := by decide +kernel
theorem dX8_count_43 : decode cX8_count 43 = .ok (.goto 37, 3) := by decide +kernel
theorem dX8_count_46 : decode cX8_count 46 = .ok (.iload_n 1, 1) := by decide +kernel
theorem dX8_count_47 : decode cX8_count 47 = .ok (.iconst 1, 1) := by decide +kernel
theorem dX8_count_48 : decode cX8_count 48 = .ok (.if_icmp .ne 10, 3) := by decide +kernel
theorem dX8_count_51 : decode cX8_count 51 = .ok (.aload_n 0, 1) := by decide +kernel
theorem dX8_count_52 : decode cX8_count 52 = .ok (.getfield 135, 3) := by decide +kernel
theorem dX8_count_55 : decode cX8_count 55 = .ok (.goto 25, 3) := by decide +kernel
theorem dX8_count_58 : decode cX8_count 58 = .ok (.iload_n 1, 1) := by decide +kernel
theorem dX8_count_59 : decode cX8_count 59 = .ok (.iconst 2, 1) := by decide +kernel
theorem dX8_count_60 : decode cX8_count 60 = .ok (.if_icmp .ne 10, 3) := by decide +kernel
theorem dX8_count_63 : decode cX8_count 63 = .ok (.aload_n 0, 1) := by decide +kernel
theorem dX8_count_64 : decode cX8_count 64 = .ok (.getfield 170, 3) := by decide +kernel
theorem dX8_count_67 : decode cX8_count 67 = .ok (.goto 13, 3) := by decide +kernel
theorem dX8_count_70 : decode cX8_count 70 = .ok (.iload_n 1, 1) := by decide +kernel
theorem dX8_count_71 : decode cX8_count 71 = .ok (.iconst 3, 1) := by decide +kernel
theorem dX8_count_72 : decode cX8_count 72 = .ok (.if_icmp .ne 7, 3) := by decide +kernel
theorem dX8_count_75 : decode cX8_count 75 = .ok (.iload_n 2, 1) := by decide +kernel
theorem dX8_count_76 : decode cX8_count 76 = .ok (.goto 4, 3) := by decide +kernel
theorem dX8_count_79 : decode cX8_count 79 = .ok (.iconst (-1), 1) := by decide +kernel
theorem dX8_count_80 : decode cX8_count 80 = .ok (.ireturn, 1) := by decide +kernel
end
section
theorem dJ5_init_d00df_0 : decode cJ5_init_d00df 0 = .ok (.aload_n 0, 1) := by decide +kernel
theorem dJ5_init_d00df_1 : decode cJ5_init_d00df 1 = .ok (.invokespecial 3, 3) := by decide +kernel
theorem dJ5_init_d00df_4 : decode cJ5_init_d00df 4 = .ok (.getstatic 18, 3) := by decide +kernel
theorem dJ5_init_d00df_7 : decode cJ5_init_d00df 7 = .ok (.ifCond .eq 18, 3) := by decide +kernel
theorem dJ5_init_d00df_10 : decode cJ5_init_d00df 10 = .ok (.aload_n 0, 1) := by decide +kernel
theorem dJ5_init_d00df_11 : decode cJ5_init_d00df 11 = .ok (.iload_n 1, 1) := by decide +kernel
theorem dJ5_init_d00df_12 : decode cJ5_init_d00df 12 = .ok (.newarray .byte, 2) := by decide +kernel
theorem dJ5_init_d00df_14 : decode cJ5_init_d00df 14 = .ok (.putfield 15, 3) := by decide +kernel
theorem dJ5_init_d00df_17 : decode cJ5_init_d00df 17 = .ok (.aload_n 0, 1) := by decide +kernel
theorem dJ5_init_d00df_18 : decode cJ5_init_d00df 18 = .ok (.iconst 0, 1) := by decide +kernel
theorem dJ5_init_d00df_19 : decode cJ5_init_d00df 19 = .ok (.putfield 22, 3) := by decide +kernel
theorem dJ5_init_d00df_22 : decode cJ5_init_d00df 22 = .ok (.goto 16, 3) := by decide +kernel
theorem dJ5_init_d00df_25 : decode cJ5_init_d00df 25 = .ok (.aload_n 0, 1) := by decide +kernel
theorem dJ5_init_d00df_26 : decode cJ5_init_d00df 26 = .ok (.iload_n 1, 1) := by decide +kernel
theorem dJ5_init_d00df_27 : decode cJ5_init_d00df 27 = .ok (.invokestatic 26, 3) := by decide +kernel
theorem dJ5_init_d00df_30 : decode cJ5_init_d00df 30 = .ok (.putfield 15, 3) := by decide +kernel
theorem dJ5_init_d00df_33 : decode cJ5_init_d00df 33 = .ok (.aload_n 0, 1) := by decide +kernel
theorem dJ5_init_d00df_34 : decode cJ5_init_d00df 34 = .ok (.iconst 1, 1) := by decide +kernel
theorem dJ5_init_d00df_35 : decode cJ5_init_d00df 35 = .ok (.putfield 22, 3) := by decide +kernel
theorem dJ5_init_d00df_38 : decode cJ5_init_d00df 38 = .ok (.return_, 1) := by decide +kernel
theorem dJ5_length_8abf5_0 : decode cJ5_length_8abf5 0 = .ok (.aload_n 0, 1) := by decide +kernel
theorem dJ5_length_8abf5_1 : decode cJ5_length_8abf5 1 = .ok (.getfield 79, 3) := by decide +kernel
theorem dJ5_length_8abf5_4 : decode cJ5_length_8abf5 4 = .ok (.ireturn, 1) := by decide +kernel
theorem dJ5_ensureCapacityInternal_d00df_0 : decode cJ5_ensureCapacityInternal_d00df 0 = .ok (.aload_n 0, 1) := by decide +kernel
theorem dJ5_ensureCapacityInternal_d00df_1 : decode cJ5_ensureCapacityInternal_d00df 1 = .ok (.getfield 15, 3) := by decide +kernel
theorem dJ5_ensureCapacityInternal_d00df_4 : decode cJ5_ensureCapacityInternal_d00df 4 = .ok (.arraylength, 1) := by decide +kernel
theorem dJ5_ensureCapacityInternal_d00df_5 : decode cJ5_ensureCapacityInternal_d00df 5 = .ok (.aload_n 0, 1) := by decide +kernel
theorem dJ5_ensureCapacityInternal_d00df_6 : decode cJ5_ensureCapacityInternal_d00df 6 = .ok (.getfield 22, 3) := by decide +kernel
theorem dJ5_ensureCapacityInternal_d00df_9 : decode cJ5_ensureCapacityInternal_d00df 9 = .ok (.ishr, 1) := by decide +kernel
theorem dJ5_ensureCapacityInternal_d00df_10 : decode cJ5_ensureCapacityInternal_d00df 10 = .ok (.istore_n 2, 1) := by decide +kernel
theorem dJ5_ensureCapacityInternal_d00df_11 : decode cJ5_ensureCapacityInternal_d00df 11 = .ok (.iload_n 1, 1) := by decide +kernel
theorem dJ5_ensureCapacityInternal_d00df_12 : decode cJ5_ensureCapacityInternal_d00df 12 = .ok (.iload_n 2, 1) := by decide +kernel
theorem dJ5_ensureCapacityInternal_d00df_13 : decode cJ5_ensureCapacityInternal_d00df 13 = .ok (.isub, 1) := by decide +kernel
theorem dJ5_ensureCapacityInternal_d00df_14 : decode cJ5_ensureCapacityInternal_d00df 14 = .ok (.ifCond .le 24, 3) := by decide +kernel
theorem dJ5_ensureCapacityInternal_d00df_17 : decode cJ5_ensureCapacityInternal_d00df 17 = .ok (.aload_n 0, 1) := by decide +kernel
theorem dJ5_ensureCapacityInternal_d00df_18 : decode cJ5_ensureCapacityInternal_d00df 18 = .ok (.aload_n 0, 1) := by decide +kernel
theorem dJ5_ensureCapacityInternal_d00df_19 : decode cJ5_ensureCapacityInternal_d00df 19 = .ok (.getfield 15, 3) := by decide +kernel
theorem dJ5_ensureCapacityInternal_d00df_22 : decode cJ5_ensureCapacityInternal_d00df 22 = .ok (.aload_n 0, 1) := by decide +kernel
theorem dJ5_ensureCapacityInternal_d00df_23 : decode cJ5_ensureCapacityInternal_d00df 23 = .ok (.iload_n 1, 1) := by decide +kernel
theorem dJ5_ensureCapacityInternal_d00df_24 : decode cJ5_ensureCapacityInternal_d00df 24 = .ok (.invokevirtual 104, 3) := by decide +kernel
theorem dJ5_ensureCapacityInternal_d00df_27 : decode cJ5_ensureCapacityInternal_d00df 27 = .ok (.aload_n 0, 1) := by decide +kernel
theorem dJ5_ensureCapacityInternal_d00df_28 : decode cJ5_ensureCapacityInternal_d00df 28 = .ok (.getfield 22, 3) := by decide +kernel
theorem dJ5_ensureCapacityInternal_d00df_31 : decode cJ5_ensureCapacityInternal_d00df 31 = .ok (.ishl, 1) := by decide +kernel
theorem dJ5_ensureCapacityInternal_d00df_32 : decode cJ5_ensureCapacityInternal_d00df 32 = .ok (.invokestatic 108, 3) := by decide +kernel
theorem dJ5_ensureCapacityInternal_d00df_35 : decode cJ5_ensureCapacityInternal_d00df 35 = .ok (.putfield 15, 3) := by decide +kernel
theorem dJ5_ensureCapacityInternal_d00df_38 : decode cJ5_ensureCapacityInternal_d00df 38 = .ok (.return_, 1) := by decide +kernel
theorem dJ5_newCapacity_0f7a4_0 : decode cJ5_newCapacity_0f7a4 0 = .ok (.aload_n 0, 1) := by decide +kernel
theorem dJ5_newCapacity_0f7a4_1 : decode cJ5_newCapacity_0f7a4 1 = .ok (.getfield 15, 3) := by decide +kernel
theorem dJ5_newCapacity_0f7a4_4 : decode cJ5_newCapacity_0f7a4 4 = .ok (.arraylength, 1) := by decide +kernel
theorem dJ5_newCapacity_0f7a4_5 : decode cJ5_newCapacity_0f7a4 5 = .ok (.istore_n 2, 1) := by decide +kernel
theorem dJ5_newCapacity_0f7a4_6 : decode cJ5_newCapacity_0f7a4 6 = .ok (.iload_n 1, 1) := by decide +kernel
theorem dJ5_newCapacity_0f7a4_7 : decode cJ5_newCapacity_0f7a4 7 = .ok (.aload_n 0, 1) := by decide +kernel
theorem dJ5_newCapacity_0f7a4_8 : decode cJ5_newCapacity_0f7a4 8 = .ok (.getfield 22, 3) := by decide +kernel
theorem dJ5_newCapacity_0f7a4_11 : decode cJ5_newCapacity_0f7a4 11 = .ok (.ishl, 1) := by decide +kernel
theorem dJ5_newCapacity_0f7a4_12 : decode cJ5_newCapacity_0f7a4 12 = .ok (.istore_n 3, 1) := by decide +kernel
theorem dJ5_newCapacity_0f7a4_13 : decode cJ5_newCapacity_0f7a4 13 = .ok (.iload_n 3, 1) := by decide +kernel
theorem dJ5_newCapacity_0f7a4_14 : decode cJ5_newCapacity_0f7a4 14 = .ok (.iload_n 2, 1) := by decide +kernel
theorem dJ5_newCapacity_0f7a4_15 : decode cJ5_newCapacity_0f7a4 15 = .ok (.isub, 1) := by decide +kernel
theorem dJ5_newCapacity_0f7a4_16 : decode cJ5_newCapacity_0f7a4 16 = .ok (.istore 4, 2) := by decide +kernel
theorem dJ5_newCapacity_0f7a4_18 : decode cJ5_newCapacity_0f7a4 18 = .ok (.iload_n 2, 1) := by decide +kernel
theorem dJ5_newCapacity_0f7a4_19 : decode cJ5_newCapacity_0f7a4 19 = .ok (.iload 4, 2) := by decide +kernel
theorem dJ5_newCapacity_0f7a4_21 : decode cJ5_newCapacity_0f7a4 21 = .ok (.iload_n 2, 1) := by decide +kernel
theorem dJ5_newCapacity_0f7a4_22 : decode cJ5_newCapacity_0f7a4 22 = .ok (.iconst 2, 1) := by decide +kernel
theorem dJ5_newCapacity_0f7a4_23 : decode cJ5_newCapacity_0f7a4 23 = .ok (.aload_n 0, 1) := by decide +kernel
theorem dJ5_newCapacity_0f7a4_24 : decode cJ5_newCapacity_0f7a4 24 = .ok (.getfield 22, 3) := by decide +kernel
theorem dJ5_newCapacity_0f7a4_27 : decode cJ5_newCapacity_0f7a4 27 = .ok (.ishl, 1) := by decide +kernel
theorem dJ5_newCapacity_0f7a4_28 : decode cJ5_newCapacity_0f7a4 28 = .ok (.iadd, 1) := by decide +kernel
theorem dJ5_newCapacity_0f7a4_29 : decode cJ5_newCapacity_0f7a4 29 = .ok (.invokestatic 114, 3) := by decide +kernel
theorem dJ5_newCapacity_0f7a4_32 : decode cJ5_newCapacity_0f7a4 32 = .ok (.istore 5, 2) := by decide +kernel
theorem dJ5_newCapacity_0f7a4_34 : decode cJ5_newCapacity_0f7a4 34 = .ok (.iload 5, 2) := by decide +kernel
theorem dJ5_newCapacity_0f7a4_36 : decode cJ5_newCapacity_0f7a4 36 = .ok (.ldc 39, 2) := by decide +kernel
theorem dJ5_newCapacity_0f7a4_38 : decode cJ5_newCapacity_0f7a4 38 = .ok (.if_icmp .ne 13, 3) := by decide +kernel
theorem dJ5_newCapacity_0f7a4_41 : decode cJ5_newCapacity_0f7a4 41 = .ok (.new 120, 3) := by decide +kernel
theorem dJ5_newCapacity_0f7a4_44 : decode cJ5_newCapacity_0f7a4 44 = .ok (.dup, 1) := by decide +kernel
theorem dJ5_newCapacity_0f7a4_45 : decode cJ5_newCapacity_0f7a4 45 = .ok (.ldc 122, 2) := by decide +kernel
theorem dJ5_newCapacity_0f7a4_47 : decode cJ5_newCapacity_0f7a4 47 = .ok (.invokespecial 124, 3) := by decide +kernel
theorem dJ5_newCapacity_0f7a4_50 : decode cJ5_newCapacity_0f7a4 50 = .ok (.athrow, 1) := by decide +kernel
theorem dJ5_newCapacity_0f7a4_51 : decode cJ5_newCapacity_0f7a4 51 = .ok (.iload 5, 2) := by decide +kernel
theorem dJ5_newCapacity_0f7a4_53 : decode cJ5_newCapacity_0f7a4 53 = .ok (.aload_n 0, 1) := by decide +kernel
theorem dJ5_newCapacity_0f7a4_54 : decode cJ5_newCapacity_0f7a4 54 = .ok (.getfield 22, 3) := by decide +kernel
theorem dJ5_newCapacity_0f7a4_57 : decode cJ5_newCapacity_0f7a4 57 = .ok (.ishr, 1) := by decide +kernel
theorem dJ5_newCapacity_0f7a4_58 : decode cJ5_newCapacity_0f7a4 58 = .ok (.ireturn, 1) := by decide +kernel
theorem dJ5_inflate_da8c8_0 : decode cJ5_inflate_da8c8 0 = .ok (.aload_n 0, 1) := by decide +kernel
theorem dJ5_inflate_da8c8_1 : decode cJ5_inflate_da8c8 1 = .ok (.invokevirtual 83, 3) := by decide +kernel
theorem dJ5_inflate_da8c8_4 : decode cJ5_inflate_da8c8 4 = .ok (.ifCond .ne 4, 3) := by decide +kernel
theorem dJ5_inflate_da8c8_7 : decode cJ5_inflate_da8c8 7 = .ok (.return_, 1) := by decide +kernel
theorem dJ5_inflate_da8c8_8 : decode cJ5_inflate_da8c8 8 = .ok (.aload_n 0, 1) := by decide +kernel
theorem dJ5_inflate_da8c8_9 : decode cJ5_inflate_da8c8 9 = .ok (.getfield 15, 3) := by decide +kernel
theorem dJ5_inflate_da8c8_12 : decode cJ5_inflate_da8c8 12 = .ok (.arraylength, 1) := by decide +kernel
theorem dJ5_inflate_da8c8_13 : decode cJ5_inflate_da8c8 13 = .ok (.invokestatic 26, 3) := by decide +kernel
theorem dJ5_inflate_da8c8_16 : decode cJ5_inflate_da8c8 16 = .ok (.astore_n 1, 1) := by decide +kernel
theorem dJ5_inflate_da8c8_17 : decode cJ5_inflate_da8c8 17 = .ok (.aload_n 0, 1) := by decide +kernel
theorem dJ5_inflate_da8c8_18 : decode cJ5_inflate_da8c8 18 = .ok (.getfield 15, 3) := by decide +kernel
theorem dJ5_inflate_da8c8_21 : decode cJ5_inflate_da8c8 21 = .ok (.iconst 0, 1) := by decide +kernel
theorem dJ5_inflate_da8c8_22 : decode cJ5_inflate_da8c8 22 = .ok (.aload_n 1, 1) := by decide +kernel
theorem dJ5_inflate_da8c8_23 : decode cJ5_inflate_da8c8 23 = .ok (.iconst 0, 1) := by decide +kernel
theorem dJ5_inflate_da8c8_24 : decode cJ5_inflate_da8c8 24 = .ok (.aload_n 0, 1) := by decide +kernel
theorem dJ5_inflate_da8c8_25 : decode cJ5_inflate_da8c8 25 = .ok (.getfield 79, 3) := by decide +kernel
theorem dJ5_inflate_da8c8_28 : decode cJ5_inflate_da8c8 28 = .ok (.invokestatic 125, 3) := by decide +kernel
theorem dJ5_inflate_da8c8_31 : decode cJ5_inflate_da8c8 31 = .ok (.aload_n 0, 1) := by decide +kernel
theorem dJ5_inflate_da8c8_32 : decode cJ5_inflate_da8c8 32 = .ok (.aload_n 1, 1) := by decide +kernel
theorem dJ5_inflate_da8c8_33 : decode cJ5_inflate_da8c8 33 = .ok (.putfield 15, 3) := by decide +kernel
theorem dJ5_inflate_da8c8_36 : decode cJ5_inflate_da8c8 36 = .ok (.aload_n 0, 1) := by decide +kernel
theorem dJ5_inflate_da8c8_37 : decode cJ5_inflate_da8c8 37 = .ok (.iconst 1, 1) := by decide +kernel
theorem dJ5_inflate_da8c8_38 : decode cJ5_inflate_da8c8 38 = .ok (.putfield 22, 3) := by decide +kernel
theorem dJ5_inflate_da8c8_41 : decode cJ5_inflate_da8c8 41 = .ok (.return_, 1) := by decide +kernel
theorem dJ5_append_cf1ce_0 : decode cJ5_append_cf1ce 0 = .ok (.aload_n 1, 1) := by decide +kernel
theorem dJ5_append_cf1ce_1 : decode cJ5_append_cf1ce 1 = .ok (.ifnonnull 8, 3) := by decide +kernel
theorem dJ5_append_cf1ce_4 : decode cJ5_append_cf1ce 4 = .ok (.aload_n 0, 1) := by decide +kernel
theorem dJ5_append_cf1ce_5 : decode cJ5_append_cf1ce 5 = .ok (.invokevirtual 204, 3) := by decide +kernel
theorem dJ5_append_cf1ce_8 : decode cJ5_append_cf1ce 8 = .ok (.areturn, 1) := by decide +kernel
theorem dJ5_append_cf1ce_9 : decode cJ5_append_cf1ce 9 = .ok (.aload_n 1, 1) := by decide +kernel
theorem dJ5_append_cf1ce_10 : decode cJ5_append_cf1ce 10 = .ok (.invokevirtual 32, 3) := by decide +kernel
theorem dJ5_append_cf1ce_13 : decode cJ5_append_cf1ce 13 = .ok (.istore_n 2, 1) := by decide +kernel
theorem dJ5_append_cf1ce_14 : decode cJ5_append_cf1ce 14 = .ok (.aload_n 0, 1) := by decide +kernel
theorem dJ5_append_cf1ce_15 : decode cJ5_append_cf1ce 15 = .ok (.aload_n 0, 1) := by decide +kernel
theorem dJ5_append_cf1ce_16 : decode cJ5_append_cf1ce 16 = .ok (.getfield 79, 3) := by decide +kernel
theorem dJ5_append_cf1ce_19 : decode cJ5_append_cf1ce 19 = .ok (.iload_n 2, 1) := by decide +kernel
theorem dJ5_append_cf1ce_20 : decode cJ5_append_cf1ce 20 = .ok (.iadd, 1) := by decide +kernel
theorem dJ5_append_cf1ce_21 : decode cJ5_append_cf1ce 21 = .ok (.invokevirtual 100, 3) := by decide +kernel
theorem dJ5_append_cf1ce_24 : decode cJ5_append_cf1ce 24 = .ok (.aload_n 0, 1) := by decide +kernel
theorem dJ5_append_cf1ce_25 : decode cJ5_append_cf1ce 25 = .ok (.aload_n 0, 1) := by decide +kernel
theorem dJ5_append_cf1ce_26 : decode cJ5_append_cf1ce 26 = .ok (.getfield 79, 3) := by decide +kernel
theorem dJ5_append_cf1ce_29 : decode cJ5_append_cf1ce 29 = .ok (.aload_n 1, 1) := by decide +kernel
theorem dJ5_append_cf1ce_30 : decode cJ5_append_cf1ce 30 = .ok (.invokevirtual 208, 3) := by decide +kernel
theorem dJ5_append_cf1ce_33 : decode cJ5_append_cf1ce 33 = .ok (.aload_n 0, 1) := by decide +kernel
theorem dJ5_append_cf1ce_34 : decode cJ5_append_cf1ce 34 = .ok (.dup, 1) := by decide +kernel
theorem dJ5_append_cf1ce_35 : decode cJ5_append_cf1ce 35 = .ok (.getfield 79, 3) := by decide +kernel
theorem dJ5_append_cf1ce_38 : decode cJ5_append_cf1ce 38 = .ok (.iload_n 2, 1) := by decide +kernel
theorem dJ5_append_cf1ce_39 : decode cJ5_append_cf1ce 39 = .ok (.iadd, 1) := by decide +kernel
theorem dJ5_append_cf1ce_40 : decode cJ5_append_cf1ce 40 = .ok (.putfield 79, 3) := by decide +kernel
theorem dJ5_append_cf1ce_43 : decode cJ5_append_cf1ce 43 = .ok (.aload_n 0, 1) := by decide +kernel
theorem dJ5_append_cf1ce_44 : decode cJ5_append_cf1ce 44 = .ok (.areturn, 1) := by decide +kernel
theorem dJ5_appendNull_278bc_0 : decode cJ5_appendNull_278bc 0 = .ok (.aload_n 0, 1) := by decide +kernel
theorem dJ5_appendNull_278bc_1 : decode cJ5_appendNull_278bc 1 = .ok (.aload_n 0, 1) := by decide +kernel
theorem dJ5_appendNull_278bc_2 : decode cJ5_appendNull_278bc 2 = .ok (.getfield 79, 3) := by decide +kernel
theorem dJ5_appendNull_278bc_5 : decode cJ5_appendNull_278bc 5 = .ok (.iconst 4, 1) := by decide +kernel
theorem dJ5_appendNull_278bc_6 : decode cJ5_appendNull_278bc 6 = .ok (.iadd, 1) := by decide +kernel
theorem dJ5_appendNull_278bc_7 : decode cJ5_appendNull_278bc 7 = .ok (.invokevirtual 100, 3) := by decide +kernel
theorem dJ5_appendNull_278bc_10 : decode cJ5_appendNull_278bc 10 = .ok (.aload_n 0, 1) := by decide +kernel
theorem dJ5_appendNull_278bc_11 : decode cJ5_appendNull_278bc 11 = .ok (.getfield 79, 3) := by decide +kernel
theorem dJ5_appendNull_278bc_14 : decode cJ5_appendNull_278bc 14 = .ok (.istore_n 1, 1) := by decide +kernel
theorem dJ5_appendNull_278bc_15 : decode cJ5_appendNull_278bc 15 = .ok (.aload_n 0, 1) := by decide +kernel
theorem dJ5_appendNull_278bc_16 : decode cJ5_appendNull_278bc 16 = .ok (.getfield 15, 3) := by decide +kernel
theorem dJ5_appendNull_278bc_19 : decode cJ5_appendNull_278bc 19 = .ok (.astore_n 2, 1) := by decide +kernel
theorem dJ5_appendNull_278bc_20 : decode cJ5_appendNull_278bc 20 = .ok (.aload_n 0, 1) := by decide +kernel
theorem dJ5_appendNull_278bc_21 : decode cJ5_appendNull_278bc 21 = .ok (.invokevirtual 83, 3) := by decide +kernel
theorem dJ5_appendNull_278bc_24 : decode cJ5_appendNull_278bc 24 = .ok (.ifCond .eq 38, 3) := by decide +kernel
theorem dJ5_appendNull_278bc_27 : decode cJ5_appendNull_278bc 27 = .ok (.aload_n 2, 1) := by decide +kernel
theorem dJ5_appendNull_278bc_28 : decode cJ5_appendNull_278bc 28 = .ok (.iload_n 1, 1) := by decide +kernel
theorem dJ5_appendNull_278bc_29 : decode cJ5_appendNull_278bc 29 = .ok (.iinc 1 1, 3) := by decide +kernel
theorem dJ5_appendNull_278bc_32 : decode cJ5_appendNull_278bc 32 = .ok (.bipush 110, 2) := by decide +kernel
theorem dJ5_appendNull_278bc_34 : decode cJ5_appendNull_278bc 34 = .ok (.bastore, 1) := by decide +kernel
theorem dJ5_appendNull_278bc_35 : decode cJ5_appendNull_278bc 35 = .ok (.aload_n 2, 1) := by decide +kernel
theorem dJ5_appendNull_278bc_36 : decode cJ5_appendNull_278bc 36 = .ok (.iload_n 1, 1) := by decide +kernel
theorem dJ5_appendNull_278bc_37 : decode cJ5_appendNull_278bc 37 = .ok (.iinc 1 1, 3) := by decide +kernel
theorem dJ5_appendNull_278bc_40 : decode cJ5_appendNull_278bc 40 = .ok (.bipush 117, 2) := by decide +kernel
theorem dJ5_appendNull_278bc_42 : decode cJ5_appendNull_278bc 42 = .ok (.bastore, 1) := by decide +kernel
theorem dJ5_appendNull_278bc_43 : decode cJ5_appendNull_278bc 43 = .ok (.aload_n 2, 1) := by decide +kernel
theorem dJ5_appendNull_278bc_44 : decode cJ5_appendNull_278bc 44 = .ok (.iload_n 1, 1) := by decide +kernel
theorem dJ5_appendNull_278bc_45 : decode cJ5_appendNull_278bc 45 = .ok (.iinc 1 1, 3) := by decide +kernel
theorem dJ5_appendNull_278bc_48 : decode cJ5_appendNull_278bc 48 = .ok (.bipush 108, 2) := by decide +kernel
theorem dJ5_appendNull_278bc_50 : decode cJ5_appendNull_278bc 50 = .ok (.bastore, 1) := by decide +kernel
theorem dJ5_appendNull_278bc_51 : decode cJ5_appendNull_278bc 51 = .ok (.aload_n 2, 1) := by decide +kernel
theorem dJ5_appendNull_278bc_52 : decode cJ5_appendNull_278bc 52 = .ok (.iload_n 1, 1) := by decide +kernel
theorem dJ5_appendNull_278bc_53 : decode cJ5_appendNull_278bc 53 = .ok (.iinc 1 1, 3) := by decide +kernel
theorem dJ5_appendNull_278bc_56 : decode cJ5_appendNull_278bc 56 = .ok (.bipush 108, 2) := by decide +kernel
theorem dJ5_appendNull_278bc_58 : decode cJ5_appendNull_278bc 58 = .ok (.bastore, 1) := by decide +kernel
theorem dJ5_appendNull_278bc_59 : decode cJ5_appendNull_278bc 59 = .ok (.goto 17, 3) := by decide +kernel
theorem dJ5_appendNull_278bc_62 : decode cJ5_appendNull_278bc 62 = .ok (.aload_n 2, 1) := by decide +kernel
theorem dJ5_appendNull_278bc_63 : decode cJ5_appendNull_278bc 63 = .ok (.iload_n 1, 1) := by decide +kernel
theorem dJ5_appendNull_278bc_64 : decode cJ5_appendNull_278bc 64 = .ok (.bipush 110, 2) := by decide +kernel
theorem dJ5_appendNull_278bc_66 : decode cJ5_appendNull_278bc 66 = .ok (.bipush 117, 2) := by decide +kernel
theorem dJ5_appendNull_278bc_68 : decode cJ5_appendNull_278bc 68 = .ok (.bipush 108, 2) := by decide +kernel
theorem dJ5_appendNull_278bc_70 : decode cJ5_appendNull_278bc 70 = .ok (.bipush 108, 2) := by decide +kernel
theorem dJ5_appendNull_278bc_72 : decode cJ5_appendNull_278bc 72 = .ok (.invokestatic 226, 3) := by decide +kernel
theorem dJ5_appendNull_278bc_75 : decode cJ5_appendNull_278bc 75 = .ok (.istore_n 1, 1) := by decide +kernel
theorem dJ5_appendNull_278bc_76 : decode cJ5_appendNull_278bc 76 = .ok (.aload_n 0, 1) := by decide +kernel
theorem dJ5_appendNull_278bc_77 : decode cJ5_appendNull_278bc 77 = .ok (.iload_n 1, 1) := by decide +kernel
theorem dJ5_appendNull_278bc_78 : decode cJ5_appendNull_278bc 78 = .ok (.putfield 79, 3) := by decide +kernel
theorem dJ5_appendNull_278bc_81 : decode cJ5_appendNull_278bc 81 = .ok (.aload_n 0, 1) := by decide +kernel
theorem dJ5_appendNull_278bc_82 : decode cJ5_appendNull_278bc 82 = .ok (.areturn, 1) := by decide +kernel
theorem dJ5_append_3fe6f_0 : decode cJ5_append_3fe6f 0 = .ok (.aload_n 0, 1) := by decide +kernel
theorem dJ5_append_3fe6f_1 : decode cJ5_append_3fe6f 1 = .ok (.aload_n 0, 1) := by decide +kernel
theorem dJ5_append_3fe6f_2 : decode cJ5_append_3fe6f 2 = .ok (.getfield 79, 3) := by decide +kernel
theorem dJ5_append_3fe6f_5 : decode cJ5_append_3fe6f 5 = .ok (.iconst 1, 1) := by decide +kernel
theorem dJ5_append_3fe6f_6 : decode cJ5_append_3fe6f 6 = .ok (.iadd, 1) := by decide +kernel
theorem dJ5_append_3fe6f_7 : decode cJ5_append_3fe6f 7 = .ok (.invokevirtual 100, 3) := by decide +kernel
theorem dJ5_append_3fe6f_10 : decode cJ5_append_3fe6f 10 = .ok (.aload_n 0, 1) := by decide +kernel
theorem dJ5_append_3fe6f_11 : decode cJ5_append_3fe6f 11 = .ok (.invokevirtual 83, 3) := by decide +kernel
theorem dJ5_append_3fe6f_14 : decode cJ5_append_3fe6f 14 = .ok (.ifCond .eq 31, 3) := by decide +kernel
theorem dJ5_append_3fe6f_17 : decode cJ5_append_3fe6f 17 = .ok (.iload_n 1, 1) := by decide +kernel
theorem dJ5_append_3fe6f_18 : decode cJ5_append_3fe6f 18 = .ok (.invokestatic 191, 3) := by decide +kernel
theorem dJ5_append_3fe6f_21 : decode cJ5_append_3fe6f 21 = .ok (.ifCond .eq 24, 3) := by decide +kernel
theorem dJ5_append_3fe6f_24 : decode cJ5_append_3fe6f 24 = .ok (.aload_n 0, 1) := by decide +kernel
theorem dJ5_append_3fe6f_25 : decode cJ5_append_3fe6f 25 = .ok (.getfield 15, 3) := by decide +kernel
theorem dJ5_append_3fe6f_28 : decode cJ5_append_3fe6f 28 = .ok (.aload_n 0, 1) := by decide +kernel
theorem dJ5_append_3fe6f_29 : decode cJ5_append_3fe6f 29 = .ok (.dup, 1) := by decide +kernel
theorem dJ5_append_3fe6f_30 : decode cJ5_append_3fe6f 30 = .ok (.getfield 79, 3) := by decide +kernel
theorem dJ5_append_3fe6f_33 : decode cJ5_append_3fe6f 33 = .ok (.dup_x1, 1) := by decide +kernel
theorem dJ5_append_3fe6f_34 : decode cJ5_append_3fe6f 34 = .ok (.iconst 1, 1) := by decide +kernel
theorem dJ5_append_3fe6f_35 : decode cJ5_append_3fe6f 35 = .ok (.iadd, 1) := by decide +kernel
theorem dJ5_append_3fe6f_36 : decode cJ5_append_3fe6f 36 = .ok (.putfield 79, 3) := by decide +kernel
theorem dJ5_append_3fe6f_39 : decode cJ5_append_3fe6f 39 = .ok (.iload_n 1, 1) := by decide +kernel
theorem dJ5_append_3fe6f_40 : decode cJ5_append_3fe6f 40 = .ok (.i2b, 1) := by decide +kernel
theorem dJ5_append_3fe6f_41 : decode cJ5_append_3fe6f 41 = .ok (.bastore, 1) := by decide +kernel
theorem dJ5_append_3fe6f_42 : decode cJ5_append_3fe6f 42 = .ok (.goto 33, 3) := by decide +kernel
theorem dJ5_append_3fe6f_45 : decode cJ5_append_3fe6f 45 = .ok (.aload_n 0, 1) := by decide +kernel
theorem dJ5_append_3fe6f_46 : decode cJ5_append_3fe6f 46 = .ok (.invokevirtual 83, 3) := by decide +kernel
theorem dJ5_append_3fe6f_49 : decode cJ5_append_3fe6f 49 = .ok (.ifCond .eq 7, 3) := by decide +kernel
theorem dJ5_append_3fe6f_52 : decode cJ5_append_3fe6f 52 = .ok (.aload_n 0, 1) := by decide +kernel
theorem dJ5_append_3fe6f_53 : decode cJ5_append_3fe6f 53 = .ok (.invokevirtual 195, 3) := by decide +kernel
theorem dJ5_append_3fe6f_56 : decode cJ5_append_3fe6f 56 = .ok (.aload_n 0, 1) := by decide +kernel
theorem dJ5_append_3fe6f_57 : decode cJ5_append_3fe6f 57 = .ok (.getfield 15, 3) := by decide +kernel
theorem dJ5_append_3fe6f_60 : decode cJ5_append_3fe6f 60 = .ok (.aload_n 0, 1) := by decide +kernel
theorem dJ5_append_3fe6f_61 : decode cJ5_append_3fe6f 61 = .ok (.dup, 1) := by decide +kernel
theorem dJ5_append_3fe6f_62 : decode cJ5_append_3fe6f 62 = .ok (.getfield 79, 3) := by decide +kernel
theorem dJ5_append_3fe6f_65 : decode cJ5_append_3fe6f 65 = .ok (.dup_x1, 1) := by decide +kernel
theorem dJ5_append_3fe6f_66 : decode cJ5_append_3fe6f 66 = .ok (.iconst 1, 1) := by decide +kernel
theorem dJ5_append_3fe6f_67 : decode cJ5_append_3fe6f 67 = .ok (.iadd, 1) := by decide +kernel
theorem dJ5_append_3fe6f_68 : decode cJ5_append_3fe6f 68 = .ok (.putfield 79, 3) := by decide +kernel
theorem dJ5_append_3fe6f_71 : decode cJ5_append_3fe6f 71 = .ok (.iload_n 1, 1) := by decide +kernel
theorem dJ5_append_3fe6f_72 : decode cJ5_append_3fe6f 72 = .ok (.invokestatic 197, 3) := by decide +kernel
theorem dJ5_append_3fe6f_75 : decode cJ5_append_3fe6f 75 = .ok (.aload_n 0, 1) := by decide +kernel
theorem dJ5_append_3fe6f_76 : decode cJ5_append_3fe6f 76 = .ok (.areturn, 1) := by decide +kernel
theorem dJ5_append_c97b9_0 : decode cJ5_append_c97b9 0 = .ok (.aload_n 0, 1) := by decide +kernel
theorem dJ5_append_c97b9_1 : decode cJ5_append_c97b9 1 = .ok (.getfield 79, 3) := by decide +kernel
theorem dJ5_append_c97b9_4 : decode cJ5_append_c97b9 4 = .ok (.istore_n 2, 1) := by decide +kernel
theorem dJ5_append_c97b9_5 : decode cJ5_append_c97b9 5 = .ok (.iload_n 2, 1) := by decide +kernel
theorem dJ5_append_c97b9_6 : decode cJ5_append_c97b9 6 = .ok (.iload_n 1, 1) := by decide +kernel
theorem dJ5_append_c97b9_7 : decode cJ5_append_c97b9 7 = .ok (.invokestatic 245, 3) := by decide +kernel
theorem dJ5_append_c97b9_10 : decode cJ5_append_c97b9 10 = .ok (.iadd, 1) := by decide +kernel
theorem dJ5_append_c97b9_11 : decode cJ5_append_c97b9 11 = .ok (.istore_n 3, 1) := by decide +kernel
theorem dJ5_append_c97b9_12 : decode cJ5_append_c97b9 12 = .ok (.aload_n 0, 1) := by decide +kernel
theorem dJ5_append_c97b9_13 : decode cJ5_append_c97b9 13 = .ok (.iload_n 3, 1) := by decide +kernel
theorem dJ5_append_c97b9_14 : decode cJ5_append_c97b9 14 = .ok (.invokevirtual 100, 3) := by decide +kernel
theorem dJ5_append_c97b9_17 : decode cJ5_append_c97b9 17 = .ok (.aload_n 0, 1) := by decide +kernel
theorem dJ5_append_c97b9_18 : decode cJ5_append_c97b9 18 = .ok (.invokevirtual 83, 3) := by decide +kernel
theorem dJ5_append_c97b9_21 : decode cJ5_append_c97b9 21 = .ok (.ifCond .eq 16, 3) := by decide +kernel
theorem dJ5_append_c97b9_24 : decode cJ5_append_c97b9 24 = .ok (.iload_n 1, 1) := by decide +kernel
theorem dJ5_append_c97b9_25 : decode cJ5_append_c97b9 25 = .ok (.iload_n 3, 1) := by decide +kernel
theorem dJ5_append_c97b9_26 : decode cJ5_append_c97b9 26 = .ok (.aload_n 0, 1) := by decide +kernel
theorem dJ5_append_c97b9_27 : decode cJ5_append_c97b9 27 = .ok (.getfield 15, 3) := by decide +kernel
theorem dJ5_append_c97b9_30 : decode cJ5_append_c97b9 30 = .ok (.invokestatic 248, 3) := by decide +kernel
theorem dJ5_append_c97b9_33 : decode cJ5_append_c97b9 33 = .ok (.pop, 1) := by decide +kernel
theorem dJ5_append_c97b9_34 : decode cJ5_append_c97b9 34 = .ok (.goto 14, 3) := by decide +kernel
theorem dJ5_append_c97b9_37 : decode cJ5_append_c97b9 37 = .ok (.iload_n 1, 1) := by decide +kernel
theorem dJ5_append_c97b9_38 : decode cJ5_append_c97b9 38 = .ok (.iload_n 2, 1) := by decide +kernel
theorem dJ5_append_c97b9_39 : decode cJ5_append_c97b9 39 = .ok (.iload_n 3, 1) := by decide +kernel
theorem dJ5_append_c97b9_40 : decode cJ5_append_c97b9 40 = .ok (.aload_n 0, 1) := by decide +kernel
theorem dJ5_append_c97b9_41 : decode cJ5_append_c97b9 41 = .ok (.getfield 15, 3) := by decide +kernel
theorem dJ5_append_c97b9_44 : decode cJ5_append_c97b9 44 = .ok (.invokestatic 251, 3) := by decide +kernel
theorem dJ5_append_c97b9_47 : decode cJ5_append_c97b9 47 = .ok (.pop, 1) := by decide +kernel
theorem dJ5_append_c97b9_48 : decode cJ5_append_c97b9 48 = .ok (.aload_n 0, 1) := by decide +kernel
theorem dJ5_append_c97b9_49 : decode cJ5_append_c97b9 49 = .ok (.iload_n 3, 1) := by decide +kernel
theorem dJ5_append_c97b9_50 : decode cJ5_append_c97b9 50 = .ok (.putfield 79, 3) := by decide +kernel
theorem dJ5_append_c97b9_53 : decode cJ5_append_c97b9 53 = .ok (.aload_n 0, 1) := by decide +kernel
theorem dJ5_append_c97b9_54 : decode cJ5_append_c97b9 54 = .ok (.areturn, 1) := by decide +kernel
theorem dJ5_getValue_6d5f1_0 : decode cJ5_getValue_6d5f1 0 = .ok (.aload_n 0, 1) := by decide +kernel
theorem dJ5_getValue_6d5f1_1 : decode cJ5_getValue_6d5f1 1 = .ok (.getfield 15, 3) := by decide +kernel
theorem dJ5_getValue_6d5f1_4 : decode cJ5_getValue_6d5f1 4 = .ok (.areturn, 1) := by decide +kernel
theorem dJ5_isLatin1_aae02_0 : decode cJ5_isLatin1_aae02 0 = .ok (.getstatic 18, 3) := by decide +kernel
theorem dJ5_isLatin1_aae02_3 : decode cJ5_isLatin1_aae02 3 = .ok (.ifCond .eq 14, 3) := by decide +kernel
theorem dJ5_isLatin1_aae02_6 : decode cJ5_isLatin1_aae02 6 = .ok (.aload_n 0, 1) := by decide +kernel
theorem dJ5_isLatin1_aae02_7 : decode cJ5_isLatin1_aae02 7 = .ok (.getfield 22, 3) := by decide +kernel
theorem dJ5_isLatin1_aae02_10 : decode cJ5_isLatin1_aae02 10 = .ok (.ifCond .ne 7, 3) := by decide +kernel
theorem dJ5_isLatin1_aae02_13 : decode cJ5_isLatin1_aae02 13 = .ok (.iconst 1, 1) := by decide +kernel
theorem dJ5_isLatin1_aae02_14 : decode cJ5_isLatin1_aae02 14 = .ok (.goto 4, 3) := by decide +kernel
theorem dJ5_isLatin1_aae02_17 : decode cJ5_isLatin1_aae02 17 = .ok (.iconst 0, 1) := by decide +kernel
theorem dJ5_isLatin1_aae02_18 : decode cJ5_isLatin1_aae02 18 = .ok (.ireturn, 1) := by decide +kernel
theorem dJ5_inflateIfNeededFor_a7421_0 : decode cJ5_inflateIfNeededFor_a7421 0 = .ok (.getstatic 18, 3) := by decide +kernel
theorem dJ5_inflateIfNeededFor_a7421_3 : decode cJ5_inflateIfNeededFor_a7421 3 = .ok (.ifCond .eq 18, 3) := by decide +kernel
theorem dJ5_inflateIfNeededFor_a7421_6 : decode cJ5_inflateIfNeededFor_a7421 6 = .ok (.aload_n 0, 1) := by decide +kernel
theorem dJ5_inflateIfNeededFor_a7421_7 : decode cJ5_inflateIfNeededFor_a7421 7 = .ok (.getfield 22, 3) := by decide +kernel
theorem dJ5_inflateIfNeededFor_a7421_10 : decode cJ5_inflateIfNeededFor_a7421 10 = .ok (.aload_n 1, 1) := by decide +kernel
theorem dJ5_inflateIfNeededFor_a7421_11 : decode cJ5_inflateIfNeededFor_a7421 11 = .ok (.invokevirtual 40, 3) := by decide +kernel
theorem dJ5_inflateIfNeededFor_a7421_14 : decode cJ5_inflateIfNeededFor_a7421 14 = .ok (.if_icmp .eq 7, 3) := by decide +kernel
theorem dJ5_inflateIfNeededFor_a7421_17 : decode cJ5_inflateIfNeededFor_a7421 17 = .ok (.aload_n 0, 1) := by decide +kernel
theorem dJ5_inflateIfNeededFor_a7421_18 : decode cJ5_inflateIfNeededFor_a7421 18 = .ok (.invokevirtual 195, 3) := by decide +kernel
theorem dJ5_inflateIfNeededFor_a7421_21 : decode cJ5_inflateIfNeededFor_a7421 21 = .ok (.return_, 1) := by decide +kernel
theorem dJ5_putStringAt_47b60_0 : decode cJ5_putStringAt_47b60 0 = .ok (.aload_n 0, 1) := by decide +kernel
theorem dJ5_putStringAt_47b60_1 : decode cJ5_putStringAt_47b60 1 = .ok (.aload_n 2, 1) := by decide +kernel
theorem dJ5_putStringAt_47b60_2 : decode cJ5_putStringAt_47b60 2 = .ok (.invokevirtual 397, 3) := by decide +kernel
theorem dJ5_putStringAt_47b60_5 : decode cJ5_putStringAt_47b60 5 = .ok (.aload_n 2, 1) := by decide +kernel
theorem dJ5_putStringAt_47b60_6 : decode cJ5_putStringAt_47b60 6 = .ok (.aload_n 0, 1) := by decide +kernel
theorem dJ5_putStringAt_47b60_7 : decode cJ5_putStringAt_47b60 7 = .ok (.getfield 15, 3) := by decide +kernel
theorem dJ5_putStringAt_47b60_10 : decode cJ5_putStringAt_47b60 10 = .ok (.iload_n 1, 1) := by decide +kernel
theorem dJ5_putStringAt_47b60_11 : decode cJ5_putStringAt_47b60 11 = .ok (.aload_n 0, 1) := by decide +kernel
theorem dJ5_putStringAt_47b60_12 : decode cJ5_putStringAt_47b60 12 = .ok (.getfield 22, 3) := by decide +kernel
theorem dJ5_putStringAt_47b60_15 : decode cJ5_putStringAt_47b60 15 = .ok (.invokevirtual 399, 3) := by decide +kernel
theorem dJ5_putStringAt_47b60_18 : decode cJ5_putStringAt_47b60 18 = .ok (.return_, 1) := by decide +kernel
theorem dJ6_getChars_ba4f3_0 : decode cJ6_getChars_ba4f3 0 = .ok (.iload_n 1, 1) := by decide +kernel
theorem dJ6_getChars_ba4f3_1 : decode cJ6_getChars_ba4f3 1 = .ok (.istore 5, 2) := by decide +kernel
theorem dJ6_getChars_ba4f3_3 : decode cJ6_getChars_ba4f3 3 = .ok (.iload_n 0, 1) := by decide +kernel
theorem dJ6_getChars_ba4f3_4 : decode cJ6_getChars_ba4f3 4 = .ok (.ifCond .ge 7, 3) := by decide +kernel
theorem dJ6_getChars_ba4f3_7 : decode cJ6_getChars_ba4f3 7 = .ok (.iconst 1, 1) := by decide +kernel
theorem dJ6_getChars_ba4f3_8 : decode cJ6_getChars_ba4f3 8 = .ok (.goto 4, 3) := by decide +kernel
theorem dJ6_getChars_ba4f3_11 : decode cJ6_getChars_ba4f3 11 = .ok (.iconst 0, 1) := by decide +kernel
theorem dJ6_getChars_ba4f3_12 : decode cJ6_getChars_ba4f3 12 = .ok (.istore 6, 2) := by decide +kernel
theorem dJ6_getChars_ba4f3_14 : decode cJ6_getChars_ba4f3 14 = .ok (.iload 6, 2) := by decide +kernel
theorem dJ6_getChars_ba4f3_16 : decode cJ6_getChars_ba4f3 16 = .ok (.ifCond .ne 6, 3) := by decide +kernel
theorem dJ6_getChars_ba4f3_19 : decode cJ6_getChars_ba4f3 19 = .ok (.iload_n 0, 1) := by decide +kernel
theorem dJ6_getChars_ba4f3_20 : decode cJ6_getChars_ba4f3 20 = .ok (.ineg, 1) := by decide +kernel
theorem dJ6_getChars_ba4f3_21 : decode cJ6_getChars_ba4f3 21 = .ok (.istore_n 0, 1) := by decide +kernel
theorem dJ6_getChars_ba4f3_22 : decode cJ6_getChars_ba4f3 22 = .ok (.iload_n 0, 1) := by decide +kernel
theorem dJ6_getChars_ba4f3_23 : decode cJ6_getChars_ba4f3 23 = .ok (.bipush (-100), 2) := by decide +kernel
theorem dJ6_getChars_ba4f3_25 : decode cJ6_getChars_ba4f3 25 = .ok (.if_icmp .gt 47, 3) := by decide +kernel
theorem dJ6_getChars_ba4f3_28 : decode cJ6_getChars_ba4f3 28 = .ok (.iload_n 0, 1) := by decide +kernel
theorem dJ6_getChars_ba4f3_29 : decode cJ6_getChars_ba4f3 29 = .ok (.bipush 100, 2) := by decide +kernel
theorem dJ6_getChars_ba4f3_31 : decode cJ6_getChars_ba4f3 31 = .ok (.idiv, 1) := by decide +kernel
theorem dJ6_getChars_ba4f3_32 : decode cJ6_getChars_ba4f3 32 = .ok (.istore_n 3, 1) := by decide +kernel
theorem dJ6_getChars_ba4f3_33 : decode cJ6_getChars_ba4f3 33 = .ok (.iload_n 3, 1) := by decide +kernel
theorem dJ6_getChars_ba4f3_34 : decode cJ6_getChars_ba4f3 34 = .ok (.bipush 100, 2) := by decide +kernel
theorem dJ6_getChars_ba4f3_36 : decode cJ6_getChars_ba4f3 36 = .ok (.imul, 1) := by decide +kernel
theorem dJ6_getChars_ba4f3_37 : decode cJ6_getChars_ba4f3 37 = .ok (.iload_n 0, 1) := by decide +kernel
theorem dJ6_getChars_ba4f3_38 : decode cJ6_getChars_ba4f3 38 = .ok (.isub, 1) := by decide +kernel
theorem dJ6_getChars_ba4f3_39 : decode cJ6_getChars_ba4f3 39 = .ok (.istore 4, 2) := by decide +kernel
theorem dJ6_getChars_ba4f3_41 : decode cJ6_getChars_ba4f3 41 = .ok (.iload_n 3, 1) := by decide +kernel
theorem dJ6_getChars_ba4f3_42 : decode cJ6_getChars_ba4f3 42 = .ok (.istore_n 0, 1) := by decide +kernel
theorem dJ6_getChars_ba4f3_43 : decode cJ6_getChars_ba4f3 43 = .ok (.aload_n 2, 1) := by decide +kernel
theorem dJ6_getChars_ba4f3_44 : decode cJ6_getChars_ba4f3 44 = .ok (.iinc 5 (-1), 3) := by decide +kernel
theorem dJ6_getChars_ba4f3_47 : decode cJ6_getChars_ba4f3 47 = .ok (.iload 5, 2) := by decide +kernel
theorem dJ6_getChars_ba4f3_49 : decode cJ6_getChars_ba4f3 49 = .ok (.getstatic 83, 3) := by decide +kernel
theorem dJ6_getChars_ba4f3_52 : decode cJ6_getChars_ba4f3 52 = .ok (.iload 4, 2) := by decide +kernel
theorem dJ6_getChars_ba4f3_54 : decode cJ6_getChars_ba4f3 54 = .ok (.baload, 1) := by decide +kernel
theorem dJ6_getChars_ba4f3_55 : decode cJ6_getChars_ba4f3 55 = .ok (.bastore, 1) := by decide +kernel
theorem dJ6_getChars_ba4f3_56 : decode cJ6_getChars_ba4f3 56 = .ok (.aload_n 2, 1) := by decide +kernel
theorem dJ6_getChars_ba4f3_57 : decode cJ6_getChars_ba4f3 57 = .ok (.iinc 5 (-1), 3) := by decide +kernel
theorem dJ6_getChars_ba4f3_60 : decode cJ6_getChars_ba4f3 60 = .ok (.iload 5, 2) := by decide +kernel
theorem dJ6_getChars_ba4f3_62 : decode cJ6_getChars_ba4f3 62 = .ok (.getstatic 87, 3) := by decide +kernel
theorem dJ6_getChars_ba4f3_65 : decode cJ6_getChars_ba4f3 65 = .ok (.iload 4, 2) := by decide +kernel
theorem dJ6_getChars_ba4f3_67 : decode cJ6_getChars_ba4f3 67 = .ok (.baload, 1) := by decide +kernel
theorem dJ6_getChars_ba4f3_68 : decode cJ6_getChars_ba4f3 68 = .ok (.bastore, 1) := by decide +kernel
theorem dJ6_getChars_ba4f3_69 : decode cJ6_getChars_ba4f3 69 = .ok (.goto (-47), 3) := by decide +kernel
theorem dJ6_getChars_ba4f3_72 : decode cJ6_getChars_ba4f3 72 = .ok (.aload_n 2, 1) := by decide +kernel
theorem dJ6_getChars_ba4f3_73 : decode cJ6_getChars_ba4f3 73 = .ok (.iinc 5 (-1), 3) := by decide +kernel
theorem dJ6_getChars_ba4f3_76 : decode cJ6_getChars_ba4f3 76 = .ok (.iload 5, 2) := by decide +kernel
theorem dJ6_getChars_ba4f3_78 : decode cJ6_getChars_ba4f3 78 = .ok (.getstatic 83, 3) := by decide +kernel
theorem dJ6_getChars_ba4f3_81 : decode cJ6_getChars_ba4f3 81 = .ok (.iload_n 0, 1) := by decide +kernel
theorem dJ6_getChars_ba4f3_82 : decode cJ6_getChars_ba4f3 82 = .ok (.ineg, 1) := by decide +kernel
theorem dJ6_getChars_ba4f3_83 : decode cJ6_getChars_ba4f3 83 = .ok (.baload, 1) := by decide +kernel
theorem dJ6_getChars_ba4f3_84 : decode cJ6_getChars_ba4f3 84 = .ok (.bastore, 1) := by decide +kernel
theorem dJ6_getChars_ba4f3_85 : decode cJ6_getChars_ba4f3 85 = .ok (.iload_n 0, 1) := by decide +kernel
theorem dJ6_getChars_ba4f3_86 : decode cJ6_getChars_ba4f3 86 = .ok (.bipush (-9), 2) := by decide +kernel
theorem dJ6_getChars_ba4f3_88 : decode cJ6_getChars_ba4f3 88 = .ok (.if_icmp .ge 16, 3) := by decide +kernel
theorem dJ6_getChars_ba4f3_91 : decode cJ6_getChars_ba4f3 91 = .ok (.aload_n 2, 1) := by decide +kernel
theorem dJ6_getChars_ba4f3_92 : decode cJ6_getChars_ba4f3 92 = .ok (.iinc 5 (-1), 3) := by decide +kernel
theorem dJ6_getChars_ba4f3_95 : decode cJ6_getChars_ba4f3 95 = .ok (.iload 5, 2) := by decide +kernel
theorem dJ6_getChars_ba4f3_97 : decode cJ6_getChars_ba4f3 97 = .ok (.getstatic 87, 3) := by decide +kernel
theorem dJ6_getChars_ba4f3_100 : decode cJ6_getChars_ba4f3 100 = .ok (.iload_n 0, 1) := by decide +kernel
theorem dJ6_getChars_ba4f3_101 : decode cJ6_getChars_ba4f3 101 = .ok (.ineg, 1) := by decide +kernel
theorem dJ6_getChars_ba4f3_102 : decode cJ6_getChars_ba4f3 102 = .ok (.baload, 1) := by decide +kernel
theorem dJ6_getChars_ba4f3_103 : decode cJ6_getChars_ba4f3 103 = .ok (.bastore, 1) := by decide +kernel
theorem dJ6_getChars_ba4f3_104 : decode cJ6_getChars_ba4f3 104 = .ok (.iload 6, 2) := by decide +kernel
theorem dJ6_getChars_ba4f3_106 : decode cJ6_getChars_ba4f3 106 = .ok (.ifCond .eq 12, 3) := by decide +kernel
theorem dJ6_getChars_ba4f3_109 : decode cJ6_getChars_ba4f3 109 = .ok (.aload_n 2, 1) := by decide +kernel
theorem dJ6_getChars_ba4f3_110 : decode cJ6_getChars_ba4f3 110 = .ok (.iinc 5 (-1), 3) := by decide +kernel
theorem dJ6_getChars_ba4f3_113 : decode cJ6_getChars_ba4f3 113 = .ok (.iload 5, 2) := by decide +kernel
theorem dJ6_getChars_ba4f3_115 : decode cJ6_getChars_ba4f3 115 = .ok (.bipush 45, 2) := by decide +kernel
theorem dJ6_getChars_ba4f3_117 : decode cJ6_getChars_ba4f3 117 = .ok (.bastore, 1) := by decide +kernel
theorem dJ6_getChars_ba4f3_118 : decode cJ6_getChars_ba4f3 118 = .ok (.iload 5, 2) := by decide +kernel
theorem dJ6_getChars_ba4f3_120 : decode cJ6_getChars_ba4f3 120 = .ok (.ireturn, 1) := by decide +kernel
theorem dJ6_stringSize_0f7a4_0 : decode cJ6_stringSize_0f7a4 0 = .ok (.iconst 1, 1) := by decide +kernel
theorem dJ6_stringSize_0f7a4_1 : decode cJ6_stringSize_0f7a4 1 = .ok (.istore_n 1, 1) := by decide +kernel
theorem dJ6_stringSize_0f7a4_2 : decode cJ6_stringSize_0f7a4 2 = .ok (.iload_n 0, 1) := by decide +kernel
theorem dJ6_stringSize_0f7a4_3 : decode cJ6_stringSize_0f7a4 3 = .ok (.ifCond .lt 8, 3) := by decide +kernel
theorem dJ6_stringSize_0f7a4_6 : decode cJ6_stringSize_0f7a4 6 = .ok (.iconst 0, 1) := by decide +kernel
theorem dJ6_stringSize_0f7a4_7 : decode cJ6_stringSize_0f7a4 7 = .ok (.istore_n 1, 1) := by decide +kernel
theorem dJ6_stringSize_0f7a4_8 : decode cJ6_stringSize_0f7a4 8 = .ok (.iload_n 0, 1) := by decide +kernel
theorem dJ6_stringSize_0f7a4_9 : decode cJ6_stringSize_0f7a4 9 = .ok (.ineg, 1) := by decide +kernel
theorem dJ6_stringSize_0f7a4_10 : decode cJ6_stringSize_0f7a4 10 = .ok (.istore_n 0, 1) := by decide +kernel
theorem dJ6_stringSize_0f7a4_11 : decode cJ6_stringSize_0f7a4 11 = .ok (.bipush (-10), 2) := by decide +kernel
theorem dJ6_stringSize_0f7a4_13 : decode cJ6_stringSize_0f7a4 13 = .ok (.istore_n 2, 1) := by decide +kernel
theorem dJ6_stringSize_0f7a4_14 : decode cJ6_stringSize_0f7a4 14 = .ok (.iconst 1, 1) := by decide +kernel
theorem dJ6_stringSize_0f7a4_15 : decode cJ6_stringSize_0f7a4 15 = .ok (.istore_n 3, 1) := by decide +kernel
theorem dJ6_stringSize_0f7a4_16 : decode cJ6_stringSize_0f7a4 16 = .ok (.iload_n 3, 1) := by decide +kernel
theorem dJ6_stringSize_0f7a4_17 : decode cJ6_stringSize_0f7a4 17 = .ok (.bipush 10, 2) := by decide +kernel
theorem dJ6_stringSize_0f7a4_19 : decode cJ6_stringSize_0f7a4 19 = .ok (.if_icmp .ge 23, 3) := by decide +kernel
theorem dJ6_stringSize_0f7a4_22 : decode cJ6_stringSize_0f7a4 22 = .ok (.iload_n 0, 1) := by decide +kernel
theorem dJ6_stringSize_0f7a4_23 : decode cJ6_stringSize_0f7a4 23 = .ok (.iload_n 2, 1) := by decide +kernel
theorem dJ6_stringSize_0f7a4_24 : decode cJ6_stringSize_0f7a4 24 = .ok (.if_icmp .le 7, 3) := by decide +kernel
theorem dJ6_stringSize_0f7a4_27 : decode cJ6_stringSize_0f7a4 27 = .ok (.iload_n 3, 1) := by decide +kernel
theorem dJ6_stringSize_0f7a4_28 : decode cJ6_stringSize_0f7a4 28 = .ok (.iload_n 1, 1) := by decide +kernel
theorem dJ6_stringSize_0f7a4_29 : decode cJ6_stringSize_0f7a4 29 = .ok (.iadd, 1) := by decide +kernel
theorem dJ6_stringSize_0f7a4_30 : decode cJ6_stringSize_0f7a4 30 = .ok (.ireturn, 1) := by decide +kernel
theorem dJ6_stringSize_0f7a4_31 : decode cJ6_stringSize_0f7a4 31 = .ok (.bipush 10, 2) := by decide +kernel
theorem dJ6_stringSize_0f7a4_33 : decode cJ6_stringSize_0f7a4 33 = .ok (.iload_n 2, 1) := by decide +kernel
theorem dJ6_stringSize_0f7a4_34 : decode cJ6_stringSize_0f7a4 34 = .ok (.imul, 1) := by decide +kernel
theorem dJ6_stringSize_0f7a4_35 : decode cJ6_stringSize_0f7a4 35 = .ok (.istore_n 2, 1) := by decide +kernel
theorem dJ6_stringSize_0f7a4_36 : decode cJ6_stringSize_0f7a4 36 = .ok (.iinc 3 1, 3) := by decide +kernel
theorem dJ6_stringSize_0f7a4_39 : decode cJ6_stringSize_0f7a4 39 = .ok (.goto (-23), 3) := by decide +kernel
theorem dJ6_stringSize_0f7a4_42 : decode cJ6_stringSize_0f7a4 42 = .ok (.bipush 10, 2) := by decide +kernel
theorem dJ6_stringSize_0f7a4_44 : decode cJ6_stringSize_0f7a4 44 = .ok (.iload_n 1, 1) := by decide +kernel
theorem dJ6_stringSize_0f7a4_45 : decode cJ6_stringSize_0f7a4 45 = .ok (.iadd, 1) := by decide +kernel
theorem dJ6_stringSize_0f7a4_46 : decode cJ6_stringSize_0f7a4 46 = .ok (.ireturn, 1) := by decide +kernel
theorem dJ9_max_7cf53_0 : decode cJ9_max_7cf53 0 = .ok (.iload_n 0, 1) := by decide +kernel
theorem dJ9_max_7cf53_1 : decode cJ9_max_7cf53 1 = .ok (.iload_n 1, 1) := by decide +kernel
theorem dJ9_max_7cf53_2 : decode cJ9_max_7cf53 2 = .ok (.if_icmp .lt 7, 3) := by decide +kernel
theorem dJ9_max_7cf53_5 : decode cJ9_max_7cf53 5 = .ok (.iload_n 0, 1) := by decide +kernel
theorem dJ9_max_7cf53_6 : decode cJ9_max_7cf53 6 = .ok (.goto 4, 3) := by decide +kernel
theorem dJ9_max_7cf53_9 : decode cJ9_max_7cf53 9 = .ok (.iload_n 1, 1) := by decide +kernel
theorem dJ9_max_7cf53_10 : decode cJ9_max_7cf53 10 = .ok (.ireturn, 1) := by decide +kernel
theorem dJ9_min_7cf53_0 : decode cJ9_min_7cf53 0 = .ok (.iload_n 0, 1) := by decide +kernel
theorem dJ9_min_7cf53_1 : decode cJ9_min_7cf53 1 = .ok (.iload_n 1, 1) := by decide +kernel
theorem dJ9_min_7cf53_2 : decode cJ9_min_7cf53 2 = .ok (.if_icmp .gt 7, 3) := by decide +kernel
theorem dJ9_min_7cf53_5 : decode cJ9_min_7cf53 5 = .ok (.iload_n 0, 1) := by decide +kernel
theorem dJ9_min_7cf53_6 : decode cJ9_min_7cf53 6 = .ok (.goto 4, 3) := by decide +kernel
theorem dJ9_min_7cf53_9 : decode cJ9_min_7cf53 9 = .ok (.iload_n 1, 1) := by decide +kernel
theorem dJ9_min_7cf53_10 : decode cJ9_min_7cf53 10 = .ok (.ireturn, 1) := by decide +kernel
theorem dJ0_init_81219_0 : decode cJ0_init_81219 0 = .ok (.aload_n 0, 1) := by decide +kernel
theorem dJ0_init_81219_1 : decode cJ0_init_81219 1 = .ok (.aload_n 1, 1) := by decide +kernel
theorem dJ0_init_81219_2 : decode cJ0_init_81219 2 = .ok (.aconst_null, 1) := by decide +kernel
theorem dJ0_init_81219_3 : decode cJ0_init_81219 3 = .ok (.invokespecial 489, 3) := by decide +kernel
theorem dJ0_init_81219_6 : decode cJ0_init_81219 6 = .ok (.return_, 1) := by decide +kernel
theorem dJ0_length_8abf5_0 : decode cJ0_length_8abf5 0 = .ok (.aload_n 0, 1) := by decide +kernel
theorem dJ0_length_8abf5_1 : decode cJ0_length_8abf5 1 = .ok (.getfield 9, 3) := by decide +kernel
theorem dJ0_length_8abf5_4 : decode cJ0_length_8abf5 4 = .ok (.arraylength, 1) := by decide +kernel
theorem dJ0_length_8abf5_5 : decode cJ0_length_8abf5 5 = .ok (.aload_n 0, 1) := by decide +kernel
theorem dJ0_length_8abf5_6 : decode cJ0_length_8abf5 6 = .ok (.invokevirtual 335, 3) := by decide +kernel
theorem dJ0_length_8abf5_9 : decode cJ0_length_8abf5 9 = .ok (.ishr, 1) := by decide +kernel
theorem dJ0_length_8abf5_10 : decode cJ0_length_8abf5 10 = .ok (.ireturn, 1) := by decide +kernel
theorem dJ0_charAt_5068e_0 : decode cJ0_charAt_5068e 0 = .ok (.aload_n 0, 1) := by decide +kernel
theorem dJ0_charAt_5068e_1 : decode cJ0_charAt_5068e 1 = .ok (.invokevirtual 492, 3) := by decide +kernel
theorem dJ0_charAt_5068e_4 : decode cJ0_charAt_5068e 4 = .ok (.ifCond .eq 12, 3) := by decide +kernel
theorem dJ0_charAt_5068e_7 : decode cJ0_charAt_5068e 7 = .ok (.aload_n 0, 1) := by decide +kernel
theorem dJ0_charAt_5068e_8 : decode cJ0_charAt_5068e 8 = .ok (.getfield 9, 3) := by decide +kernel
theorem dJ0_charAt_5068e_11 : decode cJ0_charAt_5068e 11 = .ok (.iload_n 1, 1) := by decide +kernel
theorem dJ0_charAt_5068e_12 : decode cJ0_charAt_5068e 12 = .ok (.invokestatic 495, 3) := by decide +kernel
theorem dJ0_charAt_5068e_15 : decode cJ0_charAt_5068e 15 = .ok (.ireturn, 1) := by decide +kernel
theorem dJ0_charAt_5068e_16 : decode cJ0_charAt_5068e 16 = .ok (.aload_n 0, 1) := by decide +kernel
theorem dJ0_charAt_5068e_17 : decode cJ0_charAt_5068e 17 = .ok (.getfield 9, 3) := by decide +kernel
theorem dJ0_charAt_5068e_20 : decode cJ0_charAt_5068e 20 = .ok (.iload_n 1, 1) := by decide +kernel
theorem dJ0_charAt_5068e_21 : decode cJ0_charAt_5068e 21 = .ok (.invokestatic 498, 3) := by decide +kernel
theorem dJ0_charAt_5068e_24 : decode cJ0_charAt_5068e 24 = .ok (.ireturn, 1) := by decide +kernel
theorem dJ0_getBytes_840e7_0 : decode cJ0_getBytes_840e7 0 = .ok (.aload_n 0, 1) := by decide +kernel
theorem dJ0_getBytes_840e7_1 : decode cJ0_getBytes_840e7 1 = .ok (.invokevirtual 335, 3) := by decide +kernel
theorem dJ0_getBytes_840e7_4 : decode cJ0_getBytes_840e7 4 = .ok (.iload_n 3, 1) := by decide +kernel
theorem dJ0_getBytes_840e7_5 : decode cJ0_getBytes_840e7 5 = .ok (.if_icmp .ne 23, 3) := by decide +kernel
theorem dJ0_getBytes_840e7_8 : decode cJ0_getBytes_840e7 8 = .ok (.aload_n 0, 1) := by decide +kernel
theorem dJ0_getBytes_840e7_9 : decode cJ0_getBytes_840e7 9 = .ok (.getfield 9, 3) := by decide +kernel
theorem dJ0_getBytes_840e7_12 : decode cJ0_getBytes_840e7 12 = .ok (.iconst 0, 1) := by decide +kernel
theorem dJ0_getBytes_840e7_13 : decode cJ0_getBytes_840e7 13 = .ok (.aload_n 1, 1) := by decide +kernel
theorem dJ0_getBytes_840e7_14 : decode cJ0_getBytes_840e7 14 = .ok (.iload_n 2, 1) := by decide +kernel
theorem dJ0_getBytes_840e7_15 : decode cJ0_getBytes_840e7 15 = .ok (.iload_n 3, 1) := by decide +kernel
theorem dJ0_getBytes_840e7_16 : decode cJ0_getBytes_840e7 16 = .ok (.ishl, 1) := by decide +kernel
theorem dJ0_getBytes_840e7_17 : decode cJ0_getBytes_840e7 17 = .ok (.aload_n 0, 1) := by decide +kernel
theorem dJ0_getBytes_840e7_18 : decode cJ0_getBytes_840e7 18 = .ok (.getfield 9, 3) := by decide +kernel
theorem dJ0_getBytes_840e7_21 : decode cJ0_getBytes_840e7 21 = .ok (.arraylength, 1) := by decide +kernel
theorem dJ0_getBytes_840e7_22 : decode cJ0_getBytes_840e7 22 = .ok (.invokestatic 212, 3) := by decide +kernel
theorem dJ0_getBytes_840e7_25 : decode cJ0_getBytes_840e7 25 = .ok (.goto 18, 3) := by decide +kernel
theorem dJ0_getBytes_840e7_28 : decode cJ0_getBytes_840e7 28 = .ok (.aload_n 0, 1) := by decide +kernel
theorem dJ0_getBytes_840e7_29 : decode cJ0_getBytes_840e7 29 = .ok (.getfield 9, 3) := by decide +kernel
theorem dJ0_getBytes_840e7_32 : decode cJ0_getBytes_840e7 32 = .ok (.iconst 0, 1) := by decide +kernel
theorem dJ0_getBytes_840e7_33 : decode cJ0_getBytes_840e7 33 = .ok (.aload_n 1, 1) := by decide +kernel
theorem dJ0_getBytes_840e7_34 : decode cJ0_getBytes_840e7 34 = .ok (.iload_n 2, 1) := by decide +kernel
theorem dJ0_getBytes_840e7_35 : decode cJ0_getBytes_840e7 35 = .ok (.aload_n 0, 1) := by decide +kernel
theorem dJ0_getBytes_840e7_36 : decode cJ0_getBytes_840e7 36 = .ok (.getfield 9, 3) := by decide +kernel
theorem dJ0_getBytes_840e7_39 : decode cJ0_getBytes_840e7 39 = .ok (.arraylength, 1) := by decide +kernel
theorem dJ0_getBytes_840e7_40 : decode cJ0_getBytes_840e7 40 = .ok (.invokestatic 106, 3) := by decide +kernel
theorem dJ0_getBytes_840e7_43 : decode cJ0_getBytes_840e7 43 = .ok (.return_, 1) := by decide +kernel
theorem dJ0_init_db425_0 : decode cJ0_init_db425 0 = .ok (.aload_n 0, 1) := by decide +kernel
theorem dJ0_init_db425_1 : decode cJ0_init_db425 1 = .ok (.invokespecial 1, 3) := by decide +kernel
theorem dJ0_init_db425_4 : decode cJ0_init_db425 4 = .ok (.aload_n 1, 1) := by decide +kernel
theorem dJ0_init_db425_5 : decode cJ0_init_db425 5 = .ok (.invokevirtual 552, 3) := by decide +kernel
theorem dJ0_init_db425_8 : decode cJ0_init_db425 8 = .ok (.astore_n 3, 1) := by decide +kernel
theorem dJ0_init_db425_9 : decode cJ0_init_db425 9 = .ok (.aload_n 1, 1) := by decide +kernel
theorem dJ0_init_db425_10 : decode cJ0_init_db425 10 = .ok (.invokevirtual 549, 3) := by decide +kernel
theorem dJ0_init_db425_13 : decode cJ0_init_db425 13 = .ok (.istore 4, 2) := by decide +kernel
theorem dJ0_init_db425_15 : decode cJ0_init_db425 15 = .ok (.aload_n 1, 1) := by decide +kernel
theorem dJ0_init_db425_16 : decode cJ0_init_db425 16 = .ok (.invokevirtual 1047, 3) := by decide +kernel
theorem dJ0_init_db425_19 : decode cJ0_init_db425 19 = .ok (.ifCond .eq 22, 3) := by decide +kernel
theorem dJ0_init_db425_22 : decode cJ0_init_db425 22 = .ok (.aload_n 0, 1) := by decide +kernel
theorem dJ0_init_db425_23 : decode cJ0_init_db425 23 = .ok (.iconst 0, 1) := by decide +kernel
theorem dJ0_init_db425_24 : decode cJ0_init_db425 24 = .ok (.putfield 15, 3) := by decide +kernel
theorem dJ0_init_db425_27 : decode cJ0_init_db425 27 = .ok (.aload_n 0, 1) := by decide +kernel
theorem dJ0_init_db425_28 : decode cJ0_init_db425 28 = .ok (.aload_n 3, 1) := by decide +kernel
theorem dJ0_init_db425_29 : decode cJ0_init_db425 29 = .ok (.iconst 0, 1) := by decide +kernel
theorem dJ0_init_db425_30 : decode cJ0_init_db425 30 = .ok (.iload 4, 2) := by decide +kernel
theorem dJ0_init_db425_32 : decode cJ0_init_db425 32 = .ok (.invokestatic 54, 3) := by decide +kernel
theorem dJ0_init_db425_35 : decode cJ0_init_db425 35 = .ok (.putfield 9, 3) := by decide +kernel
theorem dJ0_init_db425_38 : decode cJ0_init_db425 38 = .ok (.goto 59, 3) := by decide +kernel
theorem dJ0_init_db425_41 : decode cJ0_init_db425 41 = .ok (.getstatic 38, 3) := by decide +kernel
theorem dJ0_init_db425_44 : decode cJ0_init_db425 44 = .ok (.ifCond .eq 35, 3) := by decide +kernel
theorem dJ0_init_db425_47 : decode cJ0_init_db425 47 = .ok (.aload_n 1, 1) := by decide +kernel
theorem dJ0_init_db425_48 : decode cJ0_init_db425 48 = .ok (.getfield 1048, 3) := by decide +kernel
theorem dJ0_init_db425_51 : decode cJ0_init_db425 51 = .ok (.ifCond .eq 28, 3) := by decide +kernel
theorem dJ0_init_db425_54 : decode cJ0_init_db425 54 = .ok (.aload_n 0, 1) := by decide +kernel
theorem dJ0_init_db425_55 : decode cJ0_init_db425 55 = .ok (.aload_n 3, 1) := by decide +kernel
theorem dJ0_init_db425_56 : decode cJ0_init_db425 56 = .ok (.iconst 0, 1) := by decide +kernel
theorem dJ0_init_db425_57 : decode cJ0_init_db425 57 = .ok (.iload 4, 2) := by decide +kernel
theorem dJ0_init_db425_59 : decode cJ0_init_db425 59 = .ok (.invokestatic 1051, 3) := by decide +kernel
theorem dJ0_init_db425_62 : decode cJ0_init_db425 62 = .ok (.putfield 9, 3) := by decide +kernel
theorem dJ0_init_db425_65 : decode cJ0_init_db425 65 = .ok (.aload_n 0, 1) := by decide +kernel
theorem dJ0_init_db425_66 : decode cJ0_init_db425 66 = .ok (.aload_n 0, 1) := by decide +kernel
theorem dJ0_init_db425_67 : decode cJ0_init_db425 67 = .ok (.getfield 9, 3) := by decide +kernel
theorem dJ0_init_db425_70 : decode cJ0_init_db425 70 = .ok (.iload 4, 2) := by decide +kernel
theorem dJ0_init_db425_72 : decode cJ0_init_db425 72 = .ok (.invokestatic 47, 3) := by decide +kernel
theorem dJ0_init_db425_75 : decode cJ0_init_db425 75 = .ok (.putfield 15, 3) := by decide +kernel
theorem dJ0_init_db425_78 : decode cJ0_init_db425 78 = .ok (.return_, 1) := by decide +kernel
theorem dJ0_init_db425_79 : decode cJ0_init_db425 79 = .ok (.aload_n 0, 1) := by decide +kernel
theorem dJ0_init_db425_80 : decode cJ0_init_db425 80 = .ok (.iconst 1, 1) := by decide +kernel
theorem dJ0_init_db425_81 : decode cJ0_init_db425 81 = .ok (.putfield 15, 3) := by decide +kernel
theorem dJ0_init_db425_84 : decode cJ0_init_db425 84 = .ok (.aload_n 0, 1) := by decide +kernel
theorem dJ0_init_db425_85 : decode cJ0_init_db425 85 = .ok (.aload_n 3, 1) := by decide +kernel
theorem dJ0_init_db425_86 : decode cJ0_init_db425 86 = .ok (.iconst 0, 1) := by decide +kernel
theorem dJ0_init_db425_87 : decode cJ0_init_db425 87 = .ok (.iload 4, 2) := by decide +kernel
theorem dJ0_init_db425_89 : decode cJ0_init_db425 89 = .ok (.iconst 1, 1) := by decide +kernel
theorem dJ0_init_db425_90 : decode cJ0_init_db425 90 = .ok (.ishl, 1) := by decide +kernel
theorem dJ0_init_db425_91 : decode cJ0_init_db425 91 = .ok (.invokestatic 54, 3) := by decide +kernel
theorem dJ0_init_db425_94 : decode cJ0_init_db425 94 = .ok (.putfield 9, 3) := by decide +kernel
theorem dJ0_init_db425_97 : decode cJ0_init_db425 97 = .ok (.return_, 1) := by decide +kernel
theorem dJ0_coder_7d493_0 : decode cJ0_coder_7d493 0 = .ok (.getstatic 38, 3) := by decide +kernel
theorem dJ0_coder_7d493_3 : decode cJ0_coder_7d493 3 = .ok (.ifCond .eq 10, 3) := by decide +kernel
theorem dJ0_coder_7d493_6 : decode cJ0_coder_7d493 6 = .ok (.aload_n 0, 1) := by decide +kernel
theorem dJ0_coder_7d493_7 : decode cJ0_coder_7d493 7 = .ok (.getfield 15, 3) := by decide +kernel
theorem dJ0_coder_7d493_10 : decode cJ0_coder_7d493 10 = .ok (.goto 4, 3) := by decide +kernel
theorem dJ0_coder_7d493_13 : decode cJ0_coder_7d493 13 = .ok (.iconst 1, 1) := by decide +kernel
theorem dJ0_coder_7d493_14 : decode cJ0_coder_7d493 14 = .ok (.ireturn, 1) := by decide +kernel
theorem dJ0_isLatin1_aae02_0 : decode cJ0_isLatin1_aae02 0 = .ok (.getstatic 38, 3) := by decide +kernel
theorem dJ0_isLatin1_aae02_3 : decode cJ0_isLatin1_aae02 3 = .ok (.ifCond .eq 14, 3) := by decide +kernel
theorem dJ0_isLatin1_aae02_6 : decode cJ0_isLatin1_aae02 6 = .ok (.aload_n 0, 1) := by decide +kernel
theorem dJ0_isLatin1_aae02_7 : decode cJ0_isLatin1_aae02 7 = .ok (.getfield 15, 3) := by decide +kernel
theorem dJ0_isLatin1_aae02_10 : decode cJ0_isLatin1_aae02 10 = .ok (.ifCond .ne 7, 3) := by decide +kernel
theorem dJ0_isLatin1_aae02_13 : decode cJ0_isLatin1_aae02 13 = .ok (.iconst 1, 1) := by decide +kernel
theorem dJ0_isLatin1_aae02_14 : decode cJ0_isLatin1_aae02 14 = .ok (.goto 4, 3) := by decide +kernel
theorem dJ0_isLatin1_aae02_17 : decode cJ0_isLatin1_aae02 17 = .ok (.iconst 0, 1) := by decide +kernel
theorem dJ0_isLatin1_aae02_18 : decode cJ0_isLatin1_aae02 18 = .ok (.ireturn, 1) := by decide +kernel
theorem dJ0_checkIndex_df160_0 : decode cJ0_checkIndex_df160 0 = .ok (.iload_n 0, 1) := by decide +kernel
theorem dJ0_checkIndex_df160_1 : decode cJ0_checkIndex_df160 1 = .ok (.iload_n 1, 1) := by decide +kernel
theorem dJ0_checkIndex_df160_2 : decode cJ0_checkIndex_df160 2 = .ok (.getstatic 1053, 3) := by decide +kernel
theorem dJ0_checkIndex_df160_5 : decode cJ0_checkIndex_df160 5 = .ok (.invokestatic 1059, 3) := by decide +kernel
theorem dJ0_checkIndex_df160_8 : decode cJ0_checkIndex_df160 8 = .ok (.pop, 1) := by decide +kernel
theorem dJ0_checkIndex_df160_9 : decode cJ0_checkIndex_df160 9 = .ok (.return_, 1) := by decide +kernel
theorem dJ0_checkBoundsOffCount_cabcc_0 : decode cJ0_checkBoundsOffCount_cabcc 0 = .ok (.iload_n 0, 1) := by decide +kernel
theorem dJ0_checkBoundsOffCount_cabcc_1 : decode cJ0_checkBoundsOffCount_cabcc 1 = .ok (.iload_n 1, 1) := by decide +kernel
theorem dJ0_checkBoundsOffCount_cabcc_2 : decode cJ0_checkBoundsOffCount_cabcc 2 = .ok (.iload_n 2, 1) := by decide +kernel
theorem dJ0_checkBoundsOffCount_cabcc_3 : decode cJ0_checkBoundsOffCount_cabcc 3 = .ok (.getstatic 1053, 3) := by decide +kernel
theorem dJ0_checkBoundsOffCount_cabcc_6 : decode cJ0_checkBoundsOffCount_cabcc 6 = .ok (.invokestatic 1065, 3) := by decide +kernel
theorem dJ0_checkBoundsOffCount_cabcc_9 : decode cJ0_checkBoundsOffCount_cabcc 9 = .ok (.ireturn, 1) := by decide +kernel
theorem dJ0_checkBoundsBeginEnd_23922_0 : decode cJ0_checkBoundsBeginEnd_23922 0 = .ok (.iload_n 0, 1) := by decide +kernel
theorem dJ0_checkBoundsBeginEnd_23922_1 : decode cJ0_checkBoundsBeginEnd_23922 1 = .ok (.iload_n 1, 1) := by decide +kernel
theorem dJ0_checkBoundsBeginEnd_23922_2 : decode cJ0_checkBoundsBeginEnd_23922 2 = .ok (.iload_n 2, 1) := by decide +kernel
theorem dJ0_checkBoundsBeginEnd_23922_3 : decode cJ0_checkBoundsBeginEnd_23922 3 = .ok (.getstatic 1053, 3) := by decide +kernel
theorem dJ0_checkBoundsBeginEnd_23922_6 : decode cJ0_checkBoundsBeginEnd_23922 6 = .ok (.invokestatic 1062, 3) := by decide +kernel
theorem dJ0_checkBoundsBeginEnd_23922_9 : decode cJ0_checkBoundsBeginEnd_23922 9 = .ok (.pop, 1) := by decide +kernel
theorem dJ0_checkBoundsBeginEnd_23922_10 : decode cJ0_checkBoundsBeginEnd_23922 10 = .ok (.return_, 1) := by decide +kernel
theorem dJ4_init_da8c8_0 : decode cJ4_init_da8c8 0 = .ok (.aload_n 0, 1) := by decide +kernel
theorem dJ4_init_da8c8_1 : decode cJ4_init_da8c8 1 = .ok (.bipush 16, 2) := by decide +kernel
theorem dJ4_init_da8c8_3 : decode cJ4_init_da8c8 3 = .ok (.invokespecial 1, 3) := by decide +kernel
theorem dJ4_init_da8c8_6 : decode cJ4_init_da8c8 6 = .ok (.return_, 1) := by decide +kernel
theorem dJ4_append_15ec4_0 : decode cJ4_append_15ec4 0 = .ok (.aload_n 0, 1) := by decide +kernel
theorem dJ4_append_15ec4_1 : decode cJ4_append_15ec4 1 = .ok (.aload_n 1, 1) := by decide +kernel
theorem dJ4_append_15ec4_2 : decode cJ4_append_15ec4 2 = .ok (.invokespecial 29, 3) := by decide +kernel
theorem dJ4_append_15ec4_5 : decode cJ4_append_15ec4 5 = .ok (.pop, 1) := by decide +kernel
theorem dJ4_append_15ec4_6 : decode cJ4_append_15ec4 6 = .ok (.aload_n 0, 1) := by decide +kernel
theorem dJ4_append_15ec4_7 : decode cJ4_append_15ec4 7 = .ok (.areturn, 1) := by decide +kernel
theorem dJ4_append_cf468_0 : decode cJ4_append_cf468 0 = .ok (.aload_n 0, 1) := by decide +kernel
theorem dJ4_append_cf468_1 : decode cJ4_append_cf468 1 = .ok (.iload_n 1, 1) := by decide +kernel
theorem dJ4_append_cf468_2 : decode cJ4_append_cf468 2 = .ok (.invokespecial 50, 3) := by decide +kernel
theorem dJ4_append_cf468_5 : decode cJ4_append_cf468 5 = .ok (.pop, 1) := by decide +kernel
theorem dJ4_append_cf468_6 : decode cJ4_append_cf468 6 = .ok (.aload_n 0, 1) := by decide +kernel
theorem dJ4_append_cf468_7 : decode cJ4_append_cf468 7 = .ok (.areturn, 1) := by decide +kernel
theorem dJ4_append_bf812_0 : decode cJ4_append_bf812 0 = .ok (.aload_n 0, 1) := by decide +kernel
theorem dJ4_append_bf812_1 : decode cJ4_append_bf812 1 = .ok (.iload_n 1, 1) := by decide +kernel
theorem dJ4_append_bf812_2 : decode cJ4_append_bf812 2 = .ok (.invokespecial 53, 3) := by decide +kernel
theorem dJ4_append_bf812_5 : decode cJ4_append_bf812 5 = .ok (.pop, 1) := by decide +kernel
theorem dJ4_append_bf812_6 : decode cJ4_append_bf812 6 = .ok (.aload_n 0, 1) := by decide +kernel
theorem dJ4_append_bf812_7 : decode cJ4_append_bf812 7 = .ok (.areturn, 1) := by decide +kernel
theorem dJ4_toString_0e30d_0 : decode cJ4_toString_0e30d 0 = .ok (.new 18, 3) := by decide +kernel
theorem dJ4_toString_0e30d_3 : decode cJ4_toString_0e30d 3 = .ok (.dup, 1) := by decide +kernel
theorem dJ4_toString_0e30d_4 : decode cJ4_toString_0e30d 4 = .ok (.aload_n 0, 1) := by decide +kernel
theorem dJ4_toString_0e30d_5 : decode cJ4_toString_0e30d 5 = .ok (.invokespecial 137, 3) := by decide +kernel
theorem dJ4_toString_0e30d_8 : decode cJ4_toString_0e30d 8 = .ok (.areturn, 1) := by decide +kernel
theorem dJ4_length_8abf5_0 : decode cJ4_length_8abf5 0 = .ok (.aload_n 0, 1) := by decide +kernel
theorem dJ4_length_8abf5_1 : decode cJ4_length_8abf5 1 = .ok (.invokespecial 343, 3) := by decide +kernel
theorem dJ4_length_8abf5_4 : decode cJ4_length_8abf5 4 = .ok (.ireturn, 1) := by decide +kernel
theorem dJ1_charAt_3b067_0 : decode cJ1_charAt_3b067 0 = .ok (.iload_n 1, 1) := by decide +kernel
theorem dJ1_charAt_3b067_1 : decode cJ1_charAt_3b067 1 = .ok (.aload_n 0, 1) := by decide +kernel
theorem dJ1_charAt_3b067_2 : decode cJ1_charAt_3b067 2 = .ok (.arraylength, 1) := by decide +kernel
theorem dJ1_charAt_3b067_3 : decode cJ1_charAt_3b067 3 = .ok (.invokestatic 9, 3) := by decide +kernel
theorem dJ1_charAt_3b067_6 : decode cJ1_charAt_3b067 6 = .ok (.aload_n 0, 1) := by decide +kernel
theorem dJ1_charAt_3b067_7 : decode cJ1_charAt_3b067 7 = .ok (.iload_n 1, 1) := by decide +kernel
theorem dJ1_charAt_3b067_8 : decode cJ1_charAt_3b067 8 = .ok (.baload, 1) := by decide +kernel
theorem dJ1_charAt_3b067_9 : decode cJ1_charAt_3b067 9 = .ok (.sipush 255, 3) := by decide +kernel
theorem dJ1_charAt_3b067_12 : decode cJ1_charAt_3b067 12 = .ok (.iand, 1) := by decide +kernel
theorem dJ1_charAt_3b067_13 : decode cJ1_charAt_3b067 13 = .ok (.i2c, 1) := by decide +kernel
theorem dJ1_charAt_3b067_14 : decode cJ1_charAt_3b067 14 = .ok (.ireturn, 1) := by decide +kernel
theorem dJ1_canEncode_fc78d_0 : decode cJ1_canEncode_fc78d 0 = .ok (.iload_n 0, 1) := by decide +kernel
theorem dJ1_canEncode_fc78d_1 : decode cJ1_canEncode_fc78d 1 = .ok (.sipush 255, 3) := by decide +kernel
theorem dJ1_canEncode_fc78d_4 : decode cJ1_canEncode_fc78d 4 = .ok (.if_icmp .gt 7, 3) := by decide +kernel
theorem dJ1_canEncode_fc78d_7 : decode cJ1_canEncode_fc78d 7 = .ok (.iconst 1, 1) := by decide +kernel
theorem dJ1_canEncode_fc78d_8 : decode cJ1_canEncode_fc78d 8 = .ok (.goto 4, 3) := by decide +kernel
theorem dJ1_canEncode_fc78d_11 : decode cJ1_canEncode_fc78d 11 = .ok (.iconst 0, 1) := by decide +kernel
theorem dJ1_canEncode_fc78d_12 : decode cJ1_canEncode_fc78d 12 = .ok (.ireturn, 1) := by decide +kernel
theorem dJ1_inflate_0e8fd_0 : decode cJ1_inflate_0e8fd 0 = .ok (.aload_n 0, 1) := by decide +kernel
theorem dJ1_inflate_0e8fd_1 : decode cJ1_inflate_0e8fd 1 = .ok (.iload_n 1, 1) := by decide +kernel
theorem dJ1_inflate_0e8fd_2 : decode cJ1_inflate_0e8fd 2 = .ok (.aload_n 2, 1) := by decide +kernel
theorem dJ1_inflate_0e8fd_3 : decode cJ1_inflate_0e8fd 3 = .ok (.iload_n 3, 1) := by decide +kernel
theorem dJ1_inflate_0e8fd_4 : decode cJ1_inflate_0e8fd 4 = .ok (.iload 4, 2) := by decide +kernel
theorem dJ1_inflate_0e8fd_6 : decode cJ1_inflate_0e8fd 6 = .ok (.invokestatic 240, 3) := by decide +kernel
theorem dJ1_inflate_0e8fd_9 : decode cJ1_inflate_0e8fd 9 = .ok (.return_, 1) := by decide +kernel
theorem dJ2_newBytesFor_77867_0 : decode cJ2_newBytesFor_77867 0 = .ok (.iload_n 0, 1) := by decide +kernel
theorem dJ2_newBytesFor_77867_1 : decode cJ2_newBytesFor_77867 1 = .ok (.invokestatic 11, 3) := by decide +kernel
theorem dJ2_newBytesFor_77867_4 : decode cJ2_newBytesFor_77867 4 = .ok (.newarray .byte, 2) := by decide +kernel
theorem dJ2_newBytesFor_77867_6 : decode cJ2_newBytesFor_77867 6 = .ok (.areturn, 1) := by decide +kernel
theorem dJ2_newBytesLength_0f7a4_0 : decode cJ2_newBytesLength_0f7a4 0 = .ok (.iload_n 0, 1) := by decide +kernel
theorem dJ2_newBytesLength_0f7a4_1 : decode cJ2_newBytesLength_0f7a4 1 = .ok (.ifCond .ge 11, 3) := by decide +kernel
theorem dJ2_newBytesLength_0f7a4_4 : decode cJ2_newBytesLength_0f7a4 4 = .ok (.new 17, 3) := by decide +kernel
theorem dJ2_newBytesLength_0f7a4_7 : decode cJ2_newBytesLength_0f7a4 7 = .ok (.dup, 1) := by decide +kernel
theorem dJ2_newBytesLength_0f7a4_8 : decode cJ2_newBytesLength_0f7a4 8 = .ok (.invokespecial 19, 3) := by decide +kernel
theorem dJ2_newBytesLength_0f7a4_11 : decode cJ2_newBytesLength_0f7a4 11 = .ok (.athrow, 1) := by decide +kernel
theorem dJ2_newBytesLength_0f7a4_12 : decode cJ2_newBytesLength_0f7a4 12 = .ok (.iload_n 0, 1) := by decide +kernel
theorem dJ2_newBytesLength_0f7a4_13 : decode cJ2_newBytesLength_0f7a4 13 = .ok (.ldc 20, 2) := by decide +kernel
theorem dJ2_newBytesLength_0f7a4_15 : decode cJ2_newBytesLength_0f7a4 15 = .ok (.if_icmp .lt 40, 3) := by decide +kernel
theorem dJ2_newBytesLength_0f7a4_18 : decode cJ2_newBytesLength_0f7a4 18 = .ok (.new 21, 3) := by decide +kernel
theorem dJ2_newBytesLength_0f7a4_21 : decode cJ2_newBytesLength_0f7a4 21 = .ok (.dup, 1) := by decide +kernel
theorem dJ2_newBytesLength_0f7a4_22 : decode cJ2_newBytesLength_0f7a4 22 = .ok (.new 23, 3) := by decide +kernel
theorem dJ2_newBytesLength_0f7a4_25 : decode cJ2_newBytesLength_0f7a4 25 = .ok (.dup, 1) := by decide +kernel
theorem dJ2_newBytesLength_0f7a4_26 : decode cJ2_newBytesLength_0f7a4 26 = .ok (.invokespecial 25, 3) := by decide +kernel
theorem dJ2_newBytesLength_0f7a4_29 : decode cJ2_newBytesLength_0f7a4 29 = .ok (.ldc 26, 2) := by decide +kernel
theorem dJ2_newBytesLength_0f7a4_31 : decode cJ2_newBytesLength_0f7a4 31 = .ok (.invokevirtual 28, 3) := by decide +kernel
theorem dJ2_newBytesLength_0f7a4_34 : decode cJ2_newBytesLength_0f7a4 34 = .ok (.iload_n 0, 1) := by decide +kernel
theorem dJ2_newBytesLength_0f7a4_35 : decode cJ2_newBytesLength_0f7a4 35 = .ok (.invokevirtual 32, 3) := by decide +kernel
theorem dJ2_newBytesLength_0f7a4_38 : decode cJ2_newBytesLength_0f7a4 38 = .ok (.ldc 35, 2) := by decide +kernel
theorem dJ2_newBytesLength_0f7a4_40 : decode cJ2_newBytesLength_0f7a4 40 = .ok (.invokevirtual 28, 3) := by decide +kernel
theorem dJ2_newBytesLength_0f7a4_43 : decode cJ2_newBytesLength_0f7a4 43 = .ok (.ldc 20, 2) := by decide +kernel
theorem dJ2_newBytesLength_0f7a4_45 : decode cJ2_newBytesLength_0f7a4 45 = .ok (.invokevirtual 32, 3) := by decide +kernel
theorem dJ2_newBytesLength_0f7a4_48 : decode cJ2_newBytesLength_0f7a4 48 = .ok (.invokevirtual 37, 3) := by decide +kernel
theorem dJ2_newBytesLength_0f7a4_51 : decode cJ2_newBytesLength_0f7a4 51 = .ok (.invokespecial 41, 3) := by decide +kernel
theorem dJ2_newBytesLength_0f7a4_54 : decode cJ2_newBytesLength_0f7a4 54 = .ok (.athrow, 1) := by decide +kernel
theorem dJ2_newBytesLength_0f7a4_55 : decode cJ2_newBytesLength_0f7a4 55 = .ok (.iload_n 0, 1) := by decide +kernel
theorem dJ2_newBytesLength_0f7a4_56 : decode cJ2_newBytesLength_0f7a4 56 = .ok (.iconst 1, 1) := by decide +kernel
theorem dJ2_newBytesLength_0f7a4_57 : decode cJ2_newBytesLength_0f7a4 57 = .ok (.ishl, 1) := by decide +kernel
theorem dJ2_newBytesLength_0f7a4_58 : decode cJ2_newBytesLength_0f7a4 58 = .ok (.ireturn, 1) := by decide +kernel
theorem dJ2_putChar_b72d1_0 : decode cJ2_putChar_b72d1 0 = .ok (.getstatic 44, 3) := by decide +kernel
theorem dJ2_putChar_b72d1_3 : decode cJ2_putChar_b72d1 3 = .ok (.ifCond .ne 25, 3) := by decide +kernel
theorem dJ2_putChar_b72d1_6 : decode cJ2_putChar_b72d1 6 = .ok (.iload_n 1, 1) := by decide +kernel
theorem dJ2_putChar_b72d1_7 : decode cJ2_putChar_b72d1 7 = .ok (.ifCond .lt 11, 3) := by decide +kernel
theorem dJ2_putChar_b72d1_10 : decode cJ2_putChar_b72d1 10 = .ok (.iload_n 1, 1) := by decide +kernel
theorem dJ2_putChar_b72d1_11 : decode cJ2_putChar_b72d1 11 = .ok (.aload_n 0, 1) := by decide +kernel
theorem dJ2_putChar_b72d1_12 : decode cJ2_putChar_b72d1 12 = .ok (.invokestatic 48, 3) := by decide +kernel
theorem dJ2_putChar_b72d1_15 : decode cJ2_putChar_b72d1 15 = .ok (.if_icmp .lt 13, 3) := by decide +kernel
theorem dJ2_putChar_b72d1_18 : decode cJ2_putChar_b72d1 18 = .ok (.new 52, 3) := by decide +kernel
theorem dJ2_putChar_b72d1_21 : decode cJ2_putChar_b72d1 21 = .ok (.dup, 1) := by decide +kernel
theorem dJ2_putChar_b72d1_22 : decode cJ2_putChar_b72d1 22 = .ok (.ldc 54, 2) := by decide +kernel
theorem dJ2_putChar_b72d1_24 : decode cJ2_putChar_b72d1 24 = .ok (.invokespecial 56, 3) := by decide +kernel
theorem dJ2_putChar_b72d1_27 : decode cJ2_putChar_b72d1 27 = .ok (.athrow, 1) := by decide +kernel
theorem dJ2_putChar_b72d1_28 : decode cJ2_putChar_b72d1 28 = .ok (.iload_n 1, 1) := by decide +kernel
theorem dJ2_putChar_b72d1_29 : decode cJ2_putChar_b72d1 29 = .ok (.iconst 1, 1) := by decide +kernel
theorem dJ2_putChar_b72d1_30 : decode cJ2_putChar_b72d1 30 = .ok (.ishl, 1) := by decide +kernel
theorem dJ2_putChar_b72d1_31 : decode cJ2_putChar_b72d1 31 = .ok (.istore_n 1, 1) := by decide +kernel
theorem dJ2_putChar_b72d1_32 : decode cJ2_putChar_b72d1 32 = .ok (.aload_n 0, 1) := by decide +kernel
theorem dJ2_putChar_b72d1_33 : decode cJ2_putChar_b72d1 33 = .ok (.iload_n 1, 1) := by decide +kernel
theorem dJ2_putChar_b72d1_34 : decode cJ2_putChar_b72d1 34 = .ok (.iinc 1 1, 3) := by decide +kernel
theorem dJ2_putChar_b72d1_37 : decode cJ2_putChar_b72d1 37 = .ok (.iload_n 2, 1) := by decide +kernel
theorem dJ2_putChar_b72d1_38 : decode cJ2_putChar_b72d1 38 = .ok (.getstatic 59, 3) := by decide +kernel
theorem dJ2_putChar_b72d1_41 : decode cJ2_putChar_b72d1 41 = .ok (.ishr, 1) := by decide +kernel
theorem dJ2_putChar_b72d1_42 : decode cJ2_putChar_b72d1 42 = .ok (.i2b, 1) := by decide +kernel
theorem dJ2_putChar_b72d1_43 : decode cJ2_putChar_b72d1 43 = .ok (.bastore, 1) := by decide +kernel
theorem dJ2_putChar_b72d1_44 : decode cJ2_putChar_b72d1 44 = .ok (.aload_n 0, 1) := by decide +kernel
theorem dJ2_putChar_b72d1_45 : decode cJ2_putChar_b72d1 45 = .ok (.iload_n 1, 1) := by decide +kernel
theorem dJ2_putChar_b72d1_46 : decode cJ2_putChar_b72d1 46 = .ok (.iload_n 2, 1) := by decide +kernel
theorem dJ2_putChar_b72d1_47 : decode cJ2_putChar_b72d1 47 = .ok (.getstatic 63, 3) := by decide +kernel
theorem dJ2_putChar_b72d1_50 : decode cJ2_putChar_b72d1 50 = .ok (.ishr, 1) := by decide +kernel
theorem dJ2_putChar_b72d1_51 : decode cJ2_putChar_b72d1 51 = .ok (.i2b, 1) := by decide +kernel
theorem dJ2_putChar_b72d1_52 : decode cJ2_putChar_b72d1 52 = .ok (.bastore, 1) := by decide +kernel
theorem dJ2_putChar_b72d1_53 : decode cJ2_putChar_b72d1 53 = .ok (.return_, 1) := by decide +kernel
theorem dJ2_getChar_3b067_0 : decode cJ2_getChar_3b067 0 = .ok (.getstatic 44, 3) := by decide +kernel
theorem dJ2_getChar_3b067_3 : decode cJ2_getChar_3b067 3 = .ok (.ifCond .ne 25, 3) := by decide +kernel
theorem dJ2_getChar_3b067_6 : decode cJ2_getChar_3b067 6 = .ok (.iload_n 1, 1) := by decide +kernel
theorem dJ2_getChar_3b067_7 : decode cJ2_getChar_3b067 7 = .ok (.ifCond .lt 11, 3) := by decide +kernel
theorem dJ2_getChar_3b067_10 : decode cJ2_getChar_3b067 10 = .ok (.iload_n 1, 1) := by decide +kernel
theorem dJ2_getChar_3b067_11 : decode cJ2_getChar_3b067 11 = .ok (.aload_n 0, 1) := by decide +kernel
theorem dJ2_getChar_3b067_12 : decode cJ2_getChar_3b067 12 = .ok (.invokestatic 48, 3) := by decide +kernel
theorem dJ2_getChar_3b067_15 : decode cJ2_getChar_3b067 15 = .ok (.if_icmp .lt 13, 3) := by decide +kernel
theorem dJ2_getChar_3b067_18 : decode cJ2_getChar_3b067 18 = .ok (.new 52, 3) := by decide +kernel
theorem dJ2_getChar_3b067_21 : decode cJ2_getChar_3b067 21 = .ok (.dup, 1) := by decide +kernel
theorem dJ2_getChar_3b067_22 : decode cJ2_getChar_3b067 22 = .ok (.ldc 54, 2) := by decide +kernel
theorem dJ2_getChar_3b067_24 : decode cJ2_getChar_3b067 24 = .ok (.invokespecial 56, 3) := by decide +kernel
theorem dJ2_getChar_3b067_27 : decode cJ2_getChar_3b067 27 = .ok (.athrow, 1) := by decide +kernel
theorem dJ2_getChar_3b067_28 : decode cJ2_getChar_3b067 28 = .ok (.iload_n 1, 1) := by decide +kernel
theorem dJ2_getChar_3b067_29 : decode cJ2_getChar_3b067 29 = .ok (.iconst 1, 1) := by decide +kernel
theorem dJ2_getChar_3b067_30 : decode cJ2_getChar_3b067 30 = .ok (.ishl, 1) := by decide +kernel
theorem dJ2_getChar_3b067_31 : decode cJ2_getChar_3b067 31 = .ok (.istore_n 1, 1) := by decide +kernel
theorem dJ2_getChar_3b067_32 : decode cJ2_getChar_3b067 32 = .ok (.aload_n 0, 1) := by decide +kernel
theorem dJ2_getChar_3b067_33 : decode cJ2_getChar_3b067 33 = .ok (.iload_n 1, 1) := by decide +kernel
theorem dJ2_getChar_3b067_34 : decode cJ2_getChar_3b067 34 = .ok (.iinc 1 1, 3) := by decide +kernel
theorem dJ2_getChar_3b067_37 : decode cJ2_getChar_3b067 37 = .ok (.baload, 1) := by decide +kernel
theorem dJ2_getChar_3b067_38 : decode cJ2_getChar_3b067 38 = .ok (.sipush 255, 3) := by decide +kernel
theorem dJ2_getChar_3b067_41 : decode cJ2_getChar_3b067 41 = .ok (.iand, 1) := by decide +kernel
theorem dJ2_getChar_3b067_42 : decode cJ2_getChar_3b067 42 = .ok (.getstatic 59, 3) := by decide +kernel
theorem dJ2_getChar_3b067_45 : decode cJ2_getChar_3b067 45 = .ok (.ishl, 1) := by decide +kernel
theorem dJ2_getChar_3b067_46 : decode cJ2_getChar_3b067 46 = .ok (.aload_n 0, 1) := by decide +kernel
theorem dJ2_getChar_3b067_47 : decode cJ2_getChar_3b067 47 = .ok (.iload_n 1, 1) := by decide +kernel
theorem dJ2_getChar_3b067_48 : decode cJ2_getChar_3b067 48 = .ok (.baload, 1) := by decide +kernel
theorem dJ2_getChar_3b067_49 : decode cJ2_getChar_3b067 49 = .ok (.sipush 255, 3) := by decide +kernel
theorem dJ2_getChar_3b067_52 : decode cJ2_getChar_3b067 52 = .ok (.iand, 1) := by decide +kernel
theorem dJ2_getChar_3b067_53 : decode cJ2_getChar_3b067 53 = .ok (.getstatic 63, 3) := by decide +kernel
theorem dJ2_getChar_3b067_56 : decode cJ2_getChar_3b067 56 = .ok (.ishl, 1) := by decide +kernel
theorem dJ2_getChar_3b067_57 : decode cJ2_getChar_3b067 57 = .ok (.ior, 1) := by decide +kernel
theorem dJ2_getChar_3b067_58 : decode cJ2_getChar_3b067 58 = .ok (.i2c, 1) := by decide +kernel
theorem dJ2_getChar_3b067_59 : decode cJ2_getChar_3b067 59 = .ok (.ireturn, 1) := by decide +kernel
theorem dJ2_length_9d52b_0 : decode cJ2_length_9d52b 0 = .ok (.aload_n 0, 1) := by decide +kernel
theorem dJ2_length_9d52b_1 : decode cJ2_length_9d52b 1 = .ok (.arraylength, 1) := by decide +kernel
theorem dJ2_length_9d52b_2 : decode cJ2_length_9d52b 2 = .ok (.iconst 1, 1) := by decide +kernel
theorem dJ2_length_9d52b_3 : decode cJ2_length_9d52b 3 = .ok (.ishr, 1) := by decide +kernel
theorem dJ2_length_9d52b_4 : decode cJ2_length_9d52b 4 = .ok (.ireturn, 1) := by decide +kernel
theorem dJ2_coderFromArrayLen_85cad_0 : decode cJ2_coderFromArrayLen_85cad 0 = .ok (.iload_n 1, 1) := by decide +kernel
theorem dJ2_coderFromArrayLen_85cad_1 : decode cJ2_coderFromArrayLen_85cad 1 = .ok (.aload_n 0, 1) := by decide +kernel
theorem dJ2_coderFromArrayLen_85cad_2 : decode cJ2_coderFromArrayLen_85cad 2 = .ok (.arraylength, 1) := by decide +kernel
theorem dJ2_coderFromArrayLen_85cad_3 : decode cJ2_coderFromArrayLen_85cad 3 = .ok (.isub, 1) := by decide +kernel
theorem dJ2_coderFromArrayLen_85cad_4 : decode cJ2_coderFromArrayLen_85cad 4 = .ok (.bipush 31, 2) := by decide +kernel
theorem dJ2_coderFromArrayLen_85cad_6 : decode cJ2_coderFromArrayLen_85cad 6 = .ok (.iushr, 1) := by decide +kernel
theorem dJ2_coderFromArrayLen_85cad_7 : decode cJ2_coderFromArrayLen_85cad 7 = .ok (.i2b, 1) := by decide +kernel
theorem dJ2_coderFromArrayLen_85cad_8 : decode cJ2_coderFromArrayLen_85cad 8 = .ok (.ireturn, 1) := by decide +kernel
theorem dJ2_compress_39247_0 : decode cJ2_compress_39247 0 = .ok (.iload_n 2, 1) := by decide +kernel
theorem dJ2_compress_39247_1 : decode cJ2_compress_39247 1 = .ok (.newarray .byte, 2) := by decide +kernel
theorem dJ2_compress_39247_3 : decode cJ2_compress_39247 3 = .ok (.astore_n 3, 1) := by decide +kernel
theorem dJ2_compress_39247_4 : decode cJ2_compress_39247 4 = .ok (.aload_n 0, 1) := by decide +kernel
theorem dJ2_compress_39247_5 : decode cJ2_compress_39247 5 = .ok (.iload_n 1, 1) := by decide +kernel
theorem dJ2_compress_39247_6 : decode cJ2_compress_39247 6 = .ok (.aload_n 3, 1) := by decide +kernel
theorem dJ2_compress_39247_7 : decode cJ2_compress_39247 7 = .ok (.iconst 0, 1) := by decide +kernel
theorem dJ2_compress_39247_8 : decode cJ2_compress_39247 8 = .ok (.iload_n 2, 1) := by decide +kernel
theorem dJ2_compress_39247_9 : decode cJ2_compress_39247 9 = .ok (.invokestatic 123, 3) := by decide +kernel
theorem dJ2_compress_39247_12 : decode cJ2_compress_39247 12 = .ok (.istore 4, 2) := by decide +kernel
theorem dJ2_compress_39247_14 : decode cJ2_compress_39247 14 = .ok (.iload 4, 2) := by decide +kernel
theorem dJ2_compress_39247_16 : decode cJ2_compress_39247 16 = .ok (.iload_n 2, 1) := by decide +kernel
theorem dJ2_compress_39247_17 : decode cJ2_compress_39247 17 = .ok (.if_icmp .eq 47, 3) := by decide +kernel
theorem dJ2_compress_39247_20 : decode cJ2_compress_39247 20 = .ok (.aload_n 0, 1) := by decide +kernel
theorem dJ2_compress_39247_21 : decode cJ2_compress_39247 21 = .ok (.iload_n 1, 1) := by decide +kernel
theorem dJ2_compress_39247_22 : decode cJ2_compress_39247 22 = .ok (.iconst 1, 1) := by decide +kernel
theorem dJ2_compress_39247_23 : decode cJ2_compress_39247 23 = .ok (.ishl, 1) := by decide +kernel
theorem dJ2_compress_39247_24 : decode cJ2_compress_39247 24 = .ok (.iload_n 1, 1) := by decide +kernel
theorem dJ2_compress_39247_25 : decode cJ2_compress_39247 25 = .ok (.iload_n 2, 1) := by decide +kernel
theorem dJ2_compress_39247_26 : decode cJ2_compress_39247 26 = .ok (.iadd, 1) := by decide +kernel
theorem dJ2_compress_39247_27 : decode cJ2_compress_39247 27 = .ok (.invokestatic 11, 3) := by decide +kernel
theorem dJ2_compress_39247_30 : decode cJ2_compress_39247 30 = .ok (.invokestatic 126, 3) := by decide +kernel
theorem dJ2_compress_39247_33 : decode cJ2_compress_39247 33 = .ok (.astore 5, 2) := by decide +kernel
theorem dJ2_compress_39247_35 : decode cJ2_compress_39247 35 = .ok (.aload 5, 2) := by decide +kernel
theorem dJ2_compress_39247_37 : decode cJ2_compress_39247 37 = .ok (.iload 4, 2) := by decide +kernel
theorem dJ2_compress_39247_39 : decode cJ2_compress_39247 39 = .ok (.invokestatic 71, 3) := by decide +kernel
theorem dJ2_compress_39247_42 : decode cJ2_compress_39247 42 = .ok (.sipush 255, 3) := by decide +kernel
theorem dJ2_compress_39247_45 : decode cJ2_compress_39247 45 = .ok (.if_icmp .gt 16, 3) := by decide +kernel
theorem dJ2_compress_39247_48 : decode cJ2_compress_39247 48 = .ok (.aload 5, 2) := by decide +kernel
theorem dJ2_compress_39247_50 : decode cJ2_compress_39247 50 = .ok (.iconst 0, 1) := by decide +kernel
theorem dJ2_compress_39247_51 : decode cJ2_compress_39247 51 = .ok (.aload_n 3, 1) := by decide +kernel
theorem dJ2_compress_39247_52 : decode cJ2_compress_39247 52 = .ok (.iconst 0, 1) := by decide +kernel
theorem dJ2_compress_39247_53 : decode cJ2_compress_39247 53 = .ok (.iload_n 2, 1) := by decide +kernel
theorem dJ2_compress_39247_54 : decode cJ2_compress_39247 54 = .ok (.invokestatic 123, 3) := by decide +kernel
theorem dJ2_compress_39247_57 : decode cJ2_compress_39247 57 = .ok (.iload_n 2, 1) := by decide +kernel
theorem dJ2_compress_39247_58 : decode cJ2_compress_39247 58 = .ok (.if_icmp .eq 6, 3) := by decide +kernel
theorem dJ2_compress_39247_61 : decode cJ2_compress_39247 61 = .ok (.aload 5, 2) := by decide +kernel
theorem dJ2_compress_39247_63 : decode cJ2_compress_39247 63 = .ok (.areturn, 1) := by decide +kernel
theorem dJ2_compress_39247_64 : decode cJ2_compress_39247 64 = .ok (.aload_n 3, 1) := by decide +kernel
theorem dJ2_compress_39247_65 : decode cJ2_compress_39247 65 = .ok (.areturn, 1) := by decide +kernel
theorem dJ2_compress_5af95_0 : decode cJ2_compress_5af95 0 = .ok (.iload_n 1, 1) := by decide +kernel
theorem dJ2_compress_5af95_1 : decode cJ2_compress_5af95 1 = .ok (.iload 4, 2) := by decide +kernel
theorem dJ2_compress_5af95_3 : decode cJ2_compress_5af95 3 = .ok (.aload_n 0, 1) := by decide +kernel
theorem dJ2_compress_5af95_4 : decode cJ2_compress_5af95 4 = .ok (.invokestatic 173, 3) := by decide +kernel
theorem dJ2_compress_5af95_7 : decode cJ2_compress_5af95 7 = .ok (.iconst 0, 1) := by decide +kernel
theorem dJ2_compress_5af95_8 : decode cJ2_compress_5af95 8 = .ok (.istore 5, 2) := by decide +kernel
theorem dJ2_compress_5af95_10 : decode cJ2_compress_5af95 10 = .ok (.iload 5, 2) := by decide +kernel
theorem dJ2_compress_5af95_12 : decode cJ2_compress_5af95 12 = .ok (.iload 4, 2) := by decide +kernel
theorem dJ2_compress_5af95_14 : decode cJ2_compress_5af95 14 = .ok (.if_icmp .ge 39, 3) := by decide +kernel
theorem dJ2_compress_5af95_17 : decode cJ2_compress_5af95 17 = .ok (.aload_n 0, 1) := by decide +kernel
theorem dJ2_compress_5af95_18 : decode cJ2_compress_5af95 18 = .ok (.iload_n 1, 1) := by decide +kernel
theorem dJ2_compress_5af95_19 : decode cJ2_compress_5af95 19 = .ok (.invokestatic 71, 3) := by decide +kernel
theorem dJ2_compress_5af95_22 : decode cJ2_compress_5af95 22 = .ok (.istore 6, 2) := by decide +kernel
theorem dJ2_compress_5af95_24 : decode cJ2_compress_5af95 24 = .ok (.iload 6, 2) := by decide +kernel
theorem dJ2_compress_5af95_26 : decode cJ2_compress_5af95 26 = .ok (.sipush 255, 3) := by decide +kernel
theorem dJ2_compress_5af95_29 : decode cJ2_compress_5af95 29 = .ok (.if_icmp .le 6, 3) := by decide +kernel
theorem dJ2_compress_5af95_32 : decode cJ2_compress_5af95 32 = .ok (.iload 5, 2) := by decide +kernel
theorem dJ2_compress_5af95_34 : decode cJ2_compress_5af95 34 = .ok (.ireturn, 1) := by decide +kernel
theorem dJ2_compress_5af95_35 : decode cJ2_compress_5af95 35 = .ok (.aload_n 2, 1) := by decide +kernel
theorem dJ2_compress_5af95_36 : decode cJ2_compress_5af95 36 = .ok (.iload_n 3, 1) := by decide +kernel
theorem dJ2_compress_5af95_37 : decode cJ2_compress_5af95 37 = .ok (.iload 6, 2) := by decide +kernel
theorem dJ2_compress_5af95_39 : decode cJ2_compress_5af95 39 = .ok (.i2b, 1) := by decide +kernel
theorem dJ2_compress_5af95_40 : decode cJ2_compress_5af95 40 = .ok (.bastore, 1) := by decide +kernel
theorem dJ2_compress_5af95_41 : decode cJ2_compress_5af95 41 = .ok (.iinc 1 1, 3) := by decide +kernel
theorem dJ2_compress_5af95_44 : decode cJ2_compress_5af95 44 = .ok (.iinc 3 1, 3) := by decide +kernel
theorem dJ2_compress_5af95_47 : decode cJ2_compress_5af95 47 = .ok (.iinc 5 1, 3) := by decide +kernel
theorem dJ2_compress_5af95_50 : decode cJ2_compress_5af95 50 = .ok (.goto (-40), 3) := by decide +kernel
theorem dJ2_compress_5af95_53 : decode cJ2_compress_5af95 53 = .ok (.iload 4, 2) := by decide +kernel
theorem dJ2_compress_5af95_55 : decode cJ2_compress_5af95 55 = .ok (.ireturn, 1) := by decide +kernel
theorem dJ2_putCharSB_b72d1_0 : decode cJ2_putCharSB_b72d1 0 = .ok (.iload_n 1, 1) := by decide +kernel
theorem dJ2_putCharSB_b72d1_1 : decode cJ2_putCharSB_b72d1 1 = .ok (.aload_n 0, 1) := by decide +kernel
theorem dJ2_putCharSB_b72d1_2 : decode cJ2_putCharSB_b72d1 2 = .ok (.invokestatic 67, 3) := by decide +kernel
theorem dJ2_putCharSB_b72d1_5 : decode cJ2_putCharSB_b72d1 5 = .ok (.aload_n 0, 1) := by decide +kernel
theorem dJ2_putCharSB_b72d1_6 : decode cJ2_putCharSB_b72d1 6 = .ok (.iload_n 1, 1) := by decide +kernel
theorem dJ2_putCharSB_b72d1_7 : decode cJ2_putCharSB_b72d1 7 = .ok (.iload_n 2, 1) := by decide +kernel
theorem dJ2_putCharSB_b72d1_8 : decode cJ2_putCharSB_b72d1 8 = .ok (.invokestatic 111, 3) := by decide +kernel
theorem dJ2_putCharSB_b72d1_11 : decode cJ2_putCharSB_b72d1 11 = .ok (.return_, 1) := by decide +kernel
theorem dJ2_getChars_46870_0 : decode cJ2_getChars_46870 0 = .ok (.iload_n 1, 1) := by decide +kernel
theorem dJ2_getChars_46870_1 : decode cJ2_getChars_46870 1 = .ok (.iload_n 2, 1) := by decide +kernel
theorem dJ2_getChars_46870_2 : decode cJ2_getChars_46870 2 = .ok (.aload_n 3, 1) := by decide +kernel
theorem dJ2_getChars_46870_3 : decode cJ2_getChars_46870 3 = .ok (.invokestatic 96, 3) := by decide +kernel
theorem dJ2_getChars_46870_6 : decode cJ2_getChars_46870 6 = .ok (.iload_n 0, 1) := by decide +kernel
theorem dJ2_getChars_46870_7 : decode cJ2_getChars_46870 7 = .ok (.iload_n 2, 1) := by decide +kernel
theorem dJ2_getChars_46870_8 : decode cJ2_getChars_46870 8 = .ok (.aload_n 3, 1) := by decide +kernel
theorem dJ2_getChars_46870_9 : decode cJ2_getChars_46870 9 = .ok (.invokestatic 393, 3) := by decide +kernel
theorem dJ2_getChars_46870_12 : decode cJ2_getChars_46870 12 = .ok (.istore 4, 2) := by decide +kernel
theorem dJ2_getChars_46870_14 : decode cJ2_getChars_46870 14 = .ok (.getstatic 44, 3) := by decide +kernel
theorem dJ2_getChars_46870_17 : decode cJ2_getChars_46870 17 = .ok (.ifCond .ne 17, 3) := by decide +kernel
theorem dJ2_getChars_46870_20 : decode cJ2_getChars_46870 20 = .ok (.iload_n 1, 1) := by decide +kernel
theorem dJ2_getChars_46870_21 : decode cJ2_getChars_46870 21 = .ok (.iload 4, 2) := by decide +kernel
theorem dJ2_getChars_46870_23 : decode cJ2_getChars_46870 23 = .ok (.if_icmp .eq 11, 3) := by decide +kernel
theorem dJ2_getChars_46870_26 : decode cJ2_getChars_46870 26 = .ok (.new 52, 3) := by decide +kernel
theorem dJ2_getChars_46870_29 : decode cJ2_getChars_46870 29 = .ok (.dup, 1) := by decide +kernel
theorem dJ2_getChars_46870_30 : decode cJ2_getChars_46870 30 = .ok (.invokespecial 66, 3) := by decide +kernel
theorem dJ2_getChars_46870_33 : decode cJ2_getChars_46870 33 = .ok (.athrow, 1) := by decide +kernel
theorem dJ2_getChars_46870_34 : decode cJ2_getChars_46870 34 = .ok (.iload 4, 2) := by decide +kernel
theorem dJ2_getChars_46870_36 : decode cJ2_getChars_46870 36 = .ok (.ireturn, 1) := by decide +kernel
theorem dJ2_putCharsAt_cd4e5_0 : decode cJ2_putCharsAt_cd4e5 0 = .ok (.iload_n 1, 1) := by decide +kernel
theorem dJ2_putCharsAt_cd4e5_1 : decode cJ2_putCharsAt_cd4e5 1 = .ok (.iconst 4, 1) := by decide +kernel
theorem dJ2_putCharsAt_cd4e5_2 : decode cJ2_putCharsAt_cd4e5 2 = .ok (.iadd, 1) := by decide +kernel
theorem dJ2_putCharsAt_cd4e5_3 : decode cJ2_putCharsAt_cd4e5 3 = .ok (.istore 6, 2) := by decide +kernel
theorem dJ2_putCharsAt_cd4e5_5 : decode cJ2_putCharsAt_cd4e5 5 = .ok (.iload_n 1, 1) := by decide +kernel
theorem dJ2_putCharsAt_cd4e5_6 : decode cJ2_putCharsAt_cd4e5 6 = .ok (.iload 6, 2) := by decide +kernel
theorem dJ2_putCharsAt_cd4e5_8 : decode cJ2_putCharsAt_cd4e5 8 = .ok (.aload_n 0, 1) := by decide +kernel
theorem dJ2_putCharsAt_cd4e5_9 : decode cJ2_putCharsAt_cd4e5 9 = .ok (.invokestatic 96, 3) := by decide +kernel
theorem dJ2_putCharsAt_cd4e5_12 : decode cJ2_putCharsAt_cd4e5 12 = .ok (.aload_n 0, 1) := by decide +kernel
theorem dJ2_putCharsAt_cd4e5_13 : decode cJ2_putCharsAt_cd4e5 13 = .ok (.iload_n 1, 1) := by decide +kernel
theorem dJ2_putCharsAt_cd4e5_14 : decode cJ2_putCharsAt_cd4e5 14 = .ok (.iinc 1 1, 3) := by decide +kernel
theorem dJ2_putCharsAt_cd4e5_17 : decode cJ2_putCharsAt_cd4e5 17 = .ok (.iload_n 2, 1) := by decide +kernel
theorem dJ2_putCharsAt_cd4e5_18 : decode cJ2_putCharsAt_cd4e5 18 = .ok (.invokestatic 111, 3) := by decide +kernel
theorem dJ2_putCharsAt_cd4e5_21 : decode cJ2_putCharsAt_cd4e5 21 = .ok (.aload_n 0, 1) := by decide +kernel
theorem dJ2_putCharsAt_cd4e5_22 : decode cJ2_putCharsAt_cd4e5 22 = .ok (.iload_n 1, 1) := by decide +kernel
theorem dJ2_putCharsAt_cd4e5_23 : decode cJ2_putCharsAt_cd4e5 23 = .ok (.iinc 1 1, 3) := by decide +kernel
theorem dJ2_putCharsAt_cd4e5_26 : decode cJ2_putCharsAt_cd4e5 26 = .ok (.iload_n 3, 1) := by decide +kernel
theorem dJ2_putCharsAt_cd4e5_27 : decode cJ2_putCharsAt_cd4e5 27 = .ok (.invokestatic 111, 3) := by decide +kernel
theorem dJ2_putCharsAt_cd4e5_30 : decode cJ2_putCharsAt_cd4e5 30 = .ok (.aload_n 0, 1) := by decide +kernel
theorem dJ2_putCharsAt_cd4e5_31 : decode cJ2_putCharsAt_cd4e5 31 = .ok (.iload_n 1, 1) := by decide +kernel
theorem dJ2_putCharsAt_cd4e5_32 : decode cJ2_putCharsAt_cd4e5 32 = .ok (.iinc 1 1, 3) := by decide +kernel
theorem dJ2_putCharsAt_cd4e5_35 : decode cJ2_putCharsAt_cd4e5 35 = .ok (.iload 4, 2) := by decide +kernel
theorem dJ2_putCharsAt_cd4e5_37 : decode cJ2_putCharsAt_cd4e5 37 = .ok (.invokestatic 111, 3) := by decide +kernel
theorem dJ2_putCharsAt_cd4e5_40 : decode cJ2_putCharsAt_cd4e5 40 = .ok (.aload_n 0, 1) := by decide +kernel
theorem dJ2_putCharsAt_cd4e5_41 : decode cJ2_putCharsAt_cd4e5 41 = .ok (.iload_n 1, 1) := by decide +kernel
theorem dJ2_putCharsAt_cd4e5_42 : decode cJ2_putCharsAt_cd4e5 42 = .ok (.iinc 1 1, 3) := by decide +kernel
theorem dJ2_putCharsAt_cd4e5_45 : decode cJ2_putCharsAt_cd4e5 45 = .ok (.iload 5, 2) := by decide +kernel
theorem dJ2_putCharsAt_cd4e5_47 : decode cJ2_putCharsAt_cd4e5 47 = .ok (.invokestatic 111, 3) := by decide +kernel
theorem dJ2_putCharsAt_cd4e5_50 : decode cJ2_putCharsAt_cd4e5 50 = .ok (.getstatic 44, 3) := by decide +kernel
theorem dJ2_putCharsAt_cd4e5_53 : decode cJ2_putCharsAt_cd4e5 53 = .ok (.ifCond .ne 17, 3) := by decide +kernel
theorem dJ2_putCharsAt_cd4e5_56 : decode cJ2_putCharsAt_cd4e5 56 = .ok (.iload_n 1, 1) := by decide +kernel
theorem dJ2_putCharsAt_cd4e5_57 : decode cJ2_putCharsAt_cd4e5 57 = .ok (.iload 6, 2) := by decide +kernel
theorem dJ2_putCharsAt_cd4e5_59 : decode cJ2_putCharsAt_cd4e5 59 = .ok (.if_icmp .eq 11, 3) := by decide +kernel
theorem dJ2_putCharsAt_cd4e5_62 : decode cJ2_putCharsAt_cd4e5 62 = .ok (.new 52, 3) := by decide +kernel
theorem dJ2_putCharsAt_cd4e5_65 : decode cJ2_putCharsAt_cd4e5 65 = .ok (.dup, 1) := by decide +kernel
theorem dJ2_putCharsAt_cd4e5_66 : decode cJ2_putCharsAt_cd4e5 66 = .ok (.invokespecial 66, 3) := by decide +kernel
theorem dJ2_putCharsAt_cd4e5_69 : decode cJ2_putCharsAt_cd4e5 69 = .ok (.athrow, 1) := by decide +kernel
theorem dJ2_putCharsAt_cd4e5_70 : decode cJ2_putCharsAt_cd4e5 70 = .ok (.iload 6, 2) := by decide +kernel
theorem dJ2_putCharsAt_cd4e5_72 : decode cJ2_putCharsAt_cd4e5 72 = .ok (.ireturn, 1) := by decide +kernel
theorem dJ2_charAt_3b067_0 : decode cJ2_charAt_3b067 0 = .ok (.iload_n 1, 1) := by decide +kernel
theorem dJ2_charAt_3b067_1 : decode cJ2_charAt_3b067 1 = .ok (.aload_n 0, 1) := by decide +kernel
theorem dJ2_charAt_3b067_2 : decode cJ2_charAt_3b067 2 = .ok (.invokestatic 67, 3) := by decide +kernel
theorem dJ2_charAt_3b067_5 : decode cJ2_charAt_3b067 5 = .ok (.aload_n 0, 1) := by decide +kernel
theorem dJ2_charAt_3b067_6 : decode cJ2_charAt_3b067 6 = .ok (.iload_n 1, 1) := by decide +kernel
theorem dJ2_charAt_3b067_7 : decode cJ2_charAt_3b067 7 = .ok (.invokestatic 71, 3) := by decide +kernel
theorem dJ2_charAt_3b067_10 : decode cJ2_charAt_3b067 10 = .ok (.ireturn, 1) := by decide +kernel
theorem dJ2_inflate_0e8fd_0 : decode cJ2_inflate_0e8fd 0 = .ok (.iload_n 3, 1) := by decide +kernel
theorem dJ2_inflate_0e8fd_1 : decode cJ2_inflate_0e8fd 1 = .ok (.iload 4, 2) := by decide +kernel
theorem dJ2_inflate_0e8fd_3 : decode cJ2_inflate_0e8fd 3 = .ok (.aload_n 2, 1) := by decide +kernel
theorem dJ2_inflate_0e8fd_4 : decode cJ2_inflate_0e8fd 4 = .ok (.invokestatic 173, 3) := by decide +kernel
theorem dJ2_inflate_0e8fd_7 : decode cJ2_inflate_0e8fd 7 = .ok (.iconst 0, 1) := by decide +kernel
theorem dJ2_inflate_0e8fd_8 : decode cJ2_inflate_0e8fd 8 = .ok (.istore 5, 2) := by decide +kernel
theorem dJ2_inflate_0e8fd_10 : decode cJ2_inflate_0e8fd 10 = .ok (.iload 5, 2) := by decide +kernel
theorem dJ2_inflate_0e8fd_12 : decode cJ2_inflate_0e8fd 12 = .ok (.iload 4, 2) := by decide +kernel
theorem dJ2_inflate_0e8fd_14 : decode cJ2_inflate_0e8fd 14 = .ok (.if_icmp .ge 27, 3) := by decide +kernel
theorem dJ2_inflate_0e8fd_17 : decode cJ2_inflate_0e8fd 17 = .ok (.aload_n 2, 1) := by decide +kernel
theorem dJ2_inflate_0e8fd_18 : decode cJ2_inflate_0e8fd 18 = .ok (.iload_n 3, 1) := by decide +kernel
theorem dJ2_inflate_0e8fd_19 : decode cJ2_inflate_0e8fd 19 = .ok (.iinc 3 1, 3) := by decide +kernel
theorem dJ2_inflate_0e8fd_22 : decode cJ2_inflate_0e8fd 22 = .ok (.aload_n 0, 1) := by decide +kernel
theorem dJ2_inflate_0e8fd_23 : decode cJ2_inflate_0e8fd 23 = .ok (.iload_n 1, 1) := by decide +kernel
theorem dJ2_inflate_0e8fd_24 : decode cJ2_inflate_0e8fd 24 = .ok (.iinc 1 1, 3) := by decide +kernel
theorem dJ2_inflate_0e8fd_27 : decode cJ2_inflate_0e8fd 27 = .ok (.baload, 1) := by decide +kernel
theorem dJ2_inflate_0e8fd_28 : decode cJ2_inflate_0e8fd 28 = .ok (.sipush 255, 3) := by decide +kernel
theorem dJ2_inflate_0e8fd_31 : decode cJ2_inflate_0e8fd 31 = .ok (.iand, 1) := by decide +kernel
theorem dJ2_inflate_0e8fd_32 : decode cJ2_inflate_0e8fd 32 = .ok (.invokestatic 111, 3) := by decide +kernel
theorem dJ2_inflate_0e8fd_35 : decode cJ2_inflate_0e8fd 35 = .ok (.iinc 5 1, 3) := by decide +kernel
theorem dJ2_inflate_0e8fd_38 : decode cJ2_inflate_0e8fd 38 = .ok (.goto (-28), 3) := by decide +kernel
theorem dJ2_inflate_0e8fd_41 : decode cJ2_inflate_0e8fd 41 = .ok (.return_, 1) := by decide +kernel
theorem dJ2_getChars_ba4f3_0 : decode cJ2_getChars_ba4f3 0 = .ok (.iload_n 1, 1) := by decide +kernel
theorem dJ2_getChars_ba4f3_1 : decode cJ2_getChars_ba4f3 1 = .ok (.istore 5, 2) := by decide +kernel
theorem dJ2_getChars_ba4f3_3 : decode cJ2_getChars_ba4f3 3 = .ok (.iload_n 0, 1) := by decide +kernel
theorem dJ2_getChars_ba4f3_4 : decode cJ2_getChars_ba4f3 4 = .ok (.ifCond .ge 7, 3) := by decide +kernel
theorem dJ2_getChars_ba4f3_7 : decode cJ2_getChars_ba4f3 7 = .ok (.iconst 1, 1) := by decide +kernel
theorem dJ2_getChars_ba4f3_8 : decode cJ2_getChars_ba4f3 8 = .ok (.goto 4, 3) := by decide +kernel
theorem dJ2_getChars_ba4f3_11 : decode cJ2_getChars_ba4f3 11 = .ok (.iconst 0, 1) := by decide +kernel
theorem dJ2_getChars_ba4f3_12 : decode cJ2_getChars_ba4f3 12 = .ok (.istore 6, 2) := by decide +kernel
theorem dJ2_getChars_ba4f3_14 : decode cJ2_getChars_ba4f3 14 = .ok (.iload 6, 2) := by decide +kernel
theorem dJ2_getChars_ba4f3_16 : decode cJ2_getChars_ba4f3 16 = .ok (.ifCond .ne 6, 3) := by decide +kernel
theorem dJ2_getChars_ba4f3_19 : decode cJ2_getChars_ba4f3 19 = .ok (.iload_n 0, 1) := by decide +kernel
theorem dJ2_getChars_ba4f3_20 : decode cJ2_getChars_ba4f3 20 = .ok (.ineg, 1) := by decide +kernel
theorem dJ2_getChars_ba4f3_21 : decode cJ2_getChars_ba4f3 21 = .ok (.istore_n 0, 1) := by decide +kernel
theorem dJ2_getChars_ba4f3_22 : decode cJ2_getChars_ba4f3 22 = .ok (.iload_n 0, 1) := by decide +kernel
theorem dJ2_getChars_ba4f3_23 : decode cJ2_getChars_ba4f3 23 = .ok (.bipush (-100), 2) := by decide +kernel
theorem dJ2_getChars_ba4f3_25 : decode cJ2_getChars_ba4f3 25 = .ok (.if_icmp .gt 51, 3) := by decide +kernel
theorem dJ2_getChars_ba4f3_28 : decode cJ2_getChars_ba4f3 28 = .ok (.iload_n 0, 1) := by decide +kernel
theorem dJ2_getChars_ba4f3_29 : decode cJ2_getChars_ba4f3 29 = .ok (.bipush 100, 2) := by decide +kernel
theorem dJ2_getChars_ba4f3_31 : decode cJ2_getChars_ba4f3 31 = .ok (.idiv, 1) := by decide +kernel
theorem dJ2_getChars_ba4f3_32 : decode cJ2_getChars_ba4f3 32 = .ok (.istore_n 3, 1) := by decide +kernel
theorem dJ2_getChars_ba4f3_33 : decode cJ2_getChars_ba4f3 33 = .ok (.iload_n 3, 1) := by decide +kernel
theorem dJ2_getChars_ba4f3_34 : decode cJ2_getChars_ba4f3 34 = .ok (.bipush 100, 2) := by decide +kernel
theorem dJ2_getChars_ba4f3_36 : decode cJ2_getChars_ba4f3 36 = .ok (.imul, 1) := by decide +kernel
theorem dJ2_getChars_ba4f3_37 : decode cJ2_getChars_ba4f3 37 = .ok (.iload_n 0, 1) := by decide +kernel
theorem dJ2_getChars_ba4f3_38 : decode cJ2_getChars_ba4f3 38 = .ok (.isub, 1) := by decide +kernel
theorem dJ2_getChars_ba4f3_39 : decode cJ2_getChars_ba4f3 39 = .ok (.istore 4, 2) := by decide +kernel
theorem dJ2_getChars_ba4f3_41 : decode cJ2_getChars_ba4f3 41 = .ok (.iload_n 3, 1) := by decide +kernel
theorem dJ2_getChars_ba4f3_42 : decode cJ2_getChars_ba4f3 42 = .ok (.istore_n 0, 1) := by decide +kernel
theorem dJ2_getChars_ba4f3_43 : decode cJ2_getChars_ba4f3 43 = .ok (.aload_n 2, 1) := by decide +kernel
theorem dJ2_getChars_ba4f3_44 : decode cJ2_getChars_ba4f3 44 = .ok (.iinc 5 (-1), 3) := by decide +kernel
theorem dJ2_getChars_ba4f3_47 : decode cJ2_getChars_ba4f3 47 = .ok (.iload 5, 2) := by decide +kernel
theorem dJ2_getChars_ba4f3_49 : decode cJ2_getChars_ba4f3 49 = .ok (.getstatic 403, 3) := by decide +kernel
theorem dJ2_getChars_ba4f3_52 : decode cJ2_getChars_ba4f3 52 = .ok (.iload 4, 2) := by decide +kernel
theorem dJ2_getChars_ba4f3_54 : decode cJ2_getChars_ba4f3 54 = .ok (.baload, 1) := by decide +kernel
theorem dJ2_getChars_ba4f3_55 : decode cJ2_getChars_ba4f3 55 = .ok (.invokestatic 111, 3) := by decide +kernel
theorem dJ2_getChars_ba4f3_58 : decode cJ2_getChars_ba4f3 58 = .ok (.aload_n 2, 1) := by decide +kernel
theorem dJ2_getChars_ba4f3_59 : decode cJ2_getChars_ba4f3 59 = .ok (.iinc 5 (-1), 3) := by decide +kernel
theorem dJ2_getChars_ba4f3_62 : decode cJ2_getChars_ba4f3 62 = .ok (.iload 5, 2) := by decide +kernel
theorem dJ2_getChars_ba4f3_64 : decode cJ2_getChars_ba4f3 64 = .ok (.getstatic 407, 3) := by decide +kernel
theorem dJ2_getChars_ba4f3_67 : decode cJ2_getChars_ba4f3 67 = .ok (.iload 4, 2) := by decide +kernel
theorem dJ2_getChars_ba4f3_69 : decode cJ2_getChars_ba4f3 69 = .ok (.baload, 1) := by decide +kernel
theorem dJ2_getChars_ba4f3_70 : decode cJ2_getChars_ba4f3 70 = .ok (.invokestatic 111, 3) := by decide +kernel
theorem dJ2_getChars_ba4f3_73 : decode cJ2_getChars_ba4f3 73 = .ok (.goto (-51), 3) := by decide +kernel
theorem dJ2_getChars_ba4f3_76 : decode cJ2_getChars_ba4f3 76 = .ok (.aload_n 2, 1) := by decide +kernel
theorem dJ2_getChars_ba4f3_77 : decode cJ2_getChars_ba4f3 77 = .ok (.iinc 5 (-1), 3) := by decide +kernel
theorem dJ2_getChars_ba4f3_80 : decode cJ2_getChars_ba4f3 80 = .ok (.iload 5, 2) := by decide +kernel
theorem dJ2_getChars_ba4f3_82 : decode cJ2_getChars_ba4f3 82 = .ok (.getstatic 403, 3) := by decide +kernel
theorem dJ2_getChars_ba4f3_85 : decode cJ2_getChars_ba4f3 85 = .ok (.iload_n 0, 1) := by decide +kernel
theorem dJ2_getChars_ba4f3_86 : decode cJ2_getChars_ba4f3 86 = .ok (.ineg, 1) := by decide +kernel
theorem dJ2_getChars_ba4f3_87 : decode cJ2_getChars_ba4f3 87 = .ok (.baload, 1) := by decide +kernel
theorem dJ2_getChars_ba4f3_88 : decode cJ2_getChars_ba4f3 88 = .ok (.invokestatic 111, 3) := by decide +kernel
theorem dJ2_getChars_ba4f3_91 : decode cJ2_getChars_ba4f3 91 = .ok (.iload_n 0, 1) := by decide +kernel
theorem dJ2_getChars_ba4f3_92 : decode cJ2_getChars_ba4f3 92 = .ok (.bipush (-9), 2) := by decide +kernel
theorem dJ2_getChars_ba4f3_94 : decode cJ2_getChars_ba4f3 94 = .ok (.if_icmp .ge 18, 3) := by decide +kernel
theorem dJ2_getChars_ba4f3_97 : decode cJ2_getChars_ba4f3 97 = .ok (.aload_n 2, 1) := by decide +kernel
theorem dJ2_getChars_ba4f3_98 : decode cJ2_getChars_ba4f3 98 = .ok (.iinc 5 (-1), 3) := by decide +kernel
theorem dJ2_getChars_ba4f3_101 : decode cJ2_getChars_ba4f3 101 = .ok (.iload 5, 2) := by decide +kernel
theorem dJ2_getChars_ba4f3_103 : decode cJ2_getChars_ba4f3 103 = .ok (.getstatic 407, 3) := by decide +kernel
theorem dJ2_getChars_ba4f3_106 : decode cJ2_getChars_ba4f3 106 = .ok (.iload_n 0, 1) := by decide +kernel
theorem dJ2_getChars_ba4f3_107 : decode cJ2_getChars_ba4f3 107 = .ok (.ineg, 1) := by decide +kernel
theorem dJ2_getChars_ba4f3_108 : decode cJ2_getChars_ba4f3 108 = .ok (.baload, 1) := by decide +kernel
theorem dJ2_getChars_ba4f3_109 : decode cJ2_getChars_ba4f3 109 = .ok (.invokestatic 111, 3) := by decide +kernel
theorem dJ2_getChars_ba4f3_112 : decode cJ2_getChars_ba4f3 112 = .ok (.iload 6, 2) := by decide +kernel
theorem dJ2_getChars_ba4f3_114 : decode cJ2_getChars_ba4f3 114 = .ok (.ifCond .eq 14, 3) := by decide +kernel
theorem dJ2_getChars_ba4f3_117 : decode cJ2_getChars_ba4f3 117 = .ok (.aload_n 2, 1) := by decide +kernel
theorem dJ2_getChars_ba4f3_118 : decode cJ2_getChars_ba4f3 118 = .ok (.iinc 5 (-1), 3) := by decide +kernel
theorem dJ2_getChars_ba4f3_121 : decode cJ2_getChars_ba4f3 121 = .ok (.iload 5, 2) := by decide +kernel
theorem dJ2_getChars_ba4f3_123 : decode cJ2_getChars_ba4f3 123 = .ok (.bipush 45, 2) := by decide +kernel
theorem dJ2_getChars_ba4f3_125 : decode cJ2_getChars_ba4f3 125 = .ok (.invokestatic 111, 3) := by decide +kernel
theorem dJ2_getChars_ba4f3_128 : decode cJ2_getChars_ba4f3 128 = .ok (.iload 5, 2) := by decide +kernel
theorem dJ2_getChars_ba4f3_130 : decode cJ2_getChars_ba4f3 130 = .ok (.ireturn, 1) := by decide +kernel
theorem dJ2_checkIndex_2214a_0 : decode cJ2_checkIndex_2214a 0 = .ok (.iload_n 0, 1) := by decide +kernel
theorem dJ2_checkIndex_2214a_1 : decode cJ2_checkIndex_2214a 1 = .ok (.aload_n 1, 1) := by decide +kernel
theorem dJ2_checkIndex_2214a_2 : decode cJ2_checkIndex_2214a 2 = .ok (.invokestatic 48, 3) := by decide +kernel
theorem dJ2_checkIndex_2214a_5 : decode cJ2_checkIndex_2214a 5 = .ok (.invokestatic 414, 3) := by decide +kernel
theorem dJ2_checkIndex_2214a_8 : decode cJ2_checkIndex_2214a 8 = .ok (.return_, 1) := by decide +kernel
theorem dJ2_checkBoundsBeginEnd_d044e_0 : decode cJ2_checkBoundsBeginEnd_d044e 0 = .ok (.iload_n 0, 1) := by decide +kernel
theorem dJ2_checkBoundsBeginEnd_d044e_1 : decode cJ2_checkBoundsBeginEnd_d044e 1 = .ok (.iload_n 1, 1) := by decide +kernel
theorem dJ2_checkBoundsBeginEnd_d044e_2 : decode cJ2_checkBoundsBeginEnd_d044e 2 = .ok (.aload_n 2, 1) := by decide +kernel
theorem dJ2_checkBoundsBeginEnd_d044e_3 : decode cJ2_checkBoundsBeginEnd_d044e 3 = .ok (.invokestatic 48, 3) := by decide +kernel
theorem dJ2_checkBoundsBeginEnd_d044e_6 : decode cJ2_checkBoundsBeginEnd_d044e 6 = .ok (.invokestatic 241, 3) := by decide +kernel
theorem dJ2_checkBoundsBeginEnd_d044e_9 : decode cJ2_checkBoundsBeginEnd_d044e 9 = .ok (.return_, 1) := by decide +kernel
theorem dJ2_checkBoundsOffCount_d044e_0 : decode cJ2_checkBoundsOffCount_d044e 0 = .ok (.iload_n 0, 1) := by decide +kernel
theorem dJ2_checkBoundsOffCount_d044e_1 : decode cJ2_checkBoundsOffCount_d044e 1 = .ok (.iload_n 1, 1) := by decide +kernel
theorem dJ2_checkBoundsOffCount_d044e_2 : decode cJ2_checkBoundsOffCount_d044e 2 = .ok (.aload_n 2, 1) := by decide +kernel
theorem dJ2_checkBoundsOffCount_d044e_3 : decode cJ2_checkBoundsOffCount_d044e 3 = .ok (.invokestatic 48, 3) := by decide +kernel
theorem dJ2_checkBoundsOffCount_d044e_6 : decode cJ2_checkBoundsOffCount_d044e 6 = .ok (.invokestatic 419, 3) := by decide +kernel
theorem dJ2_checkBoundsOffCount_d044e_9 : decode cJ2_checkBoundsOffCount_d044e 9 = .ok (.pop, 1) := by decide +kernel
theorem dJ2_checkBoundsOffCount_d044e_10 : decode cJ2_checkBoundsOffCount_d044e 10 = .ok (.return_, 1) := by decide +kernel
theorem dJ7_copyOf_9075b_0 : decode cJ7_copyOf_9075b 0 = .ok (.iload_n 1, 1) := by decide +kernel
theorem dJ7_copyOf_9075b_1 : decode cJ7_copyOf_9075b 1 = .ok (.aload_n 0, 1) := by decide +kernel
theorem dJ7_copyOf_9075b_2 : decode cJ7_copyOf_9075b 2 = .ok (.arraylength, 1) := by decide +kernel
theorem dJ7_copyOf_9075b_3 : decode cJ7_copyOf_9075b 3 = .ok (.if_icmp .ne 11, 3) := by decide +kernel
theorem dJ7_copyOf_9075b_6 : decode cJ7_copyOf_9075b 6 = .ok (.aload_n 0, 1) := by decide +kernel
theorem dJ7_copyOf_9075b_7 : decode cJ7_copyOf_9075b 7 = .ok (.invokevirtual 310, 3) := by decide +kernel
theorem dJ7_copyOf_9075b_10 : decode cJ7_copyOf_9075b 10 = .ok (.checkcast 311, 3) := by decide +kernel
theorem dJ7_copyOf_9075b_13 : decode cJ7_copyOf_9075b 13 = .ok (.areturn, 1) := by decide +kernel
theorem dJ7_copyOf_9075b_14 : decode cJ7_copyOf_9075b 14 = .ok (.iload_n 1, 1) := by decide +kernel
theorem dJ7_copyOf_9075b_15 : decode cJ7_copyOf_9075b 15 = .ok (.newarray .byte, 2) := by decide +kernel
theorem dJ7_copyOf_9075b_17 : decode cJ7_copyOf_9075b 17 = .ok (.astore_n 2, 1) := by decide +kernel
theorem dJ7_copyOf_9075b_18 : decode cJ7_copyOf_9075b 18 = .ok (.aload_n 0, 1) := by decide +kernel
theorem dJ7_copyOf_9075b_19 : decode cJ7_copyOf_9075b 19 = .ok (.iconst 0, 1) := by decide +kernel
theorem dJ7_copyOf_9075b_20 : decode cJ7_copyOf_9075b 20 = .ok (.aload_n 2, 1) := by decide +kernel
theorem dJ7_copyOf_9075b_21 : decode cJ7_copyOf_9075b 21 = .ok (.iconst 0, 1) := by decide +kernel
theorem dJ7_copyOf_9075b_22 : decode cJ7_copyOf_9075b 22 = .ok (.aload_n 0, 1) := by decide +kernel
theorem dJ7_copyOf_9075b_23 : decode cJ7_copyOf_9075b 23 = .ok (.arraylength, 1) := by decide +kernel
theorem dJ7_copyOf_9075b_24 : decode cJ7_copyOf_9075b 24 = .ok (.iload_n 1, 1) := by decide +kernel
theorem dJ7_copyOf_9075b_25 : decode cJ7_copyOf_9075b 25 = .ok (.invokestatic 304, 3) := by decide +kernel
theorem dJ7_copyOf_9075b_28 : decode cJ7_copyOf_9075b 28 = .ok (.invokestatic 150, 3) := by decide +kernel
theorem dJ7_copyOf_9075b_31 : decode cJ7_copyOf_9075b 31 = .ok (.aload_n 2, 1) := by decide +kernel
theorem dJ7_copyOf_9075b_32 : decode cJ7_copyOf_9075b 32 = .ok (.areturn, 1) := by decide +kernel
theorem dJ7_copyOf_c38d5_0 : decode cJ7_copyOf_c38d5 0 = .ok (.iload_n 1, 1) := by decide +kernel
theorem dJ7_copyOf_c38d5_1 : decode cJ7_copyOf_c38d5 1 = .ok (.aload_n 0, 1) := by decide +kernel
theorem dJ7_copyOf_c38d5_2 : decode cJ7_copyOf_c38d5 2 = .ok (.arraylength, 1) := by decide +kernel
theorem dJ7_copyOf_c38d5_3 : decode cJ7_copyOf_c38d5 3 = .ok (.if_icmp .ne 11, 3) := by decide +kernel
theorem dJ7_copyOf_c38d5_6 : decode cJ7_copyOf_c38d5 6 = .ok (.aload_n 0, 1) := by decide +kernel
theorem dJ7_copyOf_c38d5_7 : decode cJ7_copyOf_c38d5 7 = .ok (.invokevirtual 319, 3) := by decide +kernel
theorem dJ7_copyOf_c38d5_10 : decode cJ7_copyOf_c38d5 10 = .ok (.checkcast 320, 3) := by decide +kernel
theorem dJ7_copyOf_c38d5_13 : decode cJ7_copyOf_c38d5 13 = .ok (.areturn, 1) := by decide +kernel
theorem dJ7_copyOf_c38d5_14 : decode cJ7_copyOf_c38d5 14 = .ok (.iload_n 1, 1) := by decide +kernel
theorem dJ7_copyOf_c38d5_15 : decode cJ7_copyOf_c38d5 15 = .ok (.newarray .long, 2) := by decide +kernel
theorem dJ7_copyOf_c38d5_17 : decode cJ7_copyOf_c38d5 17 = .ok (.astore_n 2, 1) := by decide +kernel
theorem dJ7_copyOf_c38d5_18 : decode cJ7_copyOf_c38d5 18 = .ok (.aload_n 0, 1) := by decide +kernel
theorem dJ7_copyOf_c38d5_19 : decode cJ7_copyOf_c38d5 19 = .ok (.iconst 0, 1) := by decide +kernel
theorem dJ7_copyOf_c38d5_20 : decode cJ7_copyOf_c38d5 20 = .ok (.aload_n 2, 1) := by decide +kernel
theorem dJ7_copyOf_c38d5_21 : decode cJ7_copyOf_c38d5 21 = .ok (.iconst 0, 1) := by decide +kernel
theorem dJ7_copyOf_c38d5_22 : decode cJ7_copyOf_c38d5 22 = .ok (.aload_n 0, 1) := by decide +kernel
theorem dJ7_copyOf_c38d5_23 : decode cJ7_copyOf_c38d5 23 = .ok (.arraylength, 1) := by decide +kernel
theorem dJ7_copyOf_c38d5_24 : decode cJ7_copyOf_c38d5 24 = .ok (.iload_n 1, 1) := by decide +kernel
theorem dJ7_copyOf_c38d5_25 : decode cJ7_copyOf_c38d5 25 = .ok (.invokestatic 304, 3) := by decide +kernel
theorem dJ7_copyOf_c38d5_28 : decode cJ7_copyOf_c38d5 28 = .ok (.invokestatic 150, 3) := by decide +kernel
theorem dJ7_copyOf_c38d5_31 : decode cJ7_copyOf_c38d5 31 = .ok (.aload_n 2, 1) := by decide +kernel
theorem dJ7_copyOf_c38d5_32 : decode cJ7_copyOf_c38d5 32 = .ok (.areturn, 1) := by decide +kernel
theorem dJ7_checkLength_df160_0 : decode cJ7_checkLength_df160 0 = .ok (.iload_n 1, 1) := by decide +kernel
theorem dJ7_checkLength_df160_1 : decode cJ7_checkLength_df160 1 = .ok (.iload_n 0, 1) := by decide +kernel
theorem dJ7_checkLength_df160_2 : decode cJ7_checkLength_df160 2 = .ok (.if_icmp .ge 35, 3) := by decide +kernel
theorem dJ7_checkLength_df160_5 : decode cJ7_checkLength_df160 5 = .ok (.new 43, 3) := by decide +kernel
theorem dJ7_checkLength_df160_8 : decode cJ7_checkLength_df160 8 = .ok (.dup, 1) := by decide +kernel
theorem dJ7_checkLength_df160_9 : decode cJ7_checkLength_df160 9 = .ok (.new 45, 3) := by decide +kernel
theorem dJ7_checkLength_df160_12 : decode cJ7_checkLength_df160 12 = .ok (.dup, 1) := by decide +kernel
theorem dJ7_checkLength_df160_13 : decode cJ7_checkLength_df160 13 = .ok (.invokespecial 47, 3) := by decide +kernel
theorem dJ7_checkLength_df160_16 : decode cJ7_checkLength_df160 16 = .ok (.iload_n 0, 1) := by decide +kernel
theorem dJ7_checkLength_df160_17 : decode cJ7_checkLength_df160 17 = .ok (.invokevirtual 54, 3) := by decide +kernel
theorem dJ7_checkLength_df160_20 : decode cJ7_checkLength_df160 20 = .ok (.ldc_w 337, 3) := by decide +kernel
theorem dJ7_checkLength_df160_23 : decode cJ7_checkLength_df160 23 = .ok (.invokevirtual 50, 3) := by decide +kernel
theorem dJ7_checkLength_df160_26 : decode cJ7_checkLength_df160 26 = .ok (.iload_n 1, 1) := by decide +kernel
theorem dJ7_checkLength_df160_27 : decode cJ7_checkLength_df160 27 = .ok (.invokevirtual 54, 3) := by decide +kernel
theorem dJ7_checkLength_df160_30 : decode cJ7_checkLength_df160 30 = .ok (.invokevirtual 61, 3) := by decide +kernel
theorem dJ7_checkLength_df160_33 : decode cJ7_checkLength_df160 33 = .ok (.invokespecial 65, 3) := by decide +kernel
theorem dJ7_checkLength_df160_36 : decode cJ7_checkLength_df160 36 = .ok (.athrow, 1) := by decide +kernel
theorem dJ7_checkLength_df160_37 : decode cJ7_checkLength_df160 37 = .ok (.return_, 1) := by decide +kernel
theorem dJ7_copyOfRange_39247_0 : decode cJ7_copyOfRange_39247 0 = .ok (.iload_n 1, 1) := by decide +kernel
theorem dJ7_copyOfRange_39247_1 : decode cJ7_copyOfRange_39247 1 = .ok (.ifCond .ne 9, 3) := by decide +kernel
theorem dJ7_copyOfRange_39247_4 : decode cJ7_copyOfRange_39247 4 = .ok (.iload_n 2, 1) := by decide +kernel
theorem dJ7_copyOfRange_39247_5 : decode cJ7_copyOfRange_39247 5 = .ok (.aload_n 0, 1) := by decide +kernel
theorem dJ7_copyOfRange_39247_6 : decode cJ7_copyOfRange_39247 6 = .ok (.arraylength, 1) := by decide +kernel
theorem dJ7_copyOfRange_39247_7 : decode cJ7_copyOfRange_39247 7 = .ok (.if_icmp .eq 10, 3) := by decide +kernel
theorem dJ7_copyOfRange_39247_10 : decode cJ7_copyOfRange_39247 10 = .ok (.aload_n 0, 1) := by decide +kernel
theorem dJ7_copyOfRange_39247_11 : decode cJ7_copyOfRange_39247 11 = .ok (.iload_n 1, 1) := by decide +kernel
theorem dJ7_copyOfRange_39247_12 : decode cJ7_copyOfRange_39247 12 = .ok (.iload_n 2, 1) := by decide +kernel
theorem dJ7_copyOfRange_39247_13 : decode cJ7_copyOfRange_39247 13 = .ok (.invokestatic 339, 3) := by decide +kernel
theorem dJ7_copyOfRange_39247_16 : decode cJ7_copyOfRange_39247 16 = .ok (.areturn, 1) := by decide +kernel
theorem dJ7_copyOfRange_39247_17 : decode cJ7_copyOfRange_39247 17 = .ok (.aload_n 0, 1) := by decide +kernel
theorem dJ7_copyOfRange_39247_18 : decode cJ7_copyOfRange_39247 18 = .ok (.invokevirtual 310, 3) := by decide +kernel
theorem dJ7_copyOfRange_39247_21 : decode cJ7_copyOfRange_39247 21 = .ok (.checkcast 311, 3) := by decide +kernel
theorem dJ7_copyOfRange_39247_24 : decode cJ7_copyOfRange_39247 24 = .ok (.areturn, 1) := by decide +kernel
theorem dJ7_copyOfRangeByte_39247_0 : decode cJ7_copyOfRangeByte_39247 0 = .ok (.iload_n 1, 1) := by decide +kernel
theorem dJ7_copyOfRangeByte_39247_1 : decode cJ7_copyOfRangeByte_39247 1 = .ok (.iload_n 2, 1) := by decide +kernel
theorem dJ7_copyOfRangeByte_39247_2 : decode cJ7_copyOfRangeByte_39247 2 = .ok (.invokestatic 343, 3) := by decide +kernel
theorem dJ7_copyOfRangeByte_39247_5 : decode cJ7_copyOfRangeByte_39247 5 = .ok (.iload_n 2, 1) := by decide +kernel
theorem dJ7_copyOfRangeByte_39247_6 : decode cJ7_copyOfRangeByte_39247 6 = .ok (.iload_n 1, 1) := by decide +kernel
theorem dJ7_copyOfRangeByte_39247_7 : decode cJ7_copyOfRangeByte_39247 7 = .ok (.isub, 1) := by decide +kernel
theorem dJ7_copyOfRangeByte_39247_8 : decode cJ7_copyOfRangeByte_39247 8 = .ok (.istore_n 3, 1) := by decide +kernel
theorem dJ7_copyOfRangeByte_39247_9 : decode cJ7_copyOfRangeByte_39247 9 = .ok (.iload_n 3, 1) := by decide +kernel
theorem dJ7_copyOfRangeByte_39247_10 : decode cJ7_copyOfRangeByte_39247 10 = .ok (.newarray .byte, 2) := by decide +kernel
theorem dJ7_copyOfRangeByte_39247_12 : decode cJ7_copyOfRangeByte_39247 12 = .ok (.astore 4, 2) := by decide +kernel
theorem dJ7_copyOfRangeByte_39247_14 : decode cJ7_copyOfRangeByte_39247 14 = .ok (.aload_n 0, 1) := by decide +kernel
theorem dJ7_copyOfRangeByte_39247_15 : decode cJ7_copyOfRangeByte_39247 15 = .ok (.iload_n 1, 1) := by decide +kernel
theorem dJ7_copyOfRangeByte_39247_16 : decode cJ7_copyOfRangeByte_39247 16 = .ok (.aload 4, 2) := by decide +kernel
theorem dJ7_copyOfRangeByte_39247_18 : decode cJ7_copyOfRangeByte_39247 18 = .ok (.iconst 0, 1) := by decide +kernel
theorem dJ7_copyOfRangeByte_39247_19 : decode cJ7_copyOfRangeByte_39247 19 = .ok (.aload_n 0, 1) := by decide +kernel
theorem dJ7_copyOfRangeByte_39247_20 : decode cJ7_copyOfRangeByte_39247 20 = .ok (.arraylength, 1) := by decide +kernel
theorem dJ7_copyOfRangeByte_39247_21 : decode cJ7_copyOfRangeByte_39247 21 = .ok (.iload_n 1, 1) := by decide +kernel
theorem dJ7_copyOfRangeByte_39247_22 : decode cJ7_copyOfRangeByte_39247 22 = .ok (.isub, 1) := by decide +kernel
theorem dJ7_copyOfRangeByte_39247_23 : decode cJ7_copyOfRangeByte_39247 23 = .ok (.iload_n 3, 1) := by decide +kernel
theorem dJ7_copyOfRangeByte_39247_24 : decode cJ7_copyOfRangeByte_39247 24 = .ok (.invokestatic 304, 3) := by decide +kernel
theorem dJ7_copyOfRangeByte_39247_27 : decode cJ7_copyOfRangeByte_39247 27 = .ok (.invokestatic 150, 3) := by decide +kernel
theorem dJ7_copyOfRangeByte_39247_30 : decode cJ7_copyOfRangeByte_39247 30 = .ok (.aload 4, 2) := by decide +kernel
theorem dJ7_copyOfRangeByte_39247_32 : decode cJ7_copyOfRangeByte_39247 32 = .ok (.areturn, 1) := by decide +kernel
theorem dJ8_newLength_cabcc_0 : decode cJ8_newLength_cabcc 0 = .ok (.iload_n 0, 1) := by decide +kernel
theorem dJ8_newLength_cabcc_1 : decode cJ8_newLength_cabcc 1 = .ok (.iload_n 1, 1) := by decide +kernel
theorem dJ8_newLength_cabcc_2 : decode cJ8_newLength_cabcc 2 = .ok (.iload_n 2, 1) := by decide +kernel
theorem dJ8_newLength_cabcc_3 : decode cJ8_newLength_cabcc 3 = .ok (.invokestatic 194, 3) := by decide +kernel
theorem dJ8_newLength_cabcc_6 : decode cJ8_newLength_cabcc 6 = .ok (.iadd, 1) := by decide +kernel
theorem dJ8_newLength_cabcc_7 : decode cJ8_newLength_cabcc 7 = .ok (.istore_n 3, 1) := by decide +kernel
theorem dJ8_newLength_cabcc_8 : decode cJ8_newLength_cabcc 8 = .ok (.iconst 0, 1) := by decide +kernel
theorem dJ8_newLength_cabcc_9 : decode cJ8_newLength_cabcc 9 = .ok (.iload_n 3, 1) := by decide +kernel
theorem dJ8_newLength_cabcc_10 : decode cJ8_newLength_cabcc 10 = .ok (.if_icmp .ge 11, 3) := by decide +kernel
theorem dJ8_newLength_cabcc_13 : decode cJ8_newLength_cabcc 13 = .ok (.iload_n 3, 1) := by decide +kernel
theorem dJ8_newLength_cabcc_14 : decode cJ8_newLength_cabcc 14 = .ok (.ldc 200, 2) := by decide +kernel
theorem dJ8_newLength_cabcc_16 : decode cJ8_newLength_cabcc 16 = .ok (.if_icmp .gt 5, 3) := by decide +kernel
theorem dJ8_newLength_cabcc_19 : decode cJ8_newLength_cabcc 19 = .ok (.iload_n 3, 1) := by decide +kernel
theorem dJ8_newLength_cabcc_20 : decode cJ8_newLength_cabcc 20 = .ok (.ireturn, 1) := by decide +kernel
theorem dJ8_newLength_cabcc_21 : decode cJ8_newLength_cabcc 21 = .ok (.iload_n 0, 1) := by decide +kernel
theorem dJ8_newLength_cabcc_22 : decode cJ8_newLength_cabcc 22 = .ok (.iload_n 1, 1) := by decide +kernel
theorem dJ8_newLength_cabcc_23 : decode cJ8_newLength_cabcc 23 = .ok (.invokestatic 201, 3) := by decide +kernel
theorem dJ8_newLength_cabcc_26 : decode cJ8_newLength_cabcc 26 = .ok (.ireturn, 1) := by decide +kernel
theorem dJ8_hugeLength_7cf53_0 : decode cJ8_hugeLength_7cf53 0 = .ok (.iload_n 0, 1) := by decide +kernel
theorem dJ8_hugeLength_7cf53_1 : decode cJ8_hugeLength_7cf53 1 = .ok (.iload_n 1, 1) := by decide +kernel
theorem dJ8_hugeLength_7cf53_2 : decode cJ8_hugeLength_7cf53 2 = .ok (.iadd, 1) := by decide +kernel
theorem dJ8_hugeLength_7cf53_3 : decode cJ8_hugeLength_7cf53 3 = .ok (.istore_n 2, 1) := by decide +kernel
theorem dJ8_hugeLength_7cf53_4 : decode cJ8_hugeLength_7cf53 4 = .ok (.iload_n 2, 1) := by decide +kernel
theorem dJ8_hugeLength_7cf53_5 : decode cJ8_hugeLength_7cf53 5 = .ok (.ifCond .ge 44, 3) := by decide +kernel
theorem dJ8_hugeLength_7cf53_8 : decode cJ8_hugeLength_7cf53 8 = .ok (.new 204, 3) := by decide +kernel
theorem dJ8_hugeLength_7cf53_11 : decode cJ8_hugeLength_7cf53 11 = .ok (.dup, 1) := by decide +kernel
theorem dJ8_hugeLength_7cf53_12 : decode cJ8_hugeLength_7cf53 12 = .ok (.new 89, 3) := by decide +kernel
theorem dJ8_hugeLength_7cf53_15 : decode cJ8_hugeLength_7cf53 15 = .ok (.dup, 1) := by decide +kernel
theorem dJ8_hugeLength_7cf53_16 : decode cJ8_hugeLength_7cf53 16 = .ok (.invokespecial 91, 3) := by decide +kernel
theorem dJ8_hugeLength_7cf53_19 : decode cJ8_hugeLength_7cf53 19 = .ok (.ldc 206, 2) := by decide +kernel
theorem dJ8_hugeLength_7cf53_21 : decode cJ8_hugeLength_7cf53 21 = .ok (.invokevirtual 94, 3) := by decide +kernel
theorem dJ8_hugeLength_7cf53_24 : decode cJ8_hugeLength_7cf53 24 = .ok (.iload_n 0, 1) := by decide +kernel
theorem dJ8_hugeLength_7cf53_25 : decode cJ8_hugeLength_7cf53 25 = .ok (.invokevirtual 98, 3) := by decide +kernel
theorem dJ8_hugeLength_7cf53_28 : decode cJ8_hugeLength_7cf53 28 = .ok (.ldc 208, 2) := by decide +kernel
theorem dJ8_hugeLength_7cf53_30 : decode cJ8_hugeLength_7cf53 30 = .ok (.invokevirtual 94, 3) := by decide +kernel
theorem dJ8_hugeLength_7cf53_33 : decode cJ8_hugeLength_7cf53 33 = .ok (.iload_n 1, 1) := by decide +kernel
theorem dJ8_hugeLength_7cf53_34 : decode cJ8_hugeLength_7cf53 34 = .ok (.invokevirtual 98, 3) := by decide +kernel
theorem dJ8_hugeLength_7cf53_37 : decode cJ8_hugeLength_7cf53 37 = .ok (.ldc 210, 2) := by decide +kernel
theorem dJ8_hugeLength_7cf53_39 : decode cJ8_hugeLength_7cf53 39 = .ok (.invokevirtual 94, 3) := by decide +kernel
theorem dJ8_hugeLength_7cf53_42 : decode cJ8_hugeLength_7cf53 42 = .ok (.invokevirtual 101, 3) := by decide +kernel
theorem dJ8_hugeLength_7cf53_45 : decode cJ8_hugeLength_7cf53 45 = .ok (.invokespecial 212, 3) := by decide +kernel
theorem dJ8_hugeLength_7cf53_48 : decode cJ8_hugeLength_7cf53 48 = .ok (.athrow, 1) := by decide +kernel
theorem dJ8_hugeLength_7cf53_49 : decode cJ8_hugeLength_7cf53 49 = .ok (.iload_n 2, 1) := by decide +kernel
theorem dJ8_hugeLength_7cf53_50 : decode cJ8_hugeLength_7cf53 50 = .ok (.ldc 200, 2) := by decide +kernel
theorem dJ8_hugeLength_7cf53_52 : decode cJ8_hugeLength_7cf53 52 = .ok (.if_icmp .gt 6, 3) := by decide +kernel
theorem dJ8_hugeLength_7cf53_55 : decode cJ8_hugeLength_7cf53 55 = .ok (.ldc 200, 2) := by decide +kernel
theorem dJ8_hugeLength_7cf53_57 : decode cJ8_hugeLength_7cf53 57 = .ok (.ireturn, 1) := by decide +kernel
theorem dJ8_hugeLength_7cf53_58 : decode cJ8_hugeLength_7cf53 58 = .ok (.iload_n 2, 1) := by decide +kernel
theorem dJ8_hugeLength_7cf53_59 : decode cJ8_hugeLength_7cf53 59 = .ok (.ireturn, 1) := by decide +kernel
theorem dJ3_checkIndex_8e157_0 : decode cJ3_checkIndex_8e157 0 = .ok (.iload_n 0, 1) := by decide +kernel
theorem dJ3_checkIndex_8e157_1 : decode cJ3_checkIndex_8e157 1 = .ok (.ifCond .lt 8, 3) := by decide +kernel
theorem dJ3_checkIndex_8e157_4 : decode cJ3_checkIndex_8e157 4 = .ok (.iload_n 0, 1) := by decide +kernel
theorem dJ3_checkIndex_8e157_5 : decode cJ3_checkIndex_8e157 5 = .ok (.iload_n 1, 1) := by decide +kernel
theorem dJ3_checkIndex_8e157_6 : decode cJ3_checkIndex_8e157 6 = .ok (.if_icmp .lt 10, 3) := by decide +kernel
theorem dJ3_checkIndex_8e157_9 : decode cJ3_checkIndex_8e157 9 = .ok (.aload_n 2, 1) := by decide +kernel
theorem dJ3_checkIndex_8e157_10 : decode cJ3_checkIndex_8e157 10 = .ok (.iload_n 0, 1) := by decide +kernel
theorem dJ3_checkIndex_8e157_11 : decode cJ3_checkIndex_8e157 11 = .ok (.iload_n 1, 1) := by decide +kernel
theorem dJ3_checkIndex_8e157_12 : decode cJ3_checkIndex_8e157 12 = .ok (.invokestatic 95, 3) := by decide +kernel
theorem dJ3_checkIndex_8e157_15 : decode cJ3_checkIndex_8e157 15 = .ok (.athrow, 1) := by decide +kernel
theorem dJ3_checkIndex_8e157_16 : decode cJ3_checkIndex_8e157 16 = .ok (.iload_n 0, 1) := by decide +kernel
theorem dJ3_checkIndex_8e157_17 : decode cJ3_checkIndex_8e157 17 = .ok (.ireturn, 1) := by decide +kernel
theorem dJ3_checkFromToIndex_8c36e_0 : decode cJ3_checkFromToIndex_8c36e 0 = .ok (.iload_n 0, 1) := by decide +kernel
theorem dJ3_checkFromToIndex_8c36e_1 : decode cJ3_checkFromToIndex_8c36e 1 = .ok (.ifCond .lt 13, 3) := by decide +kernel
theorem dJ3_checkFromToIndex_8c36e_4 : decode cJ3_checkFromToIndex_8c36e 4 = .ok (.iload_n 0, 1) := by decide +kernel
theorem dJ3_checkFromToIndex_8c36e_5 : decode cJ3_checkFromToIndex_8c36e 5 = .ok (.iload_n 1, 1) := by decide +kernel
theorem dJ3_checkFromToIndex_8c36e_6 : decode cJ3_checkFromToIndex_8c36e 6 = .ok (.if_icmp .gt 8, 3) := by decide +kernel
theorem dJ3_checkFromToIndex_8c36e_9 : decode cJ3_checkFromToIndex_8c36e 9 = .ok (.iload_n 1, 1) := by decide +kernel
theorem dJ3_checkFromToIndex_8c36e_10 : decode cJ3_checkFromToIndex_8c36e 10 = .ok (.iload_n 2, 1) := by decide +kernel
theorem dJ3_checkFromToIndex_8c36e_11 : decode cJ3_checkFromToIndex_8c36e 11 = .ok (.if_icmp .le 11, 3) := by decide +kernel
theorem dJ3_checkFromToIndex_8c36e_14 : decode cJ3_checkFromToIndex_8c36e 14 = .ok (.aload_n 3, 1) := by decide +kernel
theorem dJ3_checkFromToIndex_8c36e_15 : decode cJ3_checkFromToIndex_8c36e 15 = .ok (.iload_n 0, 1) := by decide +kernel
theorem dJ3_checkFromToIndex_8c36e_16 : decode cJ3_checkFromToIndex_8c36e 16 = .ok (.iload_n 1, 1) := by decide +kernel
theorem dJ3_checkFromToIndex_8c36e_17 : decode cJ3_checkFromToIndex_8c36e 17 = .ok (.iload_n 2, 1) := by decide +kernel
theorem dJ3_checkFromToIndex_8c36e_18 : decode cJ3_checkFromToIndex_8c36e 18 = .ok (.invokestatic 99, 3) := by decide +kernel
theorem dJ3_checkFromToIndex_8c36e_21 : decode cJ3_checkFromToIndex_8c36e 21 = .ok (.athrow, 1) := by decide +kernel
theorem dJ3_checkFromToIndex_8c36e_22 : decode cJ3_checkFromToIndex_8c36e 22 = .ok (.iload_n 0, 1) := by decide +kernel
theorem dJ3_checkFromToIndex_8c36e_23 : decode cJ3_checkFromToIndex_8c36e 23 = .ok (.ireturn, 1) := by decide +kernel
theorem dJ3_checkFromIndexSize_8c36e_0 : decode cJ3_checkFromIndexSize_8c36e 0 = .ok (.iload_n 2, 1) := by decide +kernel
theorem dJ3_checkFromIndexSize_8c36e_1 : decode cJ3_checkFromIndexSize_8c36e 1 = .ok (.iload_n 0, 1) := by decide +kernel
theorem dJ3_checkFromIndexSize_8c36e_2 : decode cJ3_checkFromIndexSize_8c36e 2 = .ok (.ior, 1) := by decide +kernel
theorem dJ3_checkFromIndexSize_8c36e_3 : decode cJ3_checkFromIndexSize_8c36e 3 = .ok (.iload_n 1, 1) := by decide +kernel
theorem dJ3_checkFromIndexSize_8c36e_4 : decode cJ3_checkFromIndexSize_8c36e 4 = .ok (.ior, 1) := by decide +kernel
theorem dJ3_checkFromIndexSize_8c36e_5 : decode cJ3_checkFromIndexSize_8c36e 5 = .ok (.ifCond .lt 10, 3) := by decide +kernel
theorem dJ3_checkFromIndexSize_8c36e_8 : decode cJ3_checkFromIndexSize_8c36e 8 = .ok (.iload_n 1, 1) := by decide +kernel
theorem dJ3_checkFromIndexSize_8c36e_9 : decode cJ3_checkFromIndexSize_8c36e 9 = .ok (.iload_n 2, 1) := by decide +kernel
theorem dJ3_checkFromIndexSize_8c36e_10 : decode cJ3_checkFromIndexSize_8c36e 10 = .ok (.iload_n 0, 1) := by decide +kernel
theorem dJ3_checkFromIndexSize_8c36e_11 : decode cJ3_checkFromIndexSize_8c36e 11 = .ok (.isub, 1) := by decide +kernel
theorem dJ3_checkFromIndexSize_8c36e_12 : decode cJ3_checkFromIndexSize_8c36e 12 = .ok (.if_icmp .le 11, 3) := by decide +kernel
theorem dJ3_checkFromIndexSize_8c36e_15 : decode cJ3_checkFromIndexSize_8c36e 15 = .ok (.aload_n 3, 1) := by decide +kernel
theorem dJ3_checkFromIndexSize_8c36e_16 : decode cJ3_checkFromIndexSize_8c36e 16 = .ok (.iload_n 0, 1) := by decide +kernel
theorem dJ3_checkFromIndexSize_8c36e_17 : decode cJ3_checkFromIndexSize_8c36e 17 = .ok (.iload_n 1, 1) := by decide +kernel
theorem dJ3_checkFromIndexSize_8c36e_18 : decode cJ3_checkFromIndexSize_8c36e 18 = .ok (.iload_n 2, 1) := by decide +kernel
theorem dJ3_checkFromIndexSize_8c36e_19 : decode cJ3_checkFromIndexSize_8c36e 19 = .ok (.invokestatic 103, 3) := by decide +kernel
theorem dJ3_checkFromIndexSize_8c36e_22 : decode cJ3_checkFromIndexSize_8c36e 22 = .ok (.athrow, 1) := by decide +kernel
theorem dJ3_checkFromIndexSize_8c36e_23 : decode cJ3_checkFromIndexSize_8c36e 23 = .ok (.iload_n 0, 1) := by decide +kernel
theorem dJ3_checkFromIndexSize_8c36e_24 : decode cJ3_checkFromIndexSize_8c36e 24 = .ok (.ireturn, 1) := by decide +kernel
end
section
theorem dL_law_0 : decode cL_law 0 = .ok (.new 7, 3) := by decide +kernel
theorem dL_law_3 : decode cL_law 3 = .ok (.dup, 1) := by decide +kernel
theorem dL_law_4 : decode cL_law 4 = .ok (.invokespecial 9, 3) := by decide +kernel
theorem dL_law_7 : decode cL_law 7 = .ok (.astore_n 1, 1) := by decide +kernel
theorem dL_law_8 : decode cL_law 8 = .ok (.new 10, 3) := by decide +kernel
theorem dL_law_11 : decode cL_law 11 = .ok (.dup, 1) := by decide +kernel
theorem dL_law_12 : decode cL_law 12 = .ok (.invokespecial 12, 3) := by decide +kernel
theorem dL_law_15 : decode cL_law 15 = .ok (.astore_n 2, 1) := by decide +kernel
theorem dL_law_16 : decode cL_law 16 = .ok (.iconst 0, 1) := by decide +kernel
theorem dL_law_17 : decode cL_law 17 = .ok (.istore_n 3, 1) := by decide +kernel
theorem dL_law_18 : decode cL_law 18 = .ok (.iload_n 3, 1) := by decide +kernel
theorem dL_law_19 : decode cL_law 19 = .ok (.aload_n 0, 1) := by decide +kernel
theorem dL_law_20 : decode cL_law 20 = .ok (.arraylength, 1) := by decide +kernel
theorem dL_law_21 : decode cL_law 21 = .ok (.bipush 6, 2) := by decide +kernel
theorem dL_law_23 : decode cL_law 23 = .ok (.isub, 1) := by decide +kernel
theorem dL_law_24 : decode cL_law 24 = .ok (.if_icmp .gt 965, 3) := by decide +kernel
theorem dL_law_27 : decode cL_law 27 = .ok (.aload_n 0, 1) := by decide +kernel
theorem dL_law_28 : decode cL_law 28 = .ok (.iload_n 3, 1) := by decide +kernel
theorem dL_law_29 : decode cL_law 29 = .ok (.iaload, 1) := by decide +kernel
theorem dL_law_30 : decode cL_law 30 = .ok (.bipush 31, 2) := by decide +kernel
theorem dL_law_32 : decode cL_law 32 = .ok (.iand, 1) := by decide +kernel
theorem dL_law_33 : decode cL_law 33 = .ok (.tableswitch 950 0 19 #[95, 138, 237, 310, 383, 432, 465, 498, 541, 574, 597, 630, 663, 697, 770, 813, 847, 880, 914, 927], 95) := by decide +kernel
theorem dL_law_128 : decode cL_law 128 = .ok (.aload_n 1, 1) := by decide +kernel
theorem dL_law_129 : decode cL_law 129 = .ok (.aload_n 0, 1) := by decide +kernel
theorem dL_law_130 : decode cL_law 130 = .ok (.iload_n 3, 1) := by decide +kernel
theorem dL_law_131 : decode cL_law 131 = .ok (.iconst 1, 1) := by decide +kernel
theorem dL_law_132 : decode cL_law 132 = .ok (.iadd, 1) := by decide +kernel
theorem dL_law_133 : decode cL_law 133 = .ok (.iaload, 1) := by decide +kernel
theorem dL_law_134 : decode cL_law 134 = .ok (.aload_n 0, 1) := by decide +kernel
theorem dL_law_135 : decode cL_law 135 = .ok (.iload_n 3, 1) := by decide +kernel
theorem dL_law_136 : decode cL_law 136 = .ok (.iconst 2, 1) := by decide +kernel
theorem dL_law_137 : decode cL_law 137 = .ok (.iadd, 1) := by decide +kernel
theorem dL_law_138 : decode cL_law 138 = .ok (.iaload, 1) := by decide +kernel
theorem dL_law_139 : decode cL_law 139 = .ok (.aload_n 0, 1) := by decide +kernel
theorem dL_law_140 : decode cL_law 140 = .ok (.iload_n 3, 1) := by decide +kernel
theorem dL_law_141 : decode cL_law 141 = .ok (.iconst 3, 1) := by decide +kernel
theorem dL_law_142 : decode cL_law 142 = .ok (.iadd, 1) := by decide +kernel
theorem dL_law_143 : decode cL_law 143 = .ok (.iaload, 1) := by decide +kernel
theorem dL_law_144 : decode cL_law 144 = .ok (.invokevirtual 13, 3) := by decide +kernel
theorem dL_law_147 : decode cL_law 147 = .ok (.aload_n 2, 1) := by decide +kernel
theorem dL_law_148 : decode cL_law 148 = .ok (.aload_n 0, 1) := by decide +kernel
theorem dL_law_149 : decode cL_law 149 = .ok (.iload_n 3, 1) := by decide +kernel
theorem dL_law_150 : decode cL_law 150 = .ok (.iconst 1, 1) := by decide +kernel
theorem dL_law_151 : decode cL_law 151 = .ok (.iadd, 1) := by decide +kernel
theorem dL_law_152 : decode cL_law 152 = .ok (.iaload, 1) := by decide +kernel
theorem dL_law_153 : decode cL_law 153 = .ok (.aload_n 0, 1) := by decide +kernel
theorem dL_law_154 : decode cL_law 154 = .ok (.iload_n 3, 1) := by decide +kernel
theorem dL_law_155 : decode cL_law 155 = .ok (.iconst 2, 1) := by decide +kernel
theorem dL_law_156 : decode cL_law 156 = .ok (.iadd, 1) := by decide +kernel
theorem dL_law_157 : decode cL_law 157 = .ok (.iaload, 1) := by decide +kernel
theorem dL_law_158 : decode cL_law 158 = .ok (.aload_n 0, 1) := by decide +kernel
theorem dL_law_159 : decode cL_law 159 = .ok (.iload_n 3, 1) := by decide +kernel
theorem dL_law_160 : decode cL_law 160 = .ok (.iconst 3, 1) := by decide +kernel
theorem dL_law_161 : decode cL_law 161 = .ok (.iadd, 1) := by decide +kernel
theorem dL_law_162 : decode cL_law 162 = .ok (.iaload, 1) := by decide +kernel
theorem dL_law_163 : decode cL_law 163 = .ok (.invokevirtual 17, 3) := by decide +kernel
theorem dL_law_166 : decode cL_law 166 = .ok (.if_icmp .eq 817, 3) := by decide +kernel
theorem dL_law_169 : decode cL_law 169 = .ok (.iconst 0, 1) := by decide +kernel
theorem dL_law_170 : decode cL_law 170 = .ok (.ireturn, 1) := by decide +kernel
theorem dL_law_171 : decode cL_law 171 = .ok (.aload_n 1, 1) := by decide +kernel
theorem dL_law_172 : decode cL_law 172 = .ok (.aload_n 0, 1) := by decide +kernel
theorem dL_law_173 : decode cL_law 173 = .ok (.iload_n 3, 1) := by decide +kernel
theorem dL_law_174 : decode cL_law 174 = .ok (.iconst 1, 1) := by decide +kernel
theorem dL_law_175 : decode cL_law 175 = .ok (.iadd, 1) := by decide +kernel
theorem dL_law_176 : decode cL_law 176 = .ok (.iaload, 1) := by decide +kernel
theorem dL_law_177 : decode cL_law 177 = .ok (.aload_n 0, 1) := by decide +kernel
theorem dL_law_178 : decode cL_law 178 = .ok (.iload_n 3, 1) := by decide +kernel
theorem dL_law_179 : decode cL_law 179 = .ok (.iconst 2, 1) := by decide +kernel
theorem dL_law_180 : decode cL_law 180 = .ok (.iadd, 1) := by decide +kernel
theorem dL_law_181 : decode cL_law 181 = .ok (.iaload, 1) := by decide +kernel
theorem dL_law_182 : decode cL_law 182 = .ok (.aload_n 0, 1) := by decide +kernel
theorem dL_law_183 : decode cL_law 183 = .ok (.iload_n 3, 1) := by decide +kernel
theorem dL_law_184 : decode cL_law 184 = .ok (.iconst 3, 1) := by decide +kernel
theorem dL_law_185 : decode cL_law 185 = .ok (.iadd, 1) := by decide +kernel
theorem dL_law_186 : decode cL_law 186 = .ok (.iaload, 1) := by decide +kernel
theorem dL_law_187 : decode cL_law 187 = .ok (.i2l, 1) := by decide +kernel
theorem dL_law_188 : decode cL_law 188 = .ok (.bipush 32, 2) := by decide +kernel
theorem dL_law_190 : decode cL_law 190 = .ok (.lshl, 1) := by decide +kernel
theorem dL_law_191 : decode cL_law 191 = .ok (.aload_n 0, 1) := by decide +kernel
theorem dL_law_192 : decode cL_law 192 = .ok (.iload_n 3, 1) := by decide +kernel
theorem dL_law_193 : decode cL_law 193 = .ok (.iconst 4, 1) := by decide +kernel
theorem dL_law_194 : decode cL_law 194 = .ok (.iadd, 1) := by decide +kernel
theorem dL_law_195 : decode cL_law 195 = .ok (.iaload, 1) := by decide +kernel
theorem dL_law_196 : decode cL_law 196 = .ok (.i2l, 1) := by decide +kernel
theorem dL_law_197 : decode cL_law 197 = .ok (.ldc2_w 18, 3) := by decide +kernel
theorem dL_law_200 : decode cL_law 200 = .ok (.land, 1) := by decide +kernel
theorem dL_law_201 : decode cL_law 201 = .ok (.lor, 1) := by decide +kernel
theorem dL_law_202 : decode cL_law 202 = .ok (.aload_n 0, 1) := by decide +kernel
theorem dL_law_203 : decode cL_law 203 = .ok (.iload_n 3, 1) := by decide +kernel
theorem dL_law_204 : decode cL_law 204 = .ok (.iconst 5, 1) := by decide +kernel
theorem dL_law_205 : decode cL_law 205 = .ok (.iadd, 1) := by decide +kernel
theorem dL_law_206 : decode cL_law 206 = .ok (.iaload, 1) := by decide +kernel
theorem dL_law_207 : decode cL_law 207 = .ok (.ifCond .eq 7, 3) := by decide +kernel
theorem dL_law_210 : decode cL_law 210 = .ok (.iconst 1, 1) := by decide +kernel
theorem dL_law_211 : decode cL_law 211 = .ok (.goto 4, 3) := by decide +kernel
theorem dL_law_214 : decode cL_law 214 = .ok (.iconst 0, 1) := by decide +kernel
theorem dL_law_215 : decode cL_law 215 = .ok (.invokevirtual 20, 3) := by decide +kernel
theorem dL_law_218 : decode cL_law 218 = .ok (.aload_n 2, 1) := by decide +kernel
theorem dL_law_219 : decode cL_law 219 = .ok (.aload_n 0, 1) := by decide +kernel
theorem dL_law_220 : decode cL_law 220 = .ok (.iload_n 3, 1) := by decide +kernel
theorem dL_law_221 : decode cL_law 221 = .ok (.iconst 1, 1) := by decide +kernel
theorem dL_law_222 : decode cL_law 222 = .ok (.iadd, 1) := by decide +kernel
theorem dL_law_223 : decode cL_law 223 = .ok (.iaload, 1) := by decide +kernel
theorem dL_law_224 : decode cL_law 224 = .ok (.aload_n 0, 1) := by decide +kernel
theorem dL_law_225 : decode cL_law 225 = .ok (.iload_n 3, 1) := by decide +kernel
theorem dL_law_226 : decode cL_law 226 = .ok (.iconst 2, 1) := by decide +kernel
theorem dL_law_227 : decode cL_law 227 = .ok (.iadd, 1) := by decide +kernel
theorem dL_law_228 : decode cL_law 228 = .ok (.iaload, 1) := by decide +kernel
theorem dL_law_229 : decode cL_law 229 = .ok (.aload_n 0, 1) := by decide +kernel
theorem dL_law_230 : decode cL_law 230 = .ok (.iload_n 3, 1) := by decide +kernel
theorem dL_law_231 : decode cL_law 231 = .ok (.iconst 3, 1) := by decide +kernel
theorem dL_law_232 : decode cL_law 232 = .ok (.iadd, 1) := by decide +kernel
theorem dL_law_233 : decode cL_law 233 = .ok (.iaload, 1) := by decide +kernel
theorem dL_law_234 : decode cL_law 234 = .ok (.i2l, 1) := by decide +kernel
theorem dL_law_235 : decode cL_law 235 = .ok (.bipush 32, 2) := by decide +kernel
theorem dL_law_237 : decode cL_law 237 = .ok (.lshl, 1) := by decide +kernel
theorem dL_law_238 : decode cL_law 238 = .ok (.aload_n 0, 1) := by decide +kernel
theorem dL_law_239 : decode cL_law 239 = .ok (.iload_n 3, 1) := by decide +kernel
theorem dL_law_240 : decode cL_law 240 = .ok (.iconst 4, 1) := by decide +kernel
theorem dL_law_241 : decode cL_law 241 = .ok (.iadd, 1) := by decide +kernel
theorem dL_law_242 : decode cL_law 242 = .ok (.iaload, 1) := by decide +kernel
theorem dL_law_243 : decode cL_law 243 = .ok (.i2l, 1) := by decide +kernel
theorem dL_law_244 : decode cL_law 244 = .ok (.ldc2_w 18, 3) := by decide +kernel
theorem dL_law_247 : decode cL_law 247 = .ok (.land, 1) := by decide +kernel
theorem dL_law_248 : decode cL_law 248 = .ok (.lor, 1) := by decide +kernel
theorem dL_law_249 : decode cL_law 249 = .ok (.aload_n 0, 1) := by decide +kernel
theorem dL_law_250 : decode cL_law 250 = .ok (.iload_n 3, 1) := by decide +kernel
theorem dL_law_251 : decode cL_law 251 = .ok (.iconst 5, 1) := by decide +kernel
theorem dL_law_252 : decode cL_law 252 = .ok (.iadd, 1) := by decide +kernel
theorem dL_law_253 : decode cL_law 253 = .ok (.iaload, 1) := by decide +kernel
theorem dL_law_254 : decode cL_law 254 = .ok (.ifCond .eq 7, 3) := by decide +kernel
theorem dL_law_257 : decode cL_law 257 = .ok (.iconst 1, 1) := by decide +kernel
theorem dL_law_258 : decode cL_law 258 = .ok (.goto 4, 3) := by decide +kernel
theorem dL_law_261 : decode cL_law 261 = .ok (.iconst 0, 1) := by decide +kernel
theorem dL_law_262 : decode cL_law 262 = .ok (.invokevirtual 24, 3) := by decide +kernel
theorem dL_law_265 : decode cL_law 265 = .ok (.if_icmp .eq 718, 3) := by decide +kernel
theorem dL_law_268 : decode cL_law 268 = .ok (.iconst 0, 1) := by decide +kernel
theorem dL_law_269 : decode cL_law 269 = .ok (.ireturn, 1) := by decide +kernel
theorem dL_law_270 : decode cL_law 270 = .ok (.aload_n 1, 1) := by decide +kernel
theorem dL_law_271 : decode cL_law 271 = .ok (.aload_n 0, 1) := by decide +kernel
theorem dL_law_272 : decode cL_law 272 = .ok (.iload_n 3, 1) := by decide +kernel
theorem dL_law_273 : decode cL_law 273 = .ok (.iconst 1, 1) := by decide +kernel
theorem dL_law_274 : decode cL_law 274 = .ok (.iadd, 1) := by decide +kernel
theorem dL_law_275 : decode cL_law 275 = .ok (.iaload, 1) := by decide +kernel
theorem dL_law_276 : decode cL_law 276 = .ok (.aload_n 0, 1) := by decide +kernel
theorem dL_law_277 : decode cL_law 277 = .ok (.iload_n 3, 1) := by decide +kernel
theorem dL_law_278 : decode cL_law 278 = .ok (.iconst 2, 1) := by decide +kernel
theorem dL_law_279 : decode cL_law 279 = .ok (.iadd, 1) := by decide +kernel
theorem dL_law_280 : decode cL_law 280 = .ok (.iaload, 1) := by decide +kernel
theorem dL_law_281 : decode cL_law 281 = .ok (.aload_n 0, 1) := by decide +kernel
theorem dL_law_282 : decode cL_law 282 = .ok (.iload_n 3, 1) := by decide +kernel
theorem dL_law_283 : decode cL_law 283 = .ok (.iconst 3, 1) := by decide +kernel
theorem dL_law_284 : decode cL_law 284 = .ok (.iadd, 1) := by decide +kernel
theorem dL_law_285 : decode cL_law 285 = .ok (.iaload, 1) := by decide +kernel
theorem dL_law_286 : decode cL_law 286 = .ok (.i2l, 1) := by decide +kernel
theorem dL_law_287 : decode cL_law 287 = .ok (.bipush 32, 2) := by decide +kernel
theorem dL_law_289 : decode cL_law 289 = .ok (.lshl, 1) := by decide +kernel
theorem dL_law_290 : decode cL_law 290 = .ok (.aload_n 0, 1) := by decide +kernel
theorem dL_law_291 : decode cL_law 291 = .ok (.iload_n 3, 1) := by decide +kernel
theorem dL_law_292 : decode cL_law 292 = .ok (.iconst 4, 1) := by decide +kernel
theorem dL_law_293 : decode cL_law 293 = .ok (.iadd, 1) := by decide +kernel
theorem dL_law_294 : decode cL_law 294 = .ok (.iaload, 1) := by decide +kernel
theorem dL_law_295 : decode cL_law 295 = .ok (.i2l, 1) := by decide +kernel
theorem dL_law_296 : decode cL_law 296 = .ok (.ldc2_w 18, 3) := by decide +kernel
theorem dL_law_299 : decode cL_law 299 = .ok (.land, 1) := by decide +kernel
theorem dL_law_300 : decode cL_law 300 = .ok (.lor, 1) := by decide +kernel
theorem dL_law_301 : decode cL_law 301 = .ok (.invokevirtual 25, 3) := by decide +kernel
theorem dL_law_304 : decode cL_law 304 = .ok (.aload_n 2, 1) := by decide +kernel
theorem dL_law_305 : decode cL_law 305 = .ok (.aload_n 0, 1) := by decide +kernel
theorem dL_law_306 : decode cL_law 306 = .ok (.iload_n 3, 1) := by decide +kernel
theorem dL_law_307 : decode cL_law 307 = .ok (.iconst 1, 1) := by decide +kernel
theorem dL_law_308 : decode cL_law 308 = .ok (.iadd, 1) := by decide +kernel
theorem dL_law_309 : decode cL_law 309 = .ok (.iaload, 1) := by decide +kernel
theorem dL_law_310 : decode cL_law 310 = .ok (.aload_n 0, 1) := by decide +kernel
theorem dL_law_311 : decode cL_law 311 = .ok (.iload_n 3, 1) := by decide +kernel
theorem dL_law_312 : decode cL_law 312 = .ok (.iconst 2, 1) := by decide +kernel
theorem dL_law_313 : decode cL_law 313 = .ok (.iadd, 1) := by decide +kernel
theorem dL_law_314 : decode cL_law 314 = .ok (.iaload, 1) := by decide +kernel
theorem dL_law_315 : decode cL_law 315 = .ok (.aload_n 0, 1) := by decide +kernel
theorem dL_law_316 : decode cL_law 316 = .ok (.iload_n 3, 1) := by decide +kernel
theorem dL_law_317 : decode cL_law 317 = .ok (.iconst 3, 1) := by decide +kernel
theorem dL_law_318 : decode cL_law 318 = .ok (.iadd, 1) := by decide +kernel
theorem dL_law_319 : decode cL_law 319 = .ok (.iaload, 1) := by decide +kernel
theorem dL_law_320 : decode cL_law 320 = .ok (.i2l, 1) := by decide +kernel
theorem dL_law_321 : decode cL_law 321 = .ok (.bipush 32, 2) := by decide +kernel
theorem dL_law_323 : decode cL_law 323 = .ok (.lshl, 1) := by decide +kernel
theorem dL_law_324 : decode cL_law 324 = .ok (.aload_n 0, 1) := by decide +kernel
theorem dL_law_325 : decode cL_law 325 = .ok (.iload_n 3, 1) := by decide +kernel
theorem dL_law_326 : decode cL_law 326 = .ok (.iconst 4, 1) := by decide +kernel
theorem dL_law_327 : decode cL_law 327 = .ok (.iadd, 1) := by decide +kernel
theorem dL_law_328 : decode cL_law 328 = .ok (.iaload, 1) := by decide +kernel
theorem dL_law_329 : decode cL_law 329 = .ok (.i2l, 1) := by decide +kernel
theorem dL_law_330 : decode cL_law 330 = .ok (.ldc2_w 18, 3) := by decide +kernel
theorem dL_law_333 : decode cL_law 333 = .ok (.land, 1) := by decide +kernel
theorem dL_law_334 : decode cL_law 334 = .ok (.lor, 1) := by decide +kernel
theorem dL_law_335 : decode cL_law 335 = .ok (.invokevirtual 29, 3) := by decide +kernel
theorem dL_law_338 : decode cL_law 338 = .ok (.if_icmp .eq 645, 3) := by decide +kernel
theorem dL_law_341 : decode cL_law 341 = .ok (.iconst 0, 1) := by decide +kernel
theorem dL_law_342 : decode cL_law 342 = .ok (.ireturn, 1) := by decide +kernel
theorem dL_law_343 : decode cL_law 343 = .ok (.aload_n 1, 1) := by decide +kernel
theorem dL_law_344 : decode cL_law 344 = .ok (.aload_n 0, 1) := by decide +kernel
theorem dL_law_345 : decode cL_law 345 = .ok (.iload_n 3, 1) := by decide +kernel
theorem dL_law_346 : decode cL_law 346 = .ok (.iconst 1, 1) := by decide +kernel
theorem dL_law_347 : decode cL_law 347 = .ok (.iadd, 1) := by decide +kernel
theorem dL_law_348 : decode cL_law 348 = .ok (.iaload, 1) := by decide +kernel
theorem dL_law_349 : decode cL_law 349 = .ok (.aload_n 0, 1) := by decide +kernel
theorem dL_law_350 : decode cL_law 350 = .ok (.iload_n 3, 1) := by decide +kernel
theorem dL_law_351 : decode cL_law 351 = .ok (.iconst 2, 1) := by decide +kernel
theorem dL_law_352 : decode cL_law 352 = .ok (.iadd, 1) := by decide +kernel
theorem dL_law_353 : decode cL_law 353 = .ok (.iaload, 1) := by decide +kernel
theorem dL_law_354 : decode cL_law 354 = .ok (.aload_n 0, 1) := by decide +kernel
theorem dL_law_355 : decode cL_law 355 = .ok (.iload_n 3, 1) := by decide +kernel
theorem dL_law_356 : decode cL_law 356 = .ok (.iconst 3, 1) := by decide +kernel
theorem dL_law_357 : decode cL_law 357 = .ok (.iadd, 1) := by decide +kernel
theorem dL_law_358 : decode cL_law 358 = .ok (.iaload, 1) := by decide +kernel
theorem dL_law_359 : decode cL_law 359 = .ok (.i2l, 1) := by decide +kernel
theorem dL_law_360 : decode cL_law 360 = .ok (.bipush 32, 2) := by decide +kernel
theorem dL_law_362 : decode cL_law 362 = .ok (.lshl, 1) := by decide +kernel
theorem dL_law_363 : decode cL_law 363 = .ok (.aload_n 0, 1) := by decide +kernel
theorem dL_law_364 : decode cL_law 364 = .ok (.iload_n 3, 1) := by decide +kernel
theorem dL_law_365 : decode cL_law 365 = .ok (.iconst 4, 1) := by decide +kernel
theorem dL_law_366 : decode cL_law 366 = .ok (.iadd, 1) := by decide +kernel
theorem dL_law_367 : decode cL_law 367 = .ok (.iaload, 1) := by decide +kernel
theorem dL_law_368 : decode cL_law 368 = .ok (.i2l, 1) := by decide +kernel
theorem dL_law_369 : decode cL_law 369 = .ok (.ldc2_w 18, 3) := by decide +kernel
theorem dL_law_372 : decode cL_law 372 = .ok (.land, 1) := by decide +kernel
theorem dL_law_373 : decode cL_law 373 = .ok (.lor, 1) := by decide +kernel
theorem dL_law_374 : decode cL_law 374 = .ok (.invokevirtual 30, 3) := by decide +kernel
theorem dL_law_377 : decode cL_law 377 = .ok (.aload_n 2, 1) := by decide +kernel
theorem dL_law_378 : decode cL_law 378 = .ok (.aload_n 0, 1) := by decide +kernel
theorem dL_law_379 : decode cL_law 379 = .ok (.iload_n 3, 1) := by decide +kernel
theorem dL_law_380 : decode cL_law 380 = .ok (.iconst 1, 1) := by decide +kernel
theorem dL_law_381 : decode cL_law 381 = .ok (.iadd, 1) := by decide +kernel
theorem dL_law_382 : decode cL_law 382 = .ok (.iaload, 1) := by decide +kernel
theorem dL_law_383 : decode cL_law 383 = .ok (.aload_n 0, 1) := by decide +kernel
theorem dL_law_384 : decode cL_law 384 = .ok (.iload_n 3, 1) := by decide +kernel
theorem dL_law_385 : decode cL_law 385 = .ok (.iconst 2, 1) := by decide +kernel
theorem dL_law_386 : decode cL_law 386 = .ok (.iadd, 1) := by decide +kernel
theorem dL_law_387 : decode cL_law 387 = .ok (.iaload, 1) := by decide +kernel
theorem dL_law_388 : decode cL_law 388 = .ok (.aload_n 0, 1) := by decide +kernel
theorem dL_law_389 : decode cL_law 389 = .ok (.iload_n 3, 1) := by decide +kernel
theorem dL_law_390 : decode cL_law 390 = .ok (.iconst 3, 1) := by decide +kernel
theorem dL_law_391 : decode cL_law 391 = .ok (.iadd, 1) := by decide +kernel
theorem dL_law_392 : decode cL_law 392 = .ok (.iaload, 1) := by decide +kernel
theorem dL_law_393 : decode cL_law 393 = .ok (.i2l, 1) := by decide +kernel
theorem dL_law_394 : decode cL_law 394 = .ok (.bipush 32, 2) := by decide +kernel
theorem dL_law_396 : decode cL_law 396 = .ok (.lshl, 1) := by decide +kernel
theorem dL_law_397 : decode cL_law 397 = .ok (.aload_n 0, 1) := by decide +kernel
theorem dL_law_398 : decode cL_law 398 = .ok (.iload_n 3, 1) := by decide +kernel
theorem dL_law_399 : decode cL_law 399 = .ok (.iconst 4, 1) := by decide +kernel
theorem dL_law_400 : decode cL_law 400 = .ok (.iadd, 1) := by decide +kernel
theorem dL_law_401 : decode cL_law 401 = .ok (.iaload, 1) := by decide +kernel
theorem dL_law_402 : decode cL_law 402 = .ok (.i2l, 1) := by decide +kernel
theorem dL_law_403 : decode cL_law 403 = .ok (.ldc2_w 18, 3) := by decide +kernel
theorem dL_law_406 : decode cL_law 406 = .ok (.land, 1) := by decide +kernel
theorem dL_law_407 : decode cL_law 407 = .ok (.lor, 1) := by decide +kernel
theorem dL_law_408 : decode cL_law 408 = .ok (.invokevirtual 33, 3) := by decide +kernel
theorem dL_law_411 : decode cL_law 411 = .ok (.if_icmp .eq 572, 3) := by decide +kernel
theorem dL_law_414 : decode cL_law 414 = .ok (.iconst 0, 1) := by decide +kernel
theorem dL_law_415 : decode cL_law 415 = .ok (.ireturn, 1) := by decide +kernel
theorem dL_law_416 : decode cL_law 416 = .ok (.aload_n 1, 1) := by decide +kernel
theorem dL_law_417 : decode cL_law 417 = .ok (.aload_n 0, 1) := by decide +kernel
theorem dL_law_418 : decode cL_law 418 = .ok (.iload_n 3, 1) := by decide +kernel
theorem dL_law_419 : decode cL_law 419 = .ok (.iconst 1, 1) := by decide +kernel
theorem dL_law_420 : decode cL_law 420 = .ok (.iadd, 1) := by decide +kernel
theorem dL_law_421 : decode cL_law 421 = .ok (.iaload, 1) := by decide +kernel
theorem dL_law_422 : decode cL_law 422 = .ok (.aload_n 0, 1) := by decide +kernel
theorem dL_law_423 : decode cL_law 423 = .ok (.iload_n 3, 1) := by decide +kernel
theorem dL_law_424 : decode cL_law 424 = .ok (.iconst 2, 1) := by decide +kernel
theorem dL_law_425 : decode cL_law 425 = .ok (.iadd, 1) := by decide +kernel
theorem dL_law_426 : decode cL_law 426 = .ok (.iaload, 1) := by decide +kernel
theorem dL_law_427 : decode cL_law 427 = .ok (.ifCond .eq 7, 3) := by decide +kernel
theorem dL_law_430 : decode cL_law 430 = .ok (.iconst 1, 1) := by decide +kernel
theorem dL_law_431 : decode cL_law 431 = .ok (.goto 4, 3) := by decide +kernel
theorem dL_law_434 : decode cL_law 434 = .ok (.iconst 0, 1) := by decide +kernel
theorem dL_law_435 : decode cL_law 435 = .ok (.invokevirtual 34, 3) := by decide +kernel
theorem dL_law_438 : decode cL_law 438 = .ok (.aload_n 2, 1) := by decide +kernel
theorem dL_law_439 : decode cL_law 439 = .ok (.aload_n 0, 1) := by decide +kernel
theorem dL_law_440 : decode cL_law 440 = .ok (.iload_n 3, 1) := by decide +kernel
theorem dL_law_441 : decode cL_law 441 = .ok (.iconst 1, 1) := by decide +kernel
theorem dL_law_442 : decode cL_law 442 = .ok (.iadd, 1) := by decide +kernel
theorem dL_law_443 : decode cL_law 443 = .ok (.iaload, 1) := by decide +kernel
theorem dL_law_444 : decode cL_law 444 = .ok (.aload_n 0, 1) := by decide +kernel
theorem dL_law_445 : decode cL_law 445 = .ok (.iload_n 3, 1) := by decide +kernel
theorem dL_law_446 : decode cL_law 446 = .ok (.iconst 2, 1) := by decide +kernel
theorem dL_law_447 : decode cL_law 447 = .ok (.iadd, 1) := by decide +kernel
theorem dL_law_448 : decode cL_law 448 = .ok (.iaload, 1) := by decide +kernel
theorem dL_law_449 : decode cL_law 449 = .ok (.ifCond .eq 7, 3) := by decide +kernel
theorem dL_law_452 : decode cL_law 452 = .ok (.iconst 1, 1) := by decide +kernel
theorem dL_law_453 : decode cL_law 453 = .ok (.goto 4, 3) := by decide +kernel
theorem dL_law_456 : decode cL_law 456 = .ok (.iconst 0, 1) := by decide +kernel
theorem dL_law_457 : decode cL_law 457 = .ok (.invokevirtual 38, 3) := by decide +kernel
theorem dL_law_460 : decode cL_law 460 = .ok (.if_icmp .eq 523, 3) := by decide +kernel
theorem dL_law_463 : decode cL_law 463 = .ok (.iconst 0, 1) := by decide +kernel
theorem dL_law_464 : decode cL_law 464 = .ok (.ireturn, 1) := by decide +kernel
theorem dL_law_465 : decode cL_law 465 = .ok (.aload_n 1, 1) := by decide +kernel
theorem dL_law_466 : decode cL_law 466 = .ok (.aload_n 0, 1) := by decide +kernel
theorem dL_law_467 : decode cL_law 467 = .ok (.iload_n 3, 1) := by decide +kernel
theorem dL_law_468 : decode cL_law 468 = .ok (.iconst 1, 1) := by decide +kernel
theorem dL_law_469 : decode cL_law 469 = .ok (.iadd, 1) := by decide +kernel
theorem dL_law_470 : decode cL_law 470 = .ok (.iaload, 1) := by decide +kernel
theorem dL_law_471 : decode cL_law 471 = .ok (.aload_n 0, 1) := by decide +kernel
theorem dL_law_472 : decode cL_law 472 = .ok (.iload_n 3, 1) := by decide +kernel
theorem dL_law_473 : decode cL_law 473 = .ok (.iconst 2, 1) := by decide +kernel
theorem dL_law_474 : decode cL_law 474 = .ok (.iadd, 1) := by decide +kernel
theorem dL_law_475 : decode cL_law 475 = .ok (.iaload, 1) := by decide +kernel
theorem dL_law_476 : decode cL_law 476 = .ok (.invokevirtual 39, 3) := by decide +kernel
theorem dL_law_479 : decode cL_law 479 = .ok (.aload_n 2, 1) := by decide +kernel
theorem dL_law_480 : decode cL_law 480 = .ok (.aload_n 0, 1) := by decide +kernel
theorem dL_law_481 : decode cL_law 481 = .ok (.iload_n 3, 1) := by decide +kernel
theorem dL_law_482 : decode cL_law 482 = .ok (.iconst 1, 1) := by decide +kernel
theorem dL_law_483 : decode cL_law 483 = .ok (.iadd, 1) := by decide +kernel
theorem dL_law_484 : decode cL_law 484 = .ok (.iaload, 1) := by decide +kernel
theorem dL_law_485 : decode cL_law 485 = .ok (.aload_n 0, 1) := by decide +kernel
theorem dL_law_486 : decode cL_law 486 = .ok (.iload_n 3, 1) := by decide +kernel
theorem dL_law_487 : decode cL_law 487 = .ok (.iconst 2, 1) := by decide +kernel
theorem dL_law_488 : decode cL_law 488 = .ok (.iadd, 1) := by decide +kernel
theorem dL_law_489 : decode cL_law 489 = .ok (.iaload, 1) := by decide +kernel
theorem dL_law_490 : decode cL_law 490 = .ok (.invokevirtual 43, 3) := by decide +kernel
theorem dL_law_493 : decode cL_law 493 = .ok (.if_icmp .eq 490, 3) := by decide +kernel
theorem dL_law_496 : decode cL_law 496 = .ok (.iconst 0, 1) := by decide +kernel
theorem dL_law_497 : decode cL_law 497 = .ok (.ireturn, 1) := by decide +kernel
theorem dL_law_498 : decode cL_law 498 = .ok (.aload_n 1, 1) := by decide +kernel
theorem dL_law_499 : decode cL_law 499 = .ok (.aload_n 0, 1) := by decide +kernel
theorem dL_law_500 : decode cL_law 500 = .ok (.iload_n 3, 1) := by decide +kernel
theorem dL_law_501 : decode cL_law 501 = .ok (.iconst 1, 1) := by decide +kernel
theorem dL_law_502 : decode cL_law 502 = .ok (.iadd, 1) := by decide +kernel
theorem dL_law_503 : decode cL_law 503 = .ok (.iaload, 1) := by decide +kernel
theorem dL_law_504 : decode cL_law 504 = .ok (.aload_n 0, 1) := by decide +kernel
theorem dL_law_505 : decode cL_law 505 = .ok (.iload_n 3, 1) := by decide +kernel
theorem dL_law_506 : decode cL_law 506 = .ok (.iconst 2, 1) := by decide +kernel
theorem dL_law_507 : decode cL_law 507 = .ok (.iadd, 1) := by decide +kernel
theorem dL_law_508 : decode cL_law 508 = .ok (.iaload, 1) := by decide +kernel
theorem dL_law_509 : decode cL_law 509 = .ok (.invokevirtual 44, 3) := by decide +kernel
theorem dL_law_512 : decode cL_law 512 = .ok (.aload_n 2, 1) := by decide +kernel
theorem dL_law_513 : decode cL_law 513 = .ok (.aload_n 0, 1) := by decide +kernel
theorem dL_law_514 : decode cL_law 514 = .ok (.iload_n 3, 1) := by decide +kernel
theorem dL_law_515 : decode cL_law 515 = .ok (.iconst 1, 1) := by decide +kernel
theorem dL_law_516 : decode cL_law 516 = .ok (.iadd, 1) := by decide +kernel
theorem dL_law_517 : decode cL_law 517 = .ok (.iaload, 1) := by decide +kernel
theorem dL_law_518 : decode cL_law 518 = .ok (.aload_n 0, 1) := by decide +kernel
theorem dL_law_519 : decode cL_law 519 = .ok (.iload_n 3, 1) := by decide +kernel
theorem dL_law_520 : decode cL_law 520 = .ok (.iconst 2, 1) := by decide +kernel
theorem dL_law_521 : decode cL_law 521 = .ok (.iadd, 1) := by decide +kernel
theorem dL_law_522 : decode cL_law 522 = .ok (.iaload, 1) := by decide +kernel
theorem dL_law_523 : decode cL_law 523 = .ok (.invokevirtual 47, 3) := by decide +kernel
theorem dL_law_526 : decode cL_law 526 = .ok (.if_icmp .eq 457, 3) := by decide +kernel
theorem dL_law_529 : decode cL_law 529 = .ok (.iconst 0, 1) := by decide +kernel
theorem dL_law_530 : decode cL_law 530 = .ok (.ireturn, 1) := by decide +kernel
theorem dL_law_531 : decode cL_law 531 = .ok (.aload_n 1, 1) := by decide +kernel
theorem dL_law_532 : decode cL_law 532 = .ok (.aload_n 0, 1) := by decide +kernel
theorem dL_law_533 : decode cL_law 533 = .ok (.iload_n 3, 1) := by decide +kernel
theorem dL_law_534 : decode cL_law 534 = .ok (.iconst 1, 1) := by decide +kernel
theorem dL_law_535 : decode cL_law 535 = .ok (.iadd, 1) := by decide +kernel
theorem dL_law_536 : decode cL_law 536 = .ok (.iaload, 1) := by decide +kernel
theorem dL_law_537 : decode cL_law 537 = .ok (.aload_n 0, 1) := by decide +kernel
theorem dL_law_538 : decode cL_law 538 = .ok (.iload_n 3, 1) := by decide +kernel
theorem dL_law_539 : decode cL_law 539 = .ok (.iconst 2, 1) := by decide +kernel
theorem dL_law_540 : decode cL_law 540 = .ok (.iadd, 1) := by decide +kernel
theorem dL_law_541 : decode cL_law 541 = .ok (.iaload, 1) := by decide +kernel
theorem dL_law_542 : decode cL_law 542 = .ok (.aload_n 0, 1) := by decide +kernel
theorem dL_law_543 : decode cL_law 543 = .ok (.iload_n 3, 1) := by decide +kernel
theorem dL_law_544 : decode cL_law 544 = .ok (.iconst 3, 1) := by decide +kernel
theorem dL_law_545 : decode cL_law 545 = .ok (.iadd, 1) := by decide +kernel
theorem dL_law_546 : decode cL_law 546 = .ok (.iaload, 1) := by decide +kernel
theorem dL_law_547 : decode cL_law 547 = .ok (.invokevirtual 48, 3) := by decide +kernel
theorem dL_law_550 : decode cL_law 550 = .ok (.aload_n 2, 1) := by decide +kernel
theorem dL_law_551 : decode cL_law 551 = .ok (.aload_n 0, 1) := by decide +kernel
theorem dL_law_552 : decode cL_law 552 = .ok (.iload_n 3, 1) := by decide +kernel
theorem dL_law_553 : decode cL_law 553 = .ok (.iconst 1, 1) := by decide +kernel
theorem dL_law_554 : decode cL_law 554 = .ok (.iadd, 1) := by decide +kernel
theorem dL_law_555 : decode cL_law 555 = .ok (.iaload, 1) := by decide +kernel
theorem dL_law_556 : decode cL_law 556 = .ok (.aload_n 0, 1) := by decide +kernel
theorem dL_law_557 : decode cL_law 557 = .ok (.iload_n 3, 1) := by decide +kernel
theorem dL_law_558 : decode cL_law 558 = .ok (.iconst 2, 1) := by decide +kernel
theorem dL_law_559 : decode cL_law 559 = .ok (.iadd, 1) := by decide +kernel
theorem dL_law_560 : decode cL_law 560 = .ok (.iaload, 1) := by decide +kernel
theorem dL_law_561 : decode cL_law 561 = .ok (.aload_n 0, 1) := by decide +kernel
theorem dL_law_562 : decode cL_law 562 = .ok (.iload_n 3, 1) := by decide +kernel
theorem dL_law_563 : decode cL_law 563 = .ok (.iconst 3, 1) := by decide +kernel
theorem dL_law_564 : decode cL_law 564 = .ok (.iadd, 1) := by decide +kernel
theorem dL_law_565 : decode cL_law 565 = .ok (.iaload, 1) := by decide +kernel
theorem dL_law_566 : decode cL_law 566 = .ok (.invokevirtual 51, 3) := by decide +kernel
theorem dL_law_569 : decode cL_law 569 = .ok (.if_icmp .eq 414, 3) := by decide +kernel
theorem dL_law_572 : decode cL_law 572 = .ok (.iconst 0, 1) := by decide +kernel
theorem dL_law_573 : decode cL_law 573 = .ok (.ireturn, 1) := by decide +kernel
theorem dL_law_574 : decode cL_law 574 = .ok (.aload_n 1, 1) := by decide +kernel
theorem dL_law_575 : decode cL_law 575 = .ok (.aload_n 0, 1) := by decide +kernel
theorem dL_law_576 : decode cL_law 576 = .ok (.iload_n 3, 1) := by decide +kernel
theorem dL_law_577 : decode cL_law 577 = .ok (.iconst 1, 1) := by decide +kernel
theorem dL_law_578 : decode cL_law 578 = .ok (.iadd, 1) := by decide +kernel
theorem dL_law_579 : decode cL_law 579 = .ok (.iaload, 1) := by decide +kernel
theorem dL_law_580 : decode cL_law 580 = .ok (.aload_n 0, 1) := by decide +kernel
theorem dL_law_581 : decode cL_law 581 = .ok (.iload_n 3, 1) := by decide +kernel
theorem dL_law_582 : decode cL_law 582 = .ok (.iconst 2, 1) := by decide +kernel
theorem dL_law_583 : decode cL_law 583 = .ok (.iadd, 1) := by decide +kernel
theorem dL_law_584 : decode cL_law 584 = .ok (.iaload, 1) := by decide +kernel
theorem dL_law_585 : decode cL_law 585 = .ok (.invokevirtual 52, 3) := by decide +kernel
theorem dL_law_588 : decode cL_law 588 = .ok (.aload_n 2, 1) := by decide +kernel
theorem dL_law_589 : decode cL_law 589 = .ok (.aload_n 0, 1) := by decide +kernel
theorem dL_law_590 : decode cL_law 590 = .ok (.iload_n 3, 1) := by decide +kernel
theorem dL_law_591 : decode cL_law 591 = .ok (.iconst 1, 1) := by decide +kernel
theorem dL_law_592 : decode cL_law 592 = .ok (.iadd, 1) := by decide +kernel
theorem dL_law_593 : decode cL_law 593 = .ok (.iaload, 1) := by decide +kernel
theorem dL_law_594 : decode cL_law 594 = .ok (.aload_n 0, 1) := by decide +kernel
theorem dL_law_595 : decode cL_law 595 = .ok (.iload_n 3, 1) := by decide +kernel
theorem dL_law_596 : decode cL_law 596 = .ok (.iconst 2, 1) := by decide +kernel
theorem dL_law_597 : decode cL_law 597 = .ok (.iadd, 1) := by decide +kernel
theorem dL_law_598 : decode cL_law 598 = .ok (.iaload, 1) := by decide +kernel
theorem dL_law_599 : decode cL_law 599 = .ok (.invokevirtual 55, 3) := by decide +kernel
theorem dL_law_602 : decode cL_law 602 = .ok (.if_icmp .eq 381, 3) := by decide +kernel
theorem dL_law_605 : decode cL_law 605 = .ok (.iconst 0, 1) := by decide +kernel
theorem dL_law_606 : decode cL_law 606 = .ok (.ireturn, 1) := by decide +kernel
theorem dL_law_607 : decode cL_law 607 = .ok (.aload_n 1, 1) := by decide +kernel
theorem dL_law_608 : decode cL_law 608 = .ok (.aload_n 0, 1) := by decide +kernel
theorem dL_law_609 : decode cL_law 609 = .ok (.iload_n 3, 1) := by decide +kernel
theorem dL_law_610 : decode cL_law 610 = .ok (.iconst 1, 1) := by decide +kernel
theorem dL_law_611 : decode cL_law 611 = .ok (.iadd, 1) := by decide +kernel
theorem dL_law_612 : decode cL_law 612 = .ok (.iaload, 1) := by decide +kernel
theorem dL_law_613 : decode cL_law 613 = .ok (.invokevirtual 56, 3) := by decide +kernel
theorem dL_law_616 : decode cL_law 616 = .ok (.aload_n 2, 1) := by decide +kernel
theorem dL_law_617 : decode cL_law 617 = .ok (.aload_n 0, 1) := by decide +kernel
theorem dL_law_618 : decode cL_law 618 = .ok (.iload_n 3, 1) := by decide +kernel
theorem dL_law_619 : decode cL_law 619 = .ok (.iconst 1, 1) := by decide +kernel
theorem dL_law_620 : decode cL_law 620 = .ok (.iadd, 1) := by decide +kernel
theorem dL_law_621 : decode cL_law 621 = .ok (.iaload, 1) := by decide +kernel
theorem dL_law_622 : decode cL_law 622 = .ok (.invokevirtual 60, 3) := by decide +kernel
theorem dL_law_625 : decode cL_law 625 = .ok (.if_icmp .eq 358, 3) := by decide +kernel
theorem dL_law_628 : decode cL_law 628 = .ok (.iconst 0, 1) := by decide +kernel
theorem dL_law_629 : decode cL_law 629 = .ok (.ireturn, 1) := by decide +kernel
theorem dL_law_630 : decode cL_law 630 = .ok (.aload_n 1, 1) := by decide +kernel
theorem dL_law_631 : decode cL_law 631 = .ok (.aload_n 0, 1) := by decide +kernel
theorem dL_law_632 : decode cL_law 632 = .ok (.iload_n 3, 1) := by decide +kernel
theorem dL_law_633 : decode cL_law 633 = .ok (.iconst 1, 1) := by decide +kernel
theorem dL_law_634 : decode cL_law 634 = .ok (.iadd, 1) := by decide +kernel
theorem dL_law_635 : decode cL_law 635 = .ok (.iaload, 1) := by decide +kernel
theorem dL_law_636 : decode cL_law 636 = .ok (.aload_n 0, 1) := by decide +kernel
theorem dL_law_637 : decode cL_law 637 = .ok (.iload_n 3, 1) := by decide +kernel
theorem dL_law_638 : decode cL_law 638 = .ok (.iconst 2, 1) := by decide +kernel
theorem dL_law_639 : decode cL_law 639 = .ok (.iadd, 1) := by decide +kernel
theorem dL_law_640 : decode cL_law 640 = .ok (.iaload, 1) := by decide +kernel
theorem dL_law_641 : decode cL_law 641 = .ok (.invokevirtual 61, 3) := by decide +kernel
theorem dL_law_644 : decode cL_law 644 = .ok (.aload_n 2, 1) := by decide +kernel
theorem dL_law_645 : decode cL_law 645 = .ok (.aload_n 0, 1) := by decide +kernel
theorem dL_law_646 : decode cL_law 646 = .ok (.iload_n 3, 1) := by decide +kernel
theorem dL_law_647 : decode cL_law 647 = .ok (.iconst 1, 1) := by decide +kernel
theorem dL_law_648 : decode cL_law 648 = .ok (.iadd, 1) := by decide +kernel
theorem dL_law_649 : decode cL_law 649 = .ok (.iaload, 1) := by decide +kernel
theorem dL_law_650 : decode cL_law 650 = .ok (.aload_n 0, 1) := by decide +kernel
theorem dL_law_651 : decode cL_law 651 = .ok (.iload_n 3, 1) := by decide +kernel
theorem dL_law_652 : decode cL_law 652 = .ok (.iconst 2, 1) := by decide +kernel
theorem dL_law_653 : decode cL_law 653 = .ok (.iadd, 1) := by decide +kernel
theorem dL_law_654 : decode cL_law 654 = .ok (.iaload, 1) := by decide +kernel
theorem dL_law_655 : decode cL_law 655 = .ok (.invokevirtual 64, 3) := by decide +kernel
theorem dL_law_658 : decode cL_law 658 = .ok (.if_icmp .eq 325, 3) := by decide +kernel
theorem dL_law_661 : decode cL_law 661 = .ok (.iconst 0, 1) := by decide +kernel
theorem dL_law_662 : decode cL_law 662 = .ok (.ireturn, 1) := by decide +kernel
theorem dL_law_663 : decode cL_law 663 = .ok (.aload_n 1, 1) := by decide +kernel
theorem dL_law_664 : decode cL_law 664 = .ok (.aload_n 0, 1) := by decide +kernel
theorem dL_law_665 : decode cL_law 665 = .ok (.iload_n 3, 1) := by decide +kernel
theorem dL_law_666 : decode cL_law 666 = .ok (.iconst 1, 1) := by decide +kernel
theorem dL_law_667 : decode cL_law 667 = .ok (.iadd, 1) := by decide +kernel
theorem dL_law_668 : decode cL_law 668 = .ok (.iaload, 1) := by decide +kernel
theorem dL_law_669 : decode cL_law 669 = .ok (.aload_n 0, 1) := by decide +kernel
theorem dL_law_670 : decode cL_law 670 = .ok (.iload_n 3, 1) := by decide +kernel
theorem dL_law_671 : decode cL_law 671 = .ok (.iconst 2, 1) := by decide +kernel
theorem dL_law_672 : decode cL_law 672 = .ok (.iadd, 1) := by decide +kernel
theorem dL_law_673 : decode cL_law 673 = .ok (.iaload, 1) := by decide +kernel
theorem dL_law_674 : decode cL_law 674 = .ok (.invokevirtual 65, 3) := by decide +kernel
theorem dL_law_677 : decode cL_law 677 = .ok (.aload_n 2, 1) := by decide +kernel
theorem dL_law_678 : decode cL_law 678 = .ok (.aload_n 0, 1) := by decide +kernel
theorem dL_law_679 : decode cL_law 679 = .ok (.iload_n 3, 1) := by decide +kernel
theorem dL_law_680 : decode cL_law 680 = .ok (.iconst 1, 1) := by decide +kernel
theorem dL_law_681 : decode cL_law 681 = .ok (.iadd, 1) := by decide +kernel
theorem dL_law_682 : decode cL_law 682 = .ok (.iaload, 1) := by decide +kernel
theorem dL_law_683 : decode cL_law 683 = .ok (.aload_n 0, 1) := by decide +kernel
theorem dL_law_684 : decode cL_law 684 = .ok (.iload_n 3, 1) := by decide +kernel
theorem dL_law_685 : decode cL_law 685 = .ok (.iconst 2, 1) := by decide +kernel
theorem dL_law_686 : decode cL_law 686 = .ok (.iadd, 1) := by decide +kernel
theorem dL_law_687 : decode cL_law 687 = .ok (.iaload, 1) := by decide +kernel
theorem dL_law_688 : decode cL_law 688 = .ok (.invokevirtual 68, 3) := by decide +kernel
theorem dL_law_691 : decode cL_law 691 = .ok (.if_icmp .eq 292, 3) := by decide +kernel
theorem dL_law_694 : decode cL_law 694 = .ok (.iconst 0, 1) := by decide +kernel
theorem dL_law_695 : decode cL_law 695 = .ok (.ireturn, 1) := by decide +kernel
theorem dL_law_696 : decode cL_law 696 = .ok (.aload_n 1, 1) := by decide +kernel
theorem dL_law_697 : decode cL_law 697 = .ok (.aload_n 0, 1) := by decide +kernel
theorem dL_law_698 : decode cL_law 698 = .ok (.iload_n 3, 1) := by decide +kernel
theorem dL_law_699 : decode cL_law 699 = .ok (.iconst 1, 1) := by decide +kernel
theorem dL_law_700 : decode cL_law 700 = .ok (.iadd, 1) := by decide +kernel
theorem dL_law_701 : decode cL_law 701 = .ok (.iaload, 1) := by decide +kernel
theorem dL_law_702 : decode cL_law 702 = .ok (.aload_n 0, 1) := by decide +kernel
theorem dL_law_703 : decode cL_law 703 = .ok (.iload_n 3, 1) := by decide +kernel
theorem dL_law_704 : decode cL_law 704 = .ok (.iconst 2, 1) := by decide +kernel
theorem dL_law_705 : decode cL_law 705 = .ok (.iadd, 1) := by decide +kernel
theorem dL_law_706 : decode cL_law 706 = .ok (.iaload, 1) := by decide +kernel
theorem dL_law_707 : decode cL_law 707 = .ok (.invokevirtual 69, 3) := by decide +kernel
theorem dL_law_710 : decode cL_law 710 = .ok (.aload_n 2, 1) := by decide +kernel
theorem dL_law_711 : decode cL_law 711 = .ok (.aload_n 0, 1) := by decide +kernel
theorem dL_law_712 : decode cL_law 712 = .ok (.iload_n 3, 1) := by decide +kernel
theorem dL_law_713 : decode cL_law 713 = .ok (.iconst 1, 1) := by decide +kernel
theorem dL_law_714 : decode cL_law 714 = .ok (.iadd, 1) := by decide +kernel
theorem dL_law_715 : decode cL_law 715 = .ok (.iaload, 1) := by decide +kernel
theorem dL_law_716 : decode cL_law 716 = .ok (.aload_n 0, 1) := by decide +kernel
theorem dL_law_717 : decode cL_law 717 = .ok (.iload_n 3, 1) := by decide +kernel
theorem dL_law_718 : decode cL_law 718 = .ok (.iconst 2, 1) := by decide +kernel
theorem dL_law_719 : decode cL_law 719 = .ok (.iadd, 1) := by decide +kernel
theorem dL_law_720 : decode cL_law 720 = .ok (.iaload, 1) := by decide +kernel
theorem dL_law_721 : decode cL_law 721 = .ok (.invokevirtual 73, 3) := by decide +kernel
theorem dL_law_724 : decode cL_law 724 = .ok (.lcmp, 1) := by decide +kernel
theorem dL_law_725 : decode cL_law 725 = .ok (.ifCond .eq 258, 3) := by decide +kernel
theorem dL_law_728 : decode cL_law 728 = .ok (.iconst 0, 1) := by decide +kernel
theorem dL_law_729 : decode cL_law 729 = .ok (.ireturn, 1) := by decide +kernel
theorem dL_law_730 : decode cL_law 730 = .ok (.aload_n 1, 1) := by decide +kernel
theorem dL_law_731 : decode cL_law 731 = .ok (.aload_n 0, 1) := by decide +kernel
theorem dL_law_732 : decode cL_law 732 = .ok (.iload_n 3, 1) := by decide +kernel
theorem dL_law_733 : decode cL_law 733 = .ok (.iconst 1, 1) := by decide +kernel
theorem dL_law_734 : decode cL_law 734 = .ok (.iadd, 1) := by decide +kernel
theorem dL_law_735 : decode cL_law 735 = .ok (.iaload, 1) := by decide +kernel
theorem dL_law_736 : decode cL_law 736 = .ok (.aload_n 0, 1) := by decide +kernel
theorem dL_law_737 : decode cL_law 737 = .ok (.iload_n 3, 1) := by decide +kernel
theorem dL_law_738 : decode cL_law 738 = .ok (.iconst 2, 1) := by decide +kernel
theorem dL_law_739 : decode cL_law 739 = .ok (.iadd, 1) := by decide +kernel
theorem dL_law_740 : decode cL_law 740 = .ok (.iaload, 1) := by decide +kernel
theorem dL_law_741 : decode cL_law 741 = .ok (.aload_n 0, 1) := by decide +kernel
theorem dL_law_742 : decode cL_law 742 = .ok (.iload_n 3, 1) := by decide +kernel
theorem dL_law_743 : decode cL_law 743 = .ok (.iconst 3, 1) := by decide +kernel
theorem dL_law_744 : decode cL_law 744 = .ok (.iadd, 1) := by decide +kernel
theorem dL_law_745 : decode cL_law 745 = .ok (.iaload, 1) := by decide +kernel
theorem dL_law_746 : decode cL_law 746 = .ok (.i2l, 1) := by decide +kernel
theorem dL_law_747 : decode cL_law 747 = .ok (.bipush 32, 2) := by decide +kernel
theorem dL_law_749 : decode cL_law 749 = .ok (.lshl, 1) := by decide +kernel
theorem dL_law_750 : decode cL_law 750 = .ok (.aload_n 0, 1) := by decide +kernel
theorem dL_law_751 : decode cL_law 751 = .ok (.iload_n 3, 1) := by decide +kernel
theorem dL_law_752 : decode cL_law 752 = .ok (.iconst 4, 1) := by decide +kernel
theorem dL_law_753 : decode cL_law 753 = .ok (.iadd, 1) := by decide +kernel
theorem dL_law_754 : decode cL_law 754 = .ok (.iaload, 1) := by decide +kernel
theorem dL_law_755 : decode cL_law 755 = .ok (.i2l, 1) := by decide +kernel
theorem dL_law_756 : decode cL_law 756 = .ok (.ldc2_w 18, 3) := by decide +kernel
theorem dL_law_759 : decode cL_law 759 = .ok (.land, 1) := by decide +kernel
theorem dL_law_760 : decode cL_law 760 = .ok (.lor, 1) := by decide +kernel
theorem dL_law_761 : decode cL_law 761 = .ok (.invokevirtual 74, 3) := by decide +kernel
theorem dL_law_764 : decode cL_law 764 = .ok (.aload_n 2, 1) := by decide +kernel
theorem dL_law_765 : decode cL_law 765 = .ok (.aload_n 0, 1) := by decide +kernel
theorem dL_law_766 : decode cL_law 766 = .ok (.iload_n 3, 1) := by decide +kernel
theorem dL_law_767 : decode cL_law 767 = .ok (.iconst 1, 1) := by decide +kernel
theorem dL_law_768 : decode cL_law 768 = .ok (.iadd, 1) := by decide +kernel
theorem dL_law_769 : decode cL_law 769 = .ok (.iaload, 1) := by decide +kernel
theorem dL_law_770 : decode cL_law 770 = .ok (.aload_n 0, 1) := by decide +kernel
theorem dL_law_771 : decode cL_law 771 = .ok (.iload_n 3, 1) := by decide +kernel
theorem dL_law_772 : decode cL_law 772 = .ok (.iconst 2, 1) := by decide +kernel
theorem dL_law_773 : decode cL_law 773 = .ok (.iadd, 1) := by decide +kernel
theorem dL_law_774 : decode cL_law 774 = .ok (.iaload, 1) := by decide +kernel
theorem dL_law_775 : decode cL_law 775 = .ok (.aload_n 0, 1) := by decide +kernel
theorem dL_law_776 : decode cL_law 776 = .ok (.iload_n 3, 1) := by decide +kernel
theorem dL_law_777 : decode cL_law 777 = .ok (.iconst 3, 1) := by decide +kernel
theorem dL_law_778 : decode cL_law 778 = .ok (.iadd, 1) := by decide +kernel
theorem dL_law_779 : decode cL_law 779 = .ok (.iaload, 1) := by decide +kernel
theorem dL_law_780 : decode cL_law 780 = .ok (.i2l, 1) := by decide +kernel
theorem dL_law_781 : decode cL_law 781 = .ok (.bipush 32, 2) := by decide +kernel
theorem dL_law_783 : decode cL_law 783 = .ok (.lshl, 1) := by decide +kernel
theorem dL_law_784 : decode cL_law 784 = .ok (.aload_n 0, 1) := by decide +kernel
theorem dL_law_785 : decode cL_law 785 = .ok (.iload_n 3, 1) := by decide +kernel
theorem dL_law_786 : decode cL_law 786 = .ok (.iconst 4, 1) := by decide +kernel
theorem dL_law_787 : decode cL_law 787 = .ok (.iadd, 1) := by decide +kernel
theorem dL_law_788 : decode cL_law 788 = .ok (.iaload, 1) := by decide +kernel
theorem dL_law_789 : decode cL_law 789 = .ok (.i2l, 1) := by decide +kernel
theorem dL_law_790 : decode cL_law 790 = .ok (.ldc2_w 18, 3) := by decide +kernel
theorem dL_law_793 : decode cL_law 793 = .ok (.land, 1) := by decide +kernel
theorem dL_law_794 : decode cL_law 794 = .ok (.lor, 1) := by decide +kernel
theorem dL_law_795 : decode cL_law 795 = .ok (.invokevirtual 77, 3) := by decide +kernel
theorem dL_law_798 : decode cL_law 798 = .ok (.if_icmp .eq 185, 3) := by decide +kernel
theorem dL_law_801 : decode cL_law 801 = .ok (.iconst 0, 1) := by decide +kernel
theorem dL_law_802 : decode cL_law 802 = .ok (.ireturn, 1) := by decide +kernel
theorem dL_law_803 : decode cL_law 803 = .ok (.aload_n 1, 1) := by decide +kernel
theorem dL_law_804 : decode cL_law 804 = .ok (.aload_n 0, 1) := by decide +kernel
theorem dL_law_805 : decode cL_law 805 = .ok (.iload_n 3, 1) := by decide +kernel
theorem dL_law_806 : decode cL_law 806 = .ok (.iconst 1, 1) := by decide +kernel
theorem dL_law_807 : decode cL_law 807 = .ok (.iadd, 1) := by decide +kernel
theorem dL_law_808 : decode cL_law 808 = .ok (.iaload, 1) := by decide +kernel
theorem dL_law_809 : decode cL_law 809 = .ok (.aload_n 0, 1) := by decide +kernel
theorem dL_law_810 : decode cL_law 810 = .ok (.iload_n 3, 1) := by decide +kernel
theorem dL_law_811 : decode cL_law 811 = .ok (.iconst 2, 1) := by decide +kernel
theorem dL_law_812 : decode cL_law 812 = .ok (.iadd, 1) := by decide +kernel
theorem dL_law_813 : decode cL_law 813 = .ok (.iaload, 1) := by decide +kernel
theorem dL_law_814 : decode cL_law 814 = .ok (.aload_n 0, 1) := by decide +kernel
theorem dL_law_815 : decode cL_law 815 = .ok (.iload_n 3, 1) := by decide +kernel
theorem dL_law_816 : decode cL_law 816 = .ok (.iconst 3, 1) := by decide +kernel
theorem dL_law_817 : decode cL_law 817 = .ok (.iadd, 1) := by decide +kernel
theorem dL_law_818 : decode cL_law 818 = .ok (.iaload, 1) := by decide +kernel
theorem dL_law_819 : decode cL_law 819 = .ok (.invokevirtual 78, 3) := by decide +kernel
theorem dL_law_822 : decode cL_law 822 = .ok (.aload_n 2, 1) := by decide +kernel
theorem dL_law_823 : decode cL_law 823 = .ok (.aload_n 0, 1) := by decide +kernel
theorem dL_law_824 : decode cL_law 824 = .ok (.iload_n 3, 1) := by decide +kernel
theorem dL_law_825 : decode cL_law 825 = .ok (.iconst 1, 1) := by decide +kernel
theorem dL_law_826 : decode cL_law 826 = .ok (.iadd, 1) := by decide +kernel
theorem dL_law_827 : decode cL_law 827 = .ok (.iaload, 1) := by decide +kernel
theorem dL_law_828 : decode cL_law 828 = .ok (.aload_n 0, 1) := by decide +kernel
theorem dL_law_829 : decode cL_law 829 = .ok (.iload_n 3, 1) := by decide +kernel
theorem dL_law_830 : decode cL_law 830 = .ok (.iconst 2, 1) := by decide +kernel
theorem dL_law_831 : decode cL_law 831 = .ok (.iadd, 1) := by decide +kernel
theorem dL_law_832 : decode cL_law 832 = .ok (.iaload, 1) := by decide +kernel
theorem dL_law_833 : decode cL_law 833 = .ok (.aload_n 0, 1) := by decide +kernel
theorem dL_law_834 : decode cL_law 834 = .ok (.iload_n 3, 1) := by decide +kernel
theorem dL_law_835 : decode cL_law 835 = .ok (.iconst 3, 1) := by decide +kernel
theorem dL_law_836 : decode cL_law 836 = .ok (.iadd, 1) := by decide +kernel
theorem dL_law_837 : decode cL_law 837 = .ok (.iaload, 1) := by decide +kernel
theorem dL_law_838 : decode cL_law 838 = .ok (.invokevirtual 81, 3) := by decide +kernel
theorem dL_law_841 : decode cL_law 841 = .ok (.if_icmp .eq 142, 3) := by decide +kernel
theorem dL_law_844 : decode cL_law 844 = .ok (.iconst 0, 1) := by decide +kernel
theorem dL_law_845 : decode cL_law 845 = .ok (.ireturn, 1) := by decide +kernel
theorem dL_law_846 : decode cL_law 846 = .ok (.aload_n 1, 1) := by decide +kernel
theorem dL_law_847 : decode cL_law 847 = .ok (.aload_n 0, 1) := by decide +kernel
theorem dL_law_848 : decode cL_law 848 = .ok (.iload_n 3, 1) := by decide +kernel
theorem dL_law_849 : decode cL_law 849 = .ok (.iconst 1, 1) := by decide +kernel
theorem dL_law_850 : decode cL_law 850 = .ok (.iadd, 1) := by decide +kernel
theorem dL_law_851 : decode cL_law 851 = .ok (.iaload, 1) := by decide +kernel
theorem dL_law_852 : decode cL_law 852 = .ok (.aload_n 0, 1) := by decide +kernel
theorem dL_law_853 : decode cL_law 853 = .ok (.iload_n 3, 1) := by decide +kernel
theorem dL_law_854 : decode cL_law 854 = .ok (.iconst 2, 1) := by decide +kernel
theorem dL_law_855 : decode cL_law 855 = .ok (.iadd, 1) := by decide +kernel
theorem dL_law_856 : decode cL_law 856 = .ok (.iaload, 1) := by decide +kernel
theorem dL_law_857 : decode cL_law 857 = .ok (.invokevirtual 82, 3) := by decide +kernel
theorem dL_law_860 : decode cL_law 860 = .ok (.aload_n 2, 1) := by decide +kernel
theorem dL_law_861 : decode cL_law 861 = .ok (.aload_n 0, 1) := by decide +kernel
theorem dL_law_862 : decode cL_law 862 = .ok (.iload_n 3, 1) := by decide +kernel
theorem dL_law_863 : decode cL_law 863 = .ok (.iconst 1, 1) := by decide +kernel
theorem dL_law_864 : decode cL_law 864 = .ok (.iadd, 1) := by decide +kernel
theorem dL_law_865 : decode cL_law 865 = .ok (.iaload, 1) := by decide +kernel
theorem dL_law_866 : decode cL_law 866 = .ok (.aload_n 0, 1) := by decide +kernel
theorem dL_law_867 : decode cL_law 867 = .ok (.iload_n 3, 1) := by decide +kernel
theorem dL_law_868 : decode cL_law 868 = .ok (.iconst 2, 1) := by decide +kernel
theorem dL_law_869 : decode cL_law 869 = .ok (.iadd, 1) := by decide +kernel
theorem dL_law_870 : decode cL_law 870 = .ok (.iaload, 1) := by decide +kernel
theorem dL_law_871 : decode cL_law 871 = .ok (.invokevirtual 85, 3) := by decide +kernel
theorem dL_law_874 : decode cL_law 874 = .ok (.lcmp, 1) := by decide +kernel
theorem dL_law_875 : decode cL_law 875 = .ok (.ifCond .eq 108, 3) := by decide +kernel
theorem dL_law_878 : decode cL_law 878 = .ok (.iconst 0, 1) := by decide +kernel
theorem dL_law_879 : decode cL_law 879 = .ok (.ireturn, 1) := by decide +kernel
theorem dL_law_880 : decode cL_law 880 = .ok (.aload_n 1, 1) := by decide +kernel
theorem dL_law_881 : decode cL_law 881 = .ok (.aload_n 0, 1) := by decide +kernel
theorem dL_law_882 : decode cL_law 882 = .ok (.iload_n 3, 1) := by decide +kernel
theorem dL_law_883 : decode cL_law 883 = .ok (.iconst 1, 1) := by decide +kernel
theorem dL_law_884 : decode cL_law 884 = .ok (.iadd, 1) := by decide +kernel
theorem dL_law_885 : decode cL_law 885 = .ok (.iaload, 1) := by decide +kernel
theorem dL_law_886 : decode cL_law 886 = .ok (.aload_n 0, 1) := by decide +kernel
theorem dL_law_887 : decode cL_law 887 = .ok (.iload_n 3, 1) := by decide +kernel
theorem dL_law_888 : decode cL_law 888 = .ok (.iconst 2, 1) := by decide +kernel
theorem dL_law_889 : decode cL_law 889 = .ok (.iadd, 1) := by decide +kernel
theorem dL_law_890 : decode cL_law 890 = .ok (.iaload, 1) := by decide +kernel
theorem dL_law_891 : decode cL_law 891 = .ok (.invokevirtual 86, 3) := by decide +kernel
theorem dL_law_894 : decode cL_law 894 = .ok (.aload_n 2, 1) := by decide +kernel
theorem dL_law_895 : decode cL_law 895 = .ok (.aload_n 0, 1) := by decide +kernel
theorem dL_law_896 : decode cL_law 896 = .ok (.iload_n 3, 1) := by decide +kernel
theorem dL_law_897 : decode cL_law 897 = .ok (.iconst 1, 1) := by decide +kernel
theorem dL_law_898 : decode cL_law 898 = .ok (.iadd, 1) := by decide +kernel
theorem dL_law_899 : decode cL_law 899 = .ok (.iaload, 1) := by decide +kernel
theorem dL_law_900 : decode cL_law 900 = .ok (.aload_n 0, 1) := by decide +kernel
theorem dL_law_901 : decode cL_law 901 = .ok (.iload_n 3, 1) := by decide +kernel
theorem dL_law_902 : decode cL_law 902 = .ok (.iconst 2, 1) := by decide +kernel
theorem dL_law_903 : decode cL_law 903 = .ok (.iadd, 1) := by decide +kernel
theorem dL_law_904 : decode cL_law 904 = .ok (.iaload, 1) := by decide +kernel
theorem dL_law_905 : decode cL_law 905 = .ok (.invokevirtual 89, 3) := by decide +kernel
theorem dL_law_908 : decode cL_law 908 = .ok (.if_icmp .eq 75, 3) := by decide +kernel
theorem dL_law_911 : decode cL_law 911 = .ok (.iconst 0, 1) := by decide +kernel
theorem dL_law_912 : decode cL_law 912 = .ok (.ireturn, 1) := by decide +kernel
theorem dL_law_913 : decode cL_law 913 = .ok (.aload_n 1, 1) := by decide +kernel
theorem dL_law_914 : decode cL_law 914 = .ok (.aload_n 0, 1) := by decide +kernel
theorem dL_law_915 : decode cL_law 915 = .ok (.iload_n 3, 1) := by decide +kernel
theorem dL_law_916 : decode cL_law 916 = .ok (.iconst 1, 1) := by decide +kernel
theorem dL_law_917 : decode cL_law 917 = .ok (.iadd, 1) := by decide +kernel
theorem dL_law_918 : decode cL_law 918 = .ok (.iaload, 1) := by decide +kernel
theorem dL_law_919 : decode cL_law 919 = .ok (.aload_n 0, 1) := by decide +kernel
theorem dL_law_920 : decode cL_law 920 = .ok (.iload_n 3, 1) := by decide +kernel
theorem dL_law_921 : decode cL_law 921 = .ok (.iconst 2, 1) := by decide +kernel
theorem dL_law_922 : decode cL_law 922 = .ok (.iadd, 1) := by decide +kernel
theorem dL_law_923 : decode cL_law 923 = .ok (.iaload, 1) := by decide +kernel
theorem dL_law_924 : decode cL_law 924 = .ok (.invokevirtual 90, 3) := by decide +kernel
theorem dL_law_927 : decode cL_law 927 = .ok (.aload_n 2, 1) := by decide +kernel
theorem dL_law_928 : decode cL_law 928 = .ok (.aload_n 0, 1) := by decide +kernel
theorem dL_law_929 : decode cL_law 929 = .ok (.iload_n 3, 1) := by decide +kernel
theorem dL_law_930 : decode cL_law 930 = .ok (.iconst 1, 1) := by decide +kernel
theorem dL_law_931 : decode cL_law 931 = .ok (.iadd, 1) := by decide +kernel
theorem dL_law_932 : decode cL_law 932 = .ok (.iaload, 1) := by decide +kernel
theorem dL_law_933 : decode cL_law 933 = .ok (.aload_n 0, 1) := by decide +kernel
theorem dL_law_934 : decode cL_law 934 = .ok (.iload_n 3, 1) := by decide +kernel
theorem dL_law_935 : decode cL_law 935 = .ok (.iconst 2, 1) := by decide +kernel
theorem dL_law_936 : decode cL_law 936 = .ok (.iadd, 1) := by decide +kernel
theorem dL_law_937 : decode cL_law 937 = .ok (.iaload, 1) := by decide +kernel
theorem dL_law_938 : decode cL_law 938 = .ok (.invokevirtual 93, 3) := by decide +kernel
theorem dL_law_941 : decode cL_law 941 = .ok (.lcmp, 1) := by decide +kernel
theorem dL_law_942 : decode cL_law 942 = .ok (.ifCond .eq 41, 3) := by decide +kernel
theorem dL_law_945 : decode cL_law 945 = .ok (.iconst 0, 1) := by decide +kernel
theorem dL_law_946 : decode cL_law 946 = .ok (.ireturn, 1) := by decide +kernel
theorem dL_law_947 : decode cL_law 947 = .ok (.aload_n 1, 1) := by decide +kernel
theorem dL_law_948 : decode cL_law 948 = .ok (.invokevirtual 94, 3) := by decide +kernel
theorem dL_law_951 : decode cL_law 951 = .ok (.aload_n 2, 1) := by decide +kernel
theorem dL_law_952 : decode cL_law 952 = .ok (.invokevirtual 98, 3) := by decide +kernel
theorem dL_law_955 : decode cL_law 955 = .ok (.if_icmp .eq 28, 3) := by decide +kernel
theorem dL_law_958 : decode cL_law 958 = .ok (.iconst 0, 1) := by decide +kernel
theorem dL_law_959 : decode cL_law 959 = .ok (.ireturn, 1) := by decide +kernel
theorem dL_law_960 : decode cL_law 960 = .ok (.aload_n 1, 1) := by decide +kernel
theorem dL_law_961 : decode cL_law 961 = .ok (.aload_n 0, 1) := by decide +kernel
theorem dL_law_962 : decode cL_law 962 = .ok (.iload_n 3, 1) := by decide +kernel
theorem dL_law_963 : decode cL_law 963 = .ok (.iconst 1, 1) := by decide +kernel
theorem dL_law_964 : decode cL_law 964 = .ok (.iadd, 1) := by decide +kernel
theorem dL_law_965 : decode cL_law 965 = .ok (.iaload, 1) := by decide +kernel
theorem dL_law_966 : decode cL_law 966 = .ok (.invokevirtual 99, 3) := by decide +kernel
theorem dL_law_969 : decode cL_law 969 = .ok (.aload_n 2, 1) := by decide +kernel
theorem dL_law_970 : decode cL_law 970 = .ok (.aload_n 0, 1) := by decide +kernel
theorem dL_law_971 : decode cL_law 971 = .ok (.iload_n 3, 1) := by decide +kernel
theorem dL_law_972 : decode cL_law 972 = .ok (.iconst 1, 1) := by decide +kernel
theorem dL_law_973 : decode cL_law 973 = .ok (.iadd, 1) := by decide +kernel
theorem dL_law_974 : decode cL_law 974 = .ok (.iaload, 1) := by decide +kernel
theorem dL_law_975 : decode cL_law 975 = .ok (.invokevirtual 102, 3) := by decide +kernel
theorem dL_law_978 : decode cL_law 978 = .ok (.if_icmp .eq 5, 3) := by decide +kernel
theorem dL_law_981 : decode cL_law 981 = .ok (.iconst 0, 1) := by decide +kernel
theorem dL_law_982 : decode cL_law 982 = .ok (.ireturn, 1) := by decide +kernel
theorem dL_law_983 : decode cL_law 983 = .ok (.iinc 3 6, 3) := by decide +kernel
theorem dL_law_986 : decode cL_law 986 = .ok (.goto (-968), 3) := by decide +kernel
theorem dL_law_989 : decode cL_law 989 = .ok (.iconst 1, 1) := by decide +kernel
theorem dL_law_990 : decode cL_law 990 = .ok (.ireturn, 1) := by decide +kernel
end
section
/-! The store: what the machine's heap holds, as a function of the address, and the next free address. A method's contract speaks of the whole store; every row below turns the machine's step into a step of the store. -/
abbrev hmS : Type := (Nat → Option va_E) × Nat
/-- what never changes in a run of the law: the classes' numbers and slots, the array kinds' classes, the first address that is ours, the heap at the start, the addresses of static arrays -/
abbrev hmG : Type := va_G × (Nat → ClassId) × Nat × Heap × (Nat → Nat)
abbrev hmD (E : hmG) : va_G := E.1
abbrev hmA (E : hmG) : Nat → ClassId := E.2.1
abbrev hmL (E : hmG) : Nat := E.2.2.1
abbrev hmH (E : hmG) : Heap := E.2.2.2.1
abbrev hmZ (E : hmG) : Nat → Nat := E.2.2.2.2
/-- the kinds of arrays: 0 int, 1 long, 2 boolean, 3 byte, 4 to 7 of the class's own objects; read only: 8 the empty row, 9 the script, 10 and 11 the digits -/
def hmT (k : Nat) : FieldType := match k with
  | 0 => .int
  | 1 => .long
  | 2 => .boolean
  | 3 => .byte
  | 4 => .object "InnerCaptures$Type"
  | 5 => .object "InnerCaptures$Thing"
  | 6 => .object "InnerCaptures$Lambda"
  | 7 => .object "InnerCaptures$Level"
  | 8 => .long
  | 9 => .int
  | _ => .byte
abbrev hmX : Type := (Nat → Int32) ⊕ (Nat → Int64) ⊕ (Nat → UInt32) ⊕ (Nat → UInt64) ⊕ (Nat → Option Nat)
def hmV (x : hmX) (j : Nat) : Value := match x with
  | .inl f => .int (f j)
  | .inr (.inl f) => .long (f j)
  | .inr (.inr (.inl f)) => .float (f j)
  | .inr (.inr (.inr (.inl f))) => .double (f j)
  | .inr (.inr (.inr (.inr f))) => va_rf (f j)
def hmAt (E : hmG) (a : Nat) (e : va_E) (H : Heap) : Prop := match e with
  | .inl x => ∃ cell : Cell, H[a]? = some cell ∧ cell.cls = hmA E x.1 ∧ (∀ z, cell.vm ≠ .statics z) ∧ cell.vm ≠ .unknown ∧ x.2.1 ≤ cell.slots.size ∧ cell.slots.size.toInt32 = Int32.ofNat x.2.1 ∧ (∀ j, j < x.2.1 → cell.slots[j]? = some (hmV x.2.2 j)) ∧ x.1 < 12 ∧ (x.1 < 8 → hmL E ≤ a ∧ cell = arrV (hmA E x.1) x.2.1 (hmV x.2.2))
  | .inr o => hmL E ≤ a ∧ ∃ r : vw_C, vwCl[o.1]? = some r ∧ t_OB a ((hmD E).1 o.1) r.2.2 ((hmD E).2 o.1) H (vp_V o.2)
theorem hmAt.kept {E : hmG} {a : Nat} {e : va_E} {H H1 : Heap} (h : hmAt E a e H) (hq : H1[a]? = H[a]?) : hmAt E a e H1 := by
  cases e with
  | inl x => obtain ⟨cell, h1, h2⟩ := h; exact ⟨cell, by rw [hq]; exact h1, h2⟩
  | inr o => obtain ⟨h0, r, h1, h2⟩ := h; exact ⟨h0, r, h1, h2.kept hq⟩
theorem hmAt.lt {E : hmG} {a : Nat} {e : va_E} {H : Heap} (h : hmAt E a e H) : a < H.size := by
  cases e with
  | inl x => obtain ⟨cell, h1, -⟩ := h; exact (Array.getElem?_eq_some_iff.mp h1).1
  | inr o => obtain ⟨h0, r, h1, cell, h2, -⟩ := h; exact (Array.getElem?_eq_some_iff.mp h2).1
def hmI (E : hmG) (σ : hmS) (H : Heap) : Prop := H.size = σ.2 ∧ hmL E ≤ σ.2 ∧ (∀ q, q < hmL E → H[q]? = (hmH E)[q]?) ∧ ∀ (a : Nat) (e : va_E), σ.1 a = some e → hmAt E a e H
/-- the store with another cell at an address -/
def hmU (σ : hmS) (a : Nat) (e : va_E) : hmS := (va_up σ.1 a (some e), σ.2)
/-- the store with a new cell, at the next address -/
def hmN (σ : hmS) (e : va_E) : hmS := (va_up σ.1 σ.2 (some e), σ.2 + 1)
theorem hmI.set {E : hmG} {σ : hmS} {H H1 : Heap} {a : Nat} {e : va_E} (h : hmI E σ H) (hz : H1.size = H.size) (ho : ∀ q, q ≠ a → H1[q]? = H[q]?) (ha : hmL E ≤ a) (he : hmAt E a e H1) : hmI E (hmU σ a e) H1 := by
  obtain ⟨h1, h2, h3, h4⟩ := h
  refine ⟨by rw [hz]; exact h1, h2, fun q hq => by rw [ho q (by omega)]; exact h3 q hq, fun b eb hb => ?_⟩
  by_cases hba : b = a
  · subst hba
    have : some e = some eb := by rw [← hb]; exact (va_up_self _ _ _).symm
    cases this
    exact he
  · have hb' : σ.1 b = some eb := by rw [← hb]; exact (va_up_ne _ _ hba).symm
    exact (h4 b eb hb').kept (ho b hba)
theorem hmI.push {E : hmG} {σ : hmS} {H H1 : Heap} {e : va_E} (h : hmI E σ H) (hz : H1.size = σ.2 + 1) (ho : ∀ q, q < σ.2 → H1[q]? = H[q]?) (he : hmAt E σ.2 e H1) : hmI E (hmN σ e) H1 := by
  obtain ⟨h1, h2, h3, h4⟩ := h
  refine ⟨hz, Nat.le_succ_of_le h2, fun q hq => by rw [ho q (Nat.lt_of_lt_of_le hq h2)]; exact h3 q hq, fun b eb hb => ?_⟩
  by_cases hba : b = σ.2
  · subst hba
    have : some e = some eb := by rw [← hb]; exact (va_up_self _ _ _).symm
    cases this
    exact he
  · have hb' : σ.1 b = some eb := by rw [← hb]; exact (va_up_ne _ _ hba).symm
    have hl : b < σ.2 := by rw [← h1]; exact (h4 b eb hb').lt
    exact (h4 b eb hb').kept (ho b hl)
/-- the words of the tables that stay true as classes are linked -/
def hmWd (s : State) : Prop := ∀ w ∈ lw_tbl, goodWord w = true → ∀ A : Array Value, w.before A s = true
/-- what the state of the machine is at every entry of a method of ours -/
def hmK (E : hmG) (s : State) : Prop :=
  (∀ (c : Nat) (q : vw_C), vwCl[c]? = some q → u_Kn s q.1 q.2.1 q.2.2 ((hmD E).1 c) ((hmD E).2 c)) ∧
  (∀ (c : Nat) (q : vw_C), vwCl[c]? = some q → ∀ x y, x < q.2.2 → y < q.2.2 → x ≠ y → (hmD E).2 c x ≠ (hmD E).2 c y) ∧
  hmWd s ∧
  (∀ k, k < 12 → ∃ (kA : Class) (comp : ClassId), s.vm.classes[hmA E k]? = some kA ∧ kA.kind = .array comp (hmT k)) ∧
  (∀ k, k < 8 → va_RA s (hmA E k) (hmT k)) ∧
  (va_Nw (.methodLinkNest "InnerCaptures" 39 ⟨"InnerCaptures$Cell", "<init>", "()V"⟩ "InnerCaptures") s ∧ va_Nw (.methodLinkNest "InnerCaptures$Type" 11 ⟨"InnerCaptures$Fields", "<init>", "()V"⟩ "InnerCaptures") s ∧ va_Nw (.methodLinkNest "InnerCaptures$Type" 20 ⟨"InnerCaptures$Locals", "<init>", "()V"⟩ "InnerCaptures") s ∧ va_Nw (.methodLinkNest "InnerCaptures$Type" 46 ⟨"InnerCaptures", "standsInMethod", "(I)Z"⟩ "InnerCaptures") s) ∧
  (va_Nw (.fieldLinkNest "InnerCaptures$Cell" 7 "InnerCaptures" "NO_CELLS" "[J" "InnerCaptures") s ∧ va_Nw (.fieldLinkNest "InnerCaptures$Fields" 31 "InnerCaptures" "NO_CELLS" "[J" "InnerCaptures") s ∧ va_Nw (.fieldLinkNest "InnerCaptures$Locals" 37 "InnerCaptures" "NO_CELLS" "[J" "InnerCaptures") s ∧ va_Nw (.fieldLinkNest "InnerCaptures$Type" 88 "InnerCaptures" "NO_CELLS" "[J" "InnerCaptures") s) ∧
  (va_Nw (.castable "[B" "java/lang/Cloneable") s ∧ va_Nw (.castable "[J" "java/lang/Cloneable") s) ∧
  (∀ k, 4 ≤ k → k < 8 → ∀ C, hmT k = .object C → va_AO C s) ∧
  va_Z "InnerCaptures" "NO_CELLS" "[J" (.ref (hmZ E 0)) (fun q => hmL E ≤ q) s (hmH E) ∧
  va_Z "java/lang/Integer" "DigitOnes" "[B" (.ref (hmZ E 1)) (fun q => hmL E ≤ q) s (hmH E) ∧
  va_Z "java/lang/Integer" "DigitTens" "[B" (.ref (hmZ E 2)) (fun q => hmL E ≤ q) s (hmH E) ∧
  va_Z "java/lang/String" "COMPACT_STRINGS" "Z" (.int 1) (fun q => hmL E ≤ q) s (hmH E)
theorem hmWd.warm {s U : State} (hW : s.WarmedH U.vm) (h : hmWd s) : hmWd U := fun w hw hg A => word_at (args := #[]) hW (good_of_word hg) (h w hw hg #[])
theorem hm_arrK {s U : State} (hvm : s.vm.Alike U.vm) {c : ClassId} {ty : FieldType} (h : ∃ (kA : Class) (comp : ClassId), s.vm.classes[c]? = some kA ∧ kA.kind = .array comp ty) : ∃ (kA : Class) (comp : ClassId), U.vm.classes[c]? = some kA ∧ kA.kind = .array comp ty := by
  obtain ⟨kA, comp, h1, h2⟩ := h
  obtain ⟨k', hk', he⟩ := hvm.2.2 _ _ h1
  exact ⟨k', comp, hk', by rw [he]; exact h2⟩
theorem hmK.warm {E : hmG} {s U : State} (hW : s.WarmedH U.vm) (h : hmK E s) : hmK E U := by
  obtain ⟨h1, h2, h3, h4, h5, ⟨m1, m2, m3, m4⟩, ⟨f1, f2, f3, f4⟩, ⟨c1, c2⟩, ao, z1, z2, z3, z4⟩ := h
  have hvm := hW.alike
  exact ⟨fun c q hq => u_Kn_moved hvm (h1 c q hq), h2, h3.warm hW, fun k hk => hm_arrK hvm (h4 k hk), fun k hk => (h5 k hk).moved hvm, ⟨m1.warmM hW, m2.warmM hW, m3.warmM hW, m4.warmM hW⟩, ⟨f1.warmF hW, f2.warmF hW, f3.warmF hW, f4.warmF hW⟩, ⟨c1.warmC hW, c2.warmC hW⟩, fun k h1 h2 C hC => va_AO.moved hvm (ao k h1 h2 C hC), z1.moved hvm, z2.moved hvm, z3.moved hvm, z4.moved hvm⟩
theorem hm_tblOn : lw_tbl.all (fun w => !goodWord w || w.onTables || (match w with | .arrayClass _ => true | _ => false)) = true := by decide +kernel
def hmPc (E : hmG) (av : List Value) (σ : hmS) : Array Value → State → Prop := fun v U => v = av.toArray ∧ hmK E U ∧ hmI E σ U.heap
def hmQc (E : hmG) (rv : Option Value) (σ : hmS) : Array Value → State → Outcome → State → Prop := fun _ _ o t => o = .returned rv ∧ hmI E σ t.heap
def hmLo (E : hmG) (locs : List Loc) : Prop := ∀ q ∈ locs, hmL E ≤ q.base
theorem hmLo.nil {E : hmG} : hmLo E [] := fun _ h => by cases h
theorem hmLo.put {E : hmG} {locs : List Loc} {a i : Nat} (h : hmLo E locs) (ha : hmL E ≤ a) : hmLo E (locs ++ [⟨a, i⟩]) := fun q hq => by
  rcases List.mem_append.mp hq with h1 | h1
  · exact h q h1
  · rw [List.mem_singleton.mp h1]; exact ha
theorem hmLo.app {E : hmG} {locs L : List Loc} (h : hmLo E locs) (hL : ∀ q ∈ L, hmL E ≤ q.base) : hmLo E (locs ++ L) := fun q hq => by
  rcases List.mem_append.mp hq with h1 | h1
  · exact h q h1
  · exact hL q h1
end
section
/-! Steps of the store, and what the machine does at them. -/
def ob {α β : Type} (x : Option α) (k : α → Option β) : Option β := match x with
  | none => none
  | some a => k a
theorem ob_s {α β : Type} {x : Option α} {k : α → Option β} {y : β} (h : ob x k = some y) : ∃ a, x = some a ∧ k a = some y := by
  cases x with
  | none => cases h
  | some a => exact ⟨a, rfl, h⟩
theorem ob_e {α β : Type} {x : Option α} {k : α → Option β} {a : α} (h : x = some a) : ob x k = k a := by rw [h]; rfl
def cb {α β : Type} (x : Option (α × hmS)) (k : α → hmS → Option β) : Option β := match x with
  | none => none
  | some a => k a.1 a.2
theorem cb_s {α β : Type} {x : Option (α × hmS)} {k : α → hmS → Option β} {y : β} (h : cb x k = some y) : ∃ a σ, x = some (a, σ) ∧ k a σ = some y := by
  cases x with
  | none => cases h
  | some a => exact ⟨a.1, a.2, rfl, h⟩
theorem cb_e {α β : Type} {x : Option (α × hmS)} {k : α → hmS → Option β} {a : α} {σ : hmS} (h : x = some (a, σ)) : cb x k = k a σ := by rw [h]; rfl
def oc {α β : Type} (r : Option α) (n : β) (f : α → β) : β := match r with
  | none => n
  | some a => f a
theorem oc_n {α β : Type} {n : β} {f : α → β} {y : β} (h : oc none n f = y) : n = y := h
theorem oc_s {α β : Type} {n : β} {f : α → β} {a : α} {y : β} (h : oc (some a) n f = y) : f a = y := h
theorem it_p {c : Prop} [Decidable c] {α : Type} {a b y : α} (hc : c) (h : (if c then a else b) = y) : a = y := by rw [if_pos hc] at h; exact h
theorem it_n {c : Prop} [Decidable c] {α : Type} {a b y : α} (hc : ¬ c) (h : (if c then a else b) = y) : b = y := by rw [if_neg hc] at h; exact h
def nw {β : Type} (σ : hmS) (e : va_E) (k : Nat → hmS → Option β) : Option β := k σ.2 (hmN σ e)
theorem nw_s {β : Type} {σ : hmS} {e : va_E} {k : Nat → hmS → Option β} {y : β} (h : nw σ e k = some y) : ∃ q σ', q = σ.2 ∧ σ' = hmN σ e ∧ k q σ' = some y := ⟨_, _, rfl, rfl, h⟩
theorem rt_s {α : Type} {a b : α} {σ σ' : hmS} (h : some (a, σ) = some (b, σ')) : a = b ∧ σ = σ' := by cases h; exact ⟨rfl, rfl⟩
-- fields
def hmF (σ : hmS) (a ci k : Nat) : Option Value := match σ.1 a with
  | some (.inr o) => if o.1 = ci then o.2[k]? else none
  | _ => none
theorem hmF_s {σ : hmS} {a ci k : Nat} {v : Value} (h : hmF σ a ci k = some v) : ∃ fs, σ.1 a = some (.inr (ci, fs)) ∧ fs[k]? = some v := by
  unfold hmF at h
  split at h
  · rename_i o ho
    split at h
    · rename_i hc; subst hc; exact ⟨o.2, ho, h⟩
    · cases h
  · cases h
def gI (σ : hmS) (a ci k : Nat) : Option Int32 := match hmF σ a ci k with
  | some (.int x) => some x
  | _ => none
def gL (σ : hmS) (a ci k : Nat) : Option Int64 := match hmF σ a ci k with
  | some (.long x) => some x
  | _ => none
def gR (σ : hmS) (a ci k : Nat) : Option (Option Nat) := match hmF σ a ci k with
  | some .null => some none
  | some (.ref r) => some (some r)
  | _ => none
theorem gI_s {σ : hmS} {a ci k : Nat} {x : Int32} (h : gI σ a ci k = some x) : hmF σ a ci k = some (.int x) := by
  unfold gI at h; split at h
  · rename_i y hy; cases h; exact hy
  · cases h
theorem gL_s {σ : hmS} {a ci k : Nat} {x : Int64} (h : gL σ a ci k = some x) : hmF σ a ci k = some (.long x) := by
  unfold gL at h; split at h
  · rename_i y hy; cases h; exact hy
  · cases h
theorem gR_s {σ : hmS} {a ci k : Nat} {x : Option Nat} (h : gR σ a ci k = some x) : hmF σ a ci k = some (va_rf x) := by
  unfold gR at h; split at h
  · rename_i hy; cases h; exact hy
  · rename_i y hy; cases h; exact hy
  · cases h
def wF (σ : hmS) (a ci k : Nat) (v : Value) : Option hmS := match σ.1 a with
  | some (.inr o) => if o.1 = ci ∧ k < o.2.length then some (hmU σ a (.inr (ci, o.2.set k v))) else none
  | _ => none
theorem wF_s {σ σ' : hmS} {a ci k : Nat} {v : Value} (h : wF σ a ci k v = some σ') : ∃ fs, σ.1 a = some (.inr (ci, fs)) ∧ k < fs.length ∧ σ' = hmU σ a (.inr (ci, fs.set k v)) := by
  unfold wF at h
  split at h
  · rename_i o ho
    split at h
    · rename_i hc; obtain ⟨rfl, h2⟩ := hc; cases h; exact ⟨o.2, ho, h2, rfl⟩
    · cases h
  · cases h
def okZ (x : Int32) : Option Unit := if x = 0 ∨ x = 1 then some () else none
theorem okZ_s {x : Int32} {u : Unit} (h : okZ x = some u) : x = 0 ∨ x = 1 := by
  unfold okZ at h; split at h
  · assumption
  · cases h
theorem okZ_n {x : Int32} {u : Unit} (h : okZ x = some u) : narrow .boolean (.int x) = .int x ∧ fits .boolean (.int x) = true := by
  rcases okZ_s h with rfl | rfl <;> exact ⟨rfl, rfl⟩
theorem okZ_b {x : Int32} {u : Unit} (h : okZ x = some u) : narrow .byte (.int x) = .int x ∧ fits .byte (.int x) = true := by
  rcases okZ_s h with rfl | rfl <;> exact ⟨rfl, rfl⟩
theorem rf_fit {r : Option Nat} {C : String} : narrow (.object C) (va_rf r) = va_rf r ∧ fits (.object C) (va_rf r) = true := by cases r <;> exact ⟨rfl, rfl⟩
theorem rf_fitA {r : Option Nat} {t : FieldType} : narrow (.array t) (va_rf r) = va_rf r ∧ fits (.array t) (va_rf r) = true := by cases r <;> exact ⟨rfl, rfl⟩
-- arrays
def hmB (k : Nat) : Nat := match k with
  | 8 => 1
  | 9 => 0
  | 10 => 3
  | 11 => 3
  | k => k
theorem hmB_T : ∀ k, k < 12 → hmT (hmB k) = hmT k := by decide +kernel
def aN (σ : hmS) (a : Nat) : Option Int32 := match σ.1 a with
  | some (.inl x) => some (Int32.ofNat x.2.1)
  | _ => none
theorem aN_s {σ : hmS} {a : Nat} {v : Int32} (h : aN σ a = some v) : ∃ x, σ.1 a = some (.inl x) ∧ v = Int32.ofNat x.2.1 := by
  unfold aN at h; split at h
  · rename_i x hx; cases h; exact ⟨x, hx, rfl⟩
  · cases h
def aI (σ : hmS) (bk a : Nat) (i : Int32) : Option Int32 := match σ.1 a with
  | some (.inl (k, n, .inl f)) => if hmB k = bk ∧ ¬ (i < 0 ∨ n ≤ i.toNatClampNeg) then some (f i.toNatClampNeg) else none
  | _ => none
theorem aI_s {σ : hmS} {bk a : Nat} {i v : Int32} (h : aI σ bk a i = some v) : ∃ k n f, σ.1 a = some (.inl (k, n, .inl f)) ∧ hmB k = bk ∧ vp_in i n ∧ v = f i.toNatClampNeg := by
  unfold aI at h; split at h
  · rename_i k n f hx; split at h
    · rename_i hc; cases h; exact ⟨k, n, f, hx, hc.1, hc.2, rfl⟩
    · cases h
  · cases h
def aL (σ : hmS) (a : Nat) (i : Int32) : Option Int64 := match σ.1 a with
  | some (.inl (k, n, .inr (.inl f))) => if hmB k = 1 ∧ ¬ (i < 0 ∨ n ≤ i.toNatClampNeg) then some (f i.toNatClampNeg) else none
  | _ => none
theorem aL_s {σ : hmS} {a : Nat} {i : Int32} {v : Int64} (h : aL σ a i = some v) : ∃ k n f, σ.1 a = some (.inl (k, n, .inr (.inl f))) ∧ hmB k = 1 ∧ vp_in i n ∧ v = f i.toNatClampNeg := by
  unfold aL at h; split at h
  · rename_i k n f hx; split at h
    · rename_i hc; cases h; exact ⟨k, n, f, hx, hc.1, hc.2, rfl⟩
    · cases h
  · cases h
def aR (σ : hmS) (a : Nat) (i : Int32) : Option (Option Nat) := match σ.1 a with
  | some (.inl (k, n, .inr (.inr (.inr (.inr f))))) => if (4 ≤ k ∧ k < 8) ∧ ¬ (i < 0 ∨ n ≤ i.toNatClampNeg) then some (f i.toNatClampNeg) else none
  | _ => none
theorem aR_s {σ : hmS} {a : Nat} {i : Int32} {v : Option Nat} (h : aR σ a i = some v) : ∃ k n f, σ.1 a = some (.inl (k, n, .inr (.inr (.inr (.inr f))))) ∧ (4 ≤ k ∧ k < 8) ∧ vp_in i n ∧ v = f i.toNatClampNeg := by
  unfold aR at h; split at h
  · rename_i k n f hx; split at h
    · rename_i hc; cases h; exact ⟨k, n, f, hx, hc.1, hc.2, rfl⟩
    · cases h
  · cases h
def sI (σ : hmS) (bk a : Nat) (i y : Int32) : Option hmS := match σ.1 a with
  | some (.inl (k, n, .inl f)) => if (k = bk ∧ k < 8) ∧ ¬ (i < 0 ∨ n ≤ i.toNatClampNeg) then some (hmU σ a (.inl (k, n, .inl (upd f i.toNatClampNeg y)))) else none
  | _ => none
theorem sI_s {σ σ' : hmS} {bk a : Nat} {i y : Int32} (h : sI σ bk a i y = some σ') : ∃ n f, σ.1 a = some (.inl (bk, n, .inl f)) ∧ bk < 8 ∧ vp_in i n ∧ σ' = hmU σ a (.inl (bk, n, .inl (upd f i.toNatClampNeg y))) := by
  unfold sI at h; split at h
  · rename_i k n f hx; split at h
    · rename_i hc; obtain ⟨⟨rfl, h8⟩, hi⟩ := hc; cases h; exact ⟨n, f, hx, h8, hi, rfl⟩
    · cases h
  · cases h
def sL (σ : hmS) (a : Nat) (i : Int32) (y : Int64) : Option hmS := match σ.1 a with
  | some (.inl (k, n, .inr (.inl f))) => if k = 1 ∧ ¬ (i < 0 ∨ n ≤ i.toNatClampNeg) then some (hmU σ a (.inl (k, n, .inr (.inl (vp_updL f i.toNatClampNeg y))))) else none
  | _ => none
theorem sL_s {σ σ' : hmS} {a : Nat} {i : Int32} {y : Int64} (h : sL σ a i y = some σ') : ∃ n f, σ.1 a = some (.inl (1, n, .inr (.inl f))) ∧ vp_in i n ∧ σ' = hmU σ a (.inl (1, n, .inr (.inl (vp_updL f i.toNatClampNeg y)))) := by
  unfold sL at h; split at h
  · rename_i k n f hx; split at h
    · rename_i hc; obtain ⟨rfl, hi⟩ := hc; cases h; exact ⟨n, f, hx, hi, rfl⟩
    · cases h
  · cases h
/-- the class, by its place in vwCl, of what an array of a kind holds -/
def hmC (k : Nat) : Nat := match k with
  | 4 => 8
  | 5 => 7
  | 6 => 4
  | _ => 5
def okR (σ : hmS) (ci : Nat) (r : Option Nat) : Bool := match r with
  | none => true
  | some v => match σ.1 v with
    | some (.inr o) => o.1 == ci
    | _ => false
def sR (σ : hmS) (a : Nat) (i : Int32) (r : Option Nat) : Option hmS := match σ.1 a with
  | some (.inl (k, n, .inr (.inr (.inr (.inr f))))) => if ((4 ≤ k ∧ k < 8) ∧ ¬ (i < 0 ∨ n ≤ i.toNatClampNeg)) ∧ okR σ (hmC k) r = true then some (hmU σ a (.inl (k, n, .inr (.inr (.inr (.inr (va_up f i.toNatClampNeg r))))))) else none
  | _ => none
theorem sR_s {σ σ' : hmS} {a : Nat} {i : Int32} {r : Option Nat} (h : sR σ a i r = some σ') : ∃ k n f, σ.1 a = some (.inl (k, n, .inr (.inr (.inr (.inr f))))) ∧ (4 ≤ k ∧ k < 8) ∧ vp_in i n ∧ okR σ (hmC k) r = true ∧ σ' = hmU σ a (.inl (k, n, .inr (.inr (.inr (.inr (va_up f i.toNatClampNeg r)))))) := by
  unfold sR at h; split at h
  · rename_i k n f hx; split at h
    · rename_i hc; cases h; exact ⟨k, n, f, hx, hc.1.1, hc.1.2, hc.2, rfl⟩
    · cases h
  · cases h
/-- a new array of a kind, of at most B places -/
def nA (σ : hmS) (k : Nat) (x : hmX) (B : Nat) (n : Int32) : Option (Nat × hmS) := if ¬ n < 0 ∧ n.toNatClampNeg ≤ B then some (σ.2, hmN σ (.inl (k, n.toNatClampNeg, x))) else none
theorem nA_s {σ : hmS} {k B : Nat} {x : hmX} {n : Int32} {q : Nat} {σ' : hmS} (h : nA σ k x B n = some (q, σ')) : ¬ n < 0 ∧ n.toNatClampNeg ≤ B ∧ q = σ.2 ∧ σ' = hmN σ (.inl (k, n.toNatClampNeg, x)) := by
  unfold nA at h; split at h
  · rename_i hc; cases h; exact ⟨hc.1, hc.2, rfl, rfl⟩
  · cases h
-- what a field is, by its place in a class's pool
def hmFd (own : String) (idx ci k : Nat) (ty : FieldType) (fin dec : Bool) (s : State) : Prop := ∃ (C : String) (T : u_T) (N : Nat), vwCl[ci]? = some (C, T, N) ∧ k < N ∧ (∀ A, (Cond.fieldLink own idx (T k).1 (T k).2.1 (T k).2.2.1).before A s = true) ∧ parseFieldDescriptor (T k).2.2.1 = some ty ∧ (T k).2.2.2 = fin ∧ (dec = true → (T k).1 = own) ∧ (∀ j, j < N → ∀ A, (u_lay C T j).before A s = true)
theorem hm_lays {C : String} {T : u_T} {k : Nat} {A : Array Value} {s : State} (h : (u_lay C T k).before A s = true) : (Cond.lays C (T k).1 (T k).2.1 (T k).2.2.1).before A s = true ∨ (Cond.laysFinal C (T k).1 (T k).2.1 (T k).2.2.1).before A s = true := by
  unfold u_lay at h
  split at h
  · exact Or.inr h
  · exact Or.inl h
theorem hm_fd {E : hmG} {s : State} (hK : hmK E s) {own : String} {idx ci k : Nat} {ty : FieldType} {fin dec : Bool} (C : String) (T : u_T) (N : Nat) (hc : vwCl[ci]? = some (C, T, N)) (hk : k < N) (i : Nat) (hw : tables_1[i]? = some (Cond.fieldLink own idx (T k).1 (T k).2.1 (T k).2.2.1)) (hty : parseFieldDescriptor (T k).2.2.1 = some ty) (hfin : (T k).2.2.2 = fin) (hdecl : dec = true → (T k).1 = own) (hlay : ∀ w ∈ u_ws C T N, w ∈ lw_tbl ∧ goodWord w = true) : hmFd own idx ci k ty fin dec s :=
  ⟨C, T, N, hc, hk, fun A => hK.2.2.1 _ (List.mem_append_right _ (List.mem_of_getElem? hw)) rfl A, hty, hfin, hdecl, fun j hj A => hK.2.2.1 _ (hlay _ (u_in_lay hj)).1 (hlay _ (u_in_lay hj)).2 A⟩
section HMR
variable {p : Program} {l : Launch} {e : Env} {R : Room} {s : State} {m : MethodId} {args : Array Value} {below : List Frame} {meth : Method} {c : Code} {H : Heap} {locs : List Loc} {cells slots : Nat} {Q : State → Prop}
variable {cc : ByteArray} {pc nL : Nat} {ls : Array Slot} {rest : List Value} {E : hmG} {σ σ' : hmS} {a : Nat} {own : String}
theorem hm_get (S : CallFix p m c cc nL s args [] own) (hK : hmK E s) (hI : hmI E σ H) {idx ci k : Nat} {ty : FieldType} {fin dec : Bool} (hf : hmFd own idx ci k ty fin dec s) {v : Value} (hv : hmF σ a ci k = some v) (hdg : decode cc pc = .ok (.getfield idx, 3))
    (kk : W p l e R s m args below meth c H locs cells slots Q (F0 m (pc + 3) ls (v :: rest))) : W p l e R s m args below meth c H locs cells slots Q (F0 m pc ls (.ref a :: rest)) := by
  obtain ⟨C, T, N, hc, hk, hlink, -, -, -, hlay⟩ := hf
  obtain ⟨fs, he, hvv⟩ := hmF_s hv
  obtain ⟨-, r, h1, cell, q1, q2, q3, q4⟩ := hI.2.2.2 a _ he
  have hr : r = (C, T, N) := Option.some.inj (h1.symm.trans hc)
  subst hr
  obtain ⟨hS, hfc, kC, hkC, hkind⟩ := hK.1 ci _ hc
  obtain ⟨cf, kf, fi, f, hi, hsl⟩ := hS k hk
  refine W.getf S.1 S.2.1 S.2.2.2.1 (hlink _) hi (u_facts hfc hkC (hm_lays (hlay k hk args)) hi).1 q1 (by rw [q3]; exact fun h => by cases h) (v := v) ?_ rfl rfl hdg kk
  rw [hsl, q4 k hk]
  simp [vp_V, hvv]
theorem hm_put (S : CallFix p m c cc nL s args [] own) (hK : hmK E s) (hI : hmI E σ H) (hL : hmLo E locs) {idx ci k : Nat} {ty : FieldType} {dec : Bool} (hf : hmFd own idx ci k ty false dec s) {v : Value} (hv : wF σ a ci k v = some σ') (hn : narrow ty v = v ∧ fits ty v = true) (hdg : decode cc pc = .ok (.putfield idx, 3))
    (kk : ∀ (H1 : Heap) (locs1 : List Loc), hmI E σ' H1 → hmLo E locs1 → W p l e R s m args below meth c H1 locs1 cells slots Q (F0 m (pc + 3) ls rest)) : W p l e R s m args below meth c H locs cells slots Q (F0 m pc ls (v :: .ref a :: rest)) := by
  obtain ⟨C, T, N, hc, hk, hlink, hd, hfin, -, hlay⟩ := hf
  obtain ⟨fs, he, hl, rfl⟩ := wF_s hv
  obtain ⟨hlo, r, h1, cell, q1, q2, q3, q4⟩ := hI.2.2.2 a _ he
  have hr : r = (C, T, N) := Option.some.inj (h1.symm.trans hc)
  subst hr
  have hap := hK.2.1 ci _ hc
  obtain ⟨hS, hfc, kC, hkC, hkind⟩ := hK.1 ci _ hc
  obtain ⟨cf, kf, fi, f, hi, hsl⟩ := hS k hk
  have hla := hlay k hk args
  have hst := (u_facts hfc hkC (hm_lays hla) hi).1
  unfold u_lay at hla
  rw [if_neg (by rw [hfin]; decide)] at hla
  have h6 := u_store hfc hkC hkind hla hi hd hn.1 hn.2
  refine W.putK S.1 S.2.1 (f := f) ⟨S.2.2.2.1, hlink _, ⟨_, _, _, hi⟩, hst⟩ (by rw [q2]; exact h6) q1 q3 (by rw [hsl]; exact k2_hasslot (q4 k hk)) rfl rfl hdg fun H' e1 e2 e3 => ?_
  rw [hsl] at e1 ⊢
  exact kk H' _ (hI.set e2 e3 hlo ⟨hlo, _, hc, t_OB.to (V := updV (vp_V fs) k v) ⟨_, e1, q2, q3, t_set q4 hap hk v⟩ (fun j _ => vp_updV_set hl v j)⟩) (hL.put hlo)
theorem hm_putF (S : CallFix p m c cc nL s args [] own) (hK : hmK E s) (hI : hmI E σ H) (hL : hmLo E locs) (hin2 : meth.name = "<init>") {idx ci k : Nat} {ty : FieldType} (hf : hmFd own idx ci k ty true true s) {v : Value} (hv : wF σ a ci k v = some σ') (hn : narrow ty v = v ∧ fits ty v = true) (hdg : decode cc pc = .ok (.putfield idx, 3))
    (kk : ∀ (H1 : Heap) (locs1 : List Loc), hmI E σ' H1 → hmLo E locs1 → W p l e R s m args below meth c H1 locs1 cells slots Q (F0 m (pc + 3) ls rest)) : W p l e R s m args below meth c H locs cells slots Q (F0 m pc ls (v :: .ref a :: rest)) := by
  obtain ⟨C, T, N, hc, hk, hlink, hd, hfin, hdecl, hlay⟩ := hf
  obtain ⟨fs, he, hl, rfl⟩ := wF_s hv
  obtain ⟨hlo, r, h1, cell, q1, q2, q3, q4⟩ := hI.2.2.2 a _ he
  have hr : r = (C, T, N) := Option.some.inj (h1.symm.trans hc)
  subst hr
  have hap := hK.2.1 ci _ hc
  obtain ⟨hS, hfc, kC, hkC, hkind⟩ := hK.1 ci _ hc
  obtain ⟨cf, kf, fi, f, hi, hsl⟩ := hS k hk
  have hla := hlay k hk args
  have hst := (u_facts hfc hkC (hm_lays hla) hi).1
  unfold u_lay at hla
  rw [if_pos hfin] at hla
  have hcf : m.cls = cf := by
    obtain ⟨_, _, c', _, _, _, -, -, hf', -, -, -, hown2, -⟩ := Cond.laysFinal_spec hla
    have e1 : c' = cf := by have := hi.symm.trans hf'; simp at this; exact this.1.symm
    rw [hdecl rfl] at hown2
    rw [← e1]; exact Option.some.inj (S.2.2.2.1.symm.trans hown2)
  have h6 := u_fits hfc hkC hkind (Or.inr hla) hi hd hn.1 hn.2
  refine W.putFinK S.1 S.2.1 S.2.2.2.1 (hlink _) hi hst hcf hin2 (by rw [q2]; exact h6) q1 q3 (by rw [hsl]; exact k2_hasslot (q4 k hk)) rfl rfl hdg fun H' e1 e2 e3 => ?_
  rw [hsl] at e1 ⊢
  exact kk H' _ (hI.set e2 e3 hlo ⟨hlo, _, hc, t_OB.to (V := updV (vp_V fs) k v) ⟨_, e1, q2, q3, t_set q4 hap hk v⟩ (fun j _ => vp_updV_set hl v j)⟩) (hL.put hlo)
/-- an array of the store is one for the machine -/
theorem hm_arr (hK : hmK E s) {k : Nat} {x : vp_A} {cell : Cell} (hk : k < 12) (h1 : cell.cls = hmA E k) (h2 : ∀ z, cell.vm ≠ .statics z) : s.isArrayOf cell (hmT k) := by
  obtain ⟨kA, comp, g1, g2⟩ := hK.2.2.2.1 k hk
  exact ⟨h2, kA, by rw [h1]; exact g1, comp, g2⟩
theorem hm_aN (S : CallFix p m c cc nL s args [] own) (hK : hmK E s) (hI : hmI E σ H) {v : Int32} (hv : aN σ a = some v) (hdg : decode cc pc = .ok (.arraylength, 1))
    (kk : W p l e R s m args below meth c H locs cells slots Q (F0 m (pc + 1) ls (.int v :: rest))) : W p l e R s m args below meth c H locs cells slots Q (F0 m pc ls (.ref a :: rest)) := by
  obtain ⟨x, hx, rfl⟩ := aN_s hv
  obtain ⟨cell, q1, q2, q3, q4, q5, q6, q7, q8, -⟩ := hI.2.2.2 a _ hx
  exact W.alen S.1 S.2.1 q1 (hm_arr (x := x.2) hK q8 q2 q3) q6 rfl rfl hdg kk
theorem hm_in {i : Int32} {n z : Nat} (h : vp_in i n) (hz : n ≤ z) : ¬ (i < 0 ∨ z ≤ i.toNatClampNeg) := fun h2 => h (h2.elim Or.inl fun h3 => Or.inr (Nat.le_trans hz h3))
theorem hm_lt {i : Int32} {n : Nat} (h : vp_in i n) : i.toNatClampNeg < n := Nat.not_le.mp fun q => h (Or.inr q)
theorem hm_iald (S : CallFix p m c cc nL s args [] own) (hK : hmK E s) (hI : hmI E σ H) {i v : Int32} (hv : aI σ 0 a i = some v) (hdg : decode cc pc = .ok (.iaload, 1))
    (kk : W p l e R s m args below meth c H locs cells slots Q (F0 m (pc + 1) ls (.int v :: rest))) : W p l e R s m args below meth c H locs cells slots Q (F0 m pc ls (.int i :: .ref a :: rest)) := by
  obtain ⟨k, n, f, hx, hb, hin, rfl⟩ := aI_s hv
  obtain ⟨cell, q1, q2, q3, q4, q5, q6, q7, q8, -⟩ := hI.2.2.2 a _ hx
  have ha := hm_arr (x := (n, .inl f)) hK q8 q2 q3
  rw [← hmB_T k q8, hb] at ha
  exact W.iald S.1 S.2.1 q1 ha q4 (hm_in hin q5) (q7 _ (hm_lt hin)) rfl rfl hdg kk
theorem hm_zald (S : CallFix p m c cc nL s args [] own) (hK : hmK E s) (hI : hmI E σ H) {i v : Int32} (hv : aI σ 2 a i = some v) (hdg : decode cc pc = .ok (.baload, 1))
    (kk : W p l e R s m args below meth c H locs cells slots Q (F0 m (pc + 1) ls (.int v :: rest))) : W p l e R s m args below meth c H locs cells slots Q (F0 m pc ls (.int i :: .ref a :: rest)) := by
  obtain ⟨k, n, f, hx, hb, hin, rfl⟩ := aI_s hv
  obtain ⟨cell, q1, q2, q3, q4, q5, q6, q7, q8, -⟩ := hI.2.2.2 a _ hx
  have ha := hm_arr (x := (n, .inl f)) hK q8 q2 q3
  rw [← hmB_T k q8, hb] at ha
  exact W.zald S.1 S.2.1 q1 ha q4 (hm_in hin q5) (q7 _ (hm_lt hin)) rfl rfl hdg kk
theorem hm_bald (S : CallFix p m c cc nL s args [] own) (hK : hmK E s) (hI : hmI E σ H) {i v : Int32} (hv : aI σ 3 a i = some v) (hdg : decode cc pc = .ok (.baload, 1))
    (kk : W p l e R s m args below meth c H locs cells slots Q (F0 m (pc + 1) ls (.int v :: rest))) : W p l e R s m args below meth c H locs cells slots Q (F0 m pc ls (.int i :: .ref a :: rest)) := by
  obtain ⟨k, n, f, hx, hb, hin, rfl⟩ := aI_s hv
  obtain ⟨cell, q1, q2, q3, q4, q5, q6, q7, q8, -⟩ := hI.2.2.2 a _ hx
  have ha := hm_arr (x := (n, .inl f)) hK q8 q2 q3
  rw [← hmB_T k q8, hb] at ha
  exact W.bald S.1 S.2.1 q1 ha q4 (hm_in hin q5) (q7 _ (hm_lt hin)) rfl rfl hdg kk
theorem hm_lald (S : CallFix p m c cc nL s args [] own) (hK : hmK E s) (hI : hmI E σ H) {i : Int32} {v : Int64} (hv : aL σ a i = some v) (hdg : decode cc pc = .ok (.laload, 1))
    (kk : W p l e R s m args below meth c H locs cells slots Q (F0 m (pc + 1) ls (.long v :: rest))) : W p l e R s m args below meth c H locs cells slots Q (F0 m pc ls (.int i :: .ref a :: rest)) := by
  obtain ⟨k, n, f, hx, hb, hin, rfl⟩ := aL_s hv
  obtain ⟨cell, q1, q2, q3, q4, q5, q6, q7, q8, -⟩ := hI.2.2.2 a _ hx
  have ha := hm_arr (x := (n, .inr (.inl f))) hK q8 q2 q3
  rw [← hmB_T k q8, hb] at ha
  exact W.lald S.1 S.2.1 q1 ha q4 (hm_in hin q5) (q7 _ (hm_lt hin)) rfl rfl hdg kk
theorem hm_ref : ∀ k, 4 ≤ k → k < 8 → (hmT k).isReference = true := by
  intro k h1 h2
  rcases (show k = 4 ∨ k = 5 ∨ k = 6 ∨ k = 7 by omega) with rfl | rfl | rfl | rfl <;> rfl
theorem hm_aald (S : CallFix p m c cc nL s args [] own) (hK : hmK E s) (hI : hmI E σ H) {i : Int32} {v : Option Nat} (hv : aR σ a i = some v) (hdg : decode cc pc = .ok (.aaload, 1))
    (kk : W p l e R s m args below meth c H locs cells slots Q (F0 m (pc + 1) ls (va_rf v :: rest))) : W p l e R s m args below meth c H locs cells slots Q (F0 m pc ls (.int i :: .ref a :: rest)) := by
  obtain ⟨k, n, f, hx, hb, hin, rfl⟩ := aR_s hv
  obtain ⟨cell, q1, q2, q3, q4, q5, q6, q7, q8, -⟩ := hI.2.2.2 a _ hx
  exact W.aald S.1 S.2.1 q1 (hm_arr (x := (n, .inr (.inr (.inr (.inr f))))) hK q8 q2 q3) (hm_ref k hb.1 hb.2) q4 (hm_in hin q5) (q7 _ (hm_lt hin)) rfl rfl hdg kk
end HMR
end
section
/-! Writing, making, calling, returning. -/
theorem hm_atA {E : hmG} {a k n : Nat} {x : hmX} {H : Heap} (hk : k < 8) (ha : hmL E ≤ a) (h : H[a]? = some (arrV (hmA E k) n (hmV x))) : hmAt E a (.inl (k, n, x)) H := by
  refine ⟨_, h, rfl, (fun z q => by cases q), (fun q => by cases q), ?_, ?_, ?_, Nat.lt_of_lt_of_le hk (by decide), fun _ => ⟨ha, rfl⟩⟩
  · show n ≤ (arrV _ _ _).slots.size; rw [arrV_size]; exact Nat.le_refl n
  · show (arrV _ _ _).slots.size.toInt32 = _; rw [arrV_size]
  · intro j hj; exact arrV_read _ _ hj
theorem hm_updI {f : Nat → Int32} {k : Nat} {y : Int32} : updV (hmV (.inl f)) k (.int y) = hmV (.inl (upd f k y)) := by
  funext j
  by_cases hj : j = k
  · subst hj; simp [updV, hmV, upd]
  · simp [updV, hmV, upd, hj]
theorem hm_updL {f : Nat → Int64} {k : Nat} {y : Int64} : updV (hmV (.inr (.inl f))) k (.long y) = hmV (.inr (.inl (vp_updL f k y))) := by
  funext j
  by_cases hj : j = k
  · subst hj; simp [updV, hmV, vp_updL]
  · simp [updV, hmV, vp_updL, hj]
theorem hm_updR {f : Nat → Option Nat} {k : Nat} {r : Option Nat} : updV (hmV (.inr (.inr (.inr (.inr f))))) k (va_rf r) = hmV (.inr (.inr (.inr (.inr (va_up f k r))))) := by
  funext j
  by_cases hj : j = k
  · subst hj; simp [updV, hmV, va_up]
  · simp [updV, hmV, va_up, hj]
def hmCn (own : String) (idx ci N : Nat) (fs : List Value) (s : State) : Prop := ∃ (C : String) (T : u_T) (ty : Nat → FieldType), vwCl[ci]? = some (C, T, N) ∧ (∀ A, (Cond.classLink own idx C).before A s = true) ∧ (∀ A, (Cond.instantiable C N).before A s = true) ∧ (∀ A, (Cond.initialized C).before A s = true) ∧ (∀ k, k < N → parseFieldDescriptor (T k).2.2.1 = some (ty k)) ∧ (∀ j, j < N → defaultValue (ty j) = vp_V fs j) ∧ (∀ w ∈ u_ws C T N, ∀ A, w.before A s = true)
theorem hm_cn {E : hmG} {s : State} (hK : hmK E s) {own : String} {idx ci N : Nat} {fs : List Value} (C : String) (T : u_T) (ty : Nat → FieldType) (hc : vwCl[ci]? = some (C, T, N)) (i1 i2 i3 : Nat) (h1 : tables_1[i1]? = some (Cond.classLink own idx C)) (h2 : tables_1[i2]? = some (Cond.instantiable C N)) (h3 : tables_1[i3]? = some (Cond.initialized C)) (hty : ∀ k, k < N → parseFieldDescriptor (T k).2.2.1 = some (ty k)) (hfs : ∀ j, j < N → defaultValue (ty j) = vp_V fs j) (hlay : ∀ w ∈ u_ws C T N, w ∈ lw_tbl ∧ goodWord w = true) : hmCn own idx ci N fs s :=
  ⟨C, T, ty, hc, fun A => hK.2.2.1 _ (List.mem_append_right _ (List.mem_of_getElem? h1)) rfl A, fun A => hK.2.2.1 _ (List.mem_append_right _ (List.mem_of_getElem? h2)) rfl A, fun A => hK.2.2.1 _ (List.mem_append_right _ (List.mem_of_getElem? h3)) rfl A, hty, hfs, fun w hw A => hK.2.2.1 _ (hlay w hw).1 (hlay w hw).2 A⟩
/-- a call's facts, by its place in a class's pool -/
def hmMs (own : String) (idx : Nat) (y : MethodName) (bytes : ByteArray) (maxL : Nat) (ret : Option FieldType) (n : Nat) (s : State) : Prop :=
  (∀ A, (Cond.code y bytes maxL ret).before A s = true) ∧ (∀ A, (Cond.initialized y.cls).before A s = true) ∧ (y.cls ≠ "java/lang/invoke/MethodHandle" ∧ y.cls ≠ "java/lang/invoke/VarHandle") ∧ (parseMethodDescriptor y.desc).map (fun d => d.parameters.length) = some n ∧ (∀ A, (Cond.methodLink own idx y).before A s = true)
theorem hm_ms {E : hmG} {s : State} (hK : hmK E s) {own : String} {idx : Nat} {y : MethodName} {bytes : ByteArray} {maxL : Nat} {ret : Option FieldType} {n : Nat} (i1 i2 i3 : Nat) (h1 : tables_1[i1]? = some (Cond.code y bytes maxL ret)) (h2 : tables_1[i2]? = some (Cond.initialized y.cls)) (h3 : tables_1[i3]? = some (Cond.methodLink own idx y)) (hy : y.cls ≠ "java/lang/invoke/MethodHandle" ∧ y.cls ≠ "java/lang/invoke/VarHandle") (hn : (parseMethodDescriptor y.desc).map (fun d => d.parameters.length) = some n) : hmMs own idx y bytes maxL ret n s :=
  ⟨fun A => hK.2.2.1 _ (List.mem_append_right _ (List.mem_of_getElem? h1)) rfl A, fun A => hK.2.2.1 _ (List.mem_append_right _ (List.mem_of_getElem? h2)) rfl A, hy, hn, fun A => hK.2.2.1 _ (List.mem_append_right _ (List.mem_of_getElem? h3)) rfl A⟩
theorem hm_callB {E : hmG} {R : Room} {s : State} {args : Array Value} (hK : hmK E s) {own : String} {idx maxL mc ms n fr lo : Nat} {y : MethodName} {bytes : ByteArray} {ret : Option FieldType} (h : hmMs own idx y bytes maxL ret n s) (hR : fr + 1 ≤ R.frames ∧ 8 + (maxL + 11) + lo ≤ R.locals) : CallB R s args own idx y bytes maxL ret [Cond.code y bytes maxL ret] { frames := fr, cells := mc, slots := ms, locals := lo } mc ms n := by
  obtain ⟨h1, h2, h3, h4, h5⟩ := h
  refine ⟨rfl, rfl, hR.1, hR.2, ?_, List.mem_singleton.mpr rfl, h1 _, h2 _, h3, ?_, h5 _⟩
  · intro w hw a' U hW
    rw [List.mem_singleton.mp hw]
    exact word_at (args := #[]) hW (good_of_word rfl) (h1 #[])
  · intro sig hs
    rw [hs] at h4
    exact (Option.some.inj h4).symm
theorem hm_blind {E : hmG} {av : List Value} {σ : hmS} : FrameBlind (hmPc E av σ) := fun a U g mk h => ⟨h.1, h.2.1.warm (U := U.calling g mk a) (State.WarmedH.refl U), h.2.2⟩
theorem hm_preS {E : hmG} {s : State} {H : Heap} {σ : hmS} {As : List Value} (hK : hmK E s) (hI : hmI E σ H) : PreS s H (hmPc E As σ) As := ⟨hm_blind, fun U hU hW => ⟨rfl, hK.warm hW, by rw [hU]; exact hI⟩⟩
def hmOb (σ : hmS) (a ci : Nat) : Prop := ∃ fs, σ.1 a = some (.inr (ci, fs))
theorem hm_preV {E : hmG} {s : State} {H : Heap} {σ : hmS} {b ci : Nat} {As : List Value} {r : vw_C} (hK : hmK E s) (hI : hmI E σ H) (ho : hmOb σ b ci) (hr : vwCl[ci]? = some r) : PreV s H r.1 b (hmPc E (.ref b :: As) σ) As := by
  refine ⟨hm_blind, ?_, fun U hU hW => ⟨rfl, hK.warm hW, by rw [hU]; exact hI⟩⟩
  obtain ⟨fs, hf⟩ := ho
  obtain ⟨-, r', h1, cell, g1, g2, g3, -⟩ := hI.2.2.2 b _ hf
  cases h1.symm.trans hr
  exact ⟨cell, g1, by rw [g3]; rfl, by rw [g2]; exact (hK.1 ci _ hr).2.1⟩
def obC (σ : hmS) (a ci : Nat) : Option Unit := match σ.1 a with
  | some (.inr o) => if o.1 = ci then some () else none
  | _ => none
theorem obC_s {σ : hmS} {a ci : Nat} {u : Unit} (h : obC σ a ci = some u) : hmOb σ a ci := by
  unfold obC at h; split at h
  · rename_i o ho; split at h
    · rename_i hc; subst hc; exact ⟨o.2, ho⟩
    · cases h
  · cases h
section HMR2
variable {p : Program} {l : Launch} {e : Env} {R : Room} {s : State} {m : MethodId} {args : Array Value} {below : List Frame} {meth : Method} {c : Code} {H : Heap} {locs : List Loc} {cells slots : Nat} {Q : State → Prop}
variable {cc : ByteArray} {pc nL : Nat} {ls : Array Slot} {rest st0 : List Value} {E : hmG} {σ σ' : hmS} {a : Nat} {own : String}
theorem hm_iast (S : CallFix p m c cc nL s args [] own) (hK : hmK E s) (hI : hmI E σ H) (hL : hmLo E locs) {i x : Int32} (hv : sI σ 0 a i x = some σ') (hdg : decode cc pc = .ok (.iastore, 1))
    (kk : ∀ (H1 : Heap) (locs1 : List Loc), hmI E σ' H1 → hmLo E locs1 → W p l e R s m args below meth c H1 locs1 cells slots Q (F0 m (pc + 1) ls rest)) : W p l e R s m args below meth c H locs cells slots Q (F0 m pc ls (.int x :: .int i :: .ref a :: rest)) := by
  obtain ⟨n, f, hx, hb, hin, rfl⟩ := sI_s hv
  obtain ⟨cell, q1, q2, q3, q4, q5, q6, q7, q8, q9⟩ := hI.2.2.2 a _ hx
  obtain ⟨hlo, rfl⟩ := q9 hb
  have ha := hm_arr (x := (n, .inl f)) hK q8 q2 q3
  refine W.iast S.1 S.2.1 q1 ha q4 (hm_in hin q5) rfl rfl hdg fun H' e1 e2 e3 => ?_
  exact kk H' _ (hI.set e2 e3 hlo (hm_atA hb hlo (by rw [e1, arrV_store, hm_updI]))) (hL.put hlo)
theorem hm_zast (S : CallFix p m c cc nL s args [] own) (hK : hmK E s) (hI : hmI E σ H) (hL : hmLo E locs) {i x : Int32} (hv : sI σ 2 a i (vp_nar .boolean x) = some σ') (hdg : decode cc pc = .ok (.bastore, 1))
    (kk : ∀ (H1 : Heap) (locs1 : List Loc), hmI E σ' H1 → hmLo E locs1 → W p l e R s m args below meth c H1 locs1 cells slots Q (F0 m (pc + 1) ls rest)) : W p l e R s m args below meth c H locs cells slots Q (F0 m pc ls (.int x :: .int i :: .ref a :: rest)) := by
  obtain ⟨n, f, hx, hb, hin, rfl⟩ := sI_s hv
  obtain ⟨cell, q1, q2, q3, q4, q5, q6, q7, q8, q9⟩ := hI.2.2.2 a _ hx
  obtain ⟨hlo, rfl⟩ := q9 hb
  have ha := hm_arr (x := (n, .inl f)) hK q8 q2 q3
  refine W.zast S.1 S.2.1 q1 ha q4 (hm_in hin q5) rfl rfl hdg fun H' e1 e2 e3 => ?_
  exact kk H' _ (hI.set e2 e3 hlo (hm_atA hb hlo (by rw [e1, arrV_store, show narrow .boolean (.int x) = .int (vp_nar .boolean x) from rfl, hm_updI]))) (hL.put hlo)
theorem hm_bast (S : CallFix p m c cc nL s args [] own) (hK : hmK E s) (hI : hmI E σ H) (hL : hmLo E locs) {i x : Int32} (hv : sI σ 3 a i (vp_nar .byte x) = some σ') (hdg : decode cc pc = .ok (.bastore, 1))
    (kk : ∀ (H1 : Heap) (locs1 : List Loc), hmI E σ' H1 → hmLo E locs1 → W p l e R s m args below meth c H1 locs1 cells slots Q (F0 m (pc + 1) ls rest)) : W p l e R s m args below meth c H locs cells slots Q (F0 m pc ls (.int x :: .int i :: .ref a :: rest)) := by
  obtain ⟨n, f, hx, hb, hin, rfl⟩ := sI_s hv
  obtain ⟨cell, q1, q2, q3, q4, q5, q6, q7, q8, q9⟩ := hI.2.2.2 a _ hx
  obtain ⟨hlo, rfl⟩ := q9 hb
  have ha := hm_arr (x := (n, .inl f)) hK q8 q2 q3
  refine W.bast S.1 S.2.1 q1 ha q4 (hm_in hin q5) rfl rfl hdg fun H' e1 e2 e3 => ?_
  exact kk H' _ (hI.set e2 e3 hlo (hm_atA hb hlo (by rw [e1, arrV_store, show narrow .byte (.int x) = .int (vp_nar .byte x) from rfl, hm_updI]))) (hL.put hlo)
theorem hm_last (S : CallFix p m c cc nL s args [] own) (hK : hmK E s) (hI : hmI E σ H) (hL : hmLo E locs) {i : Int32} {x : Int64} (hv : sL σ a i x = some σ') (hdg : decode cc pc = .ok (.lastore, 1))
    (kk : ∀ (H1 : Heap) (locs1 : List Loc), hmI E σ' H1 → hmLo E locs1 → W p l e R s m args below meth c H1 locs1 cells slots Q (F0 m (pc + 1) ls rest)) : W p l e R s m args below meth c H locs cells slots Q (F0 m pc ls (.long x :: .int i :: .ref a :: rest)) := by
  obtain ⟨n, f, hx, hin, rfl⟩ := sL_s hv
  obtain ⟨cell, q1, q2, q3, q4, q5, q6, q7, q8, q9⟩ := hI.2.2.2 a _ hx
  obtain ⟨hlo, rfl⟩ := q9 (show 1 < 8 by decide)
  have ha := hm_arr (x := (n, .inr (.inl f))) hK q8 q2 q3
  refine W.last S.1 S.2.1 q1 ha q4 (hm_in hin q5) rfl rfl hdg fun H' e1 e2 e3 => ?_
  exact kk H' _ (hI.set e2 e3 hlo (hm_atA (by decide) hlo (by rw [e1, arrV_store, hm_updL]))) (hL.put hlo)
theorem hm_kC : ∀ k, 4 ≤ k → k < 8 → ∃ r : vw_C, vwCl[hmC k]? = some r ∧ hmT k = .object r.1 := by
  intro k h1 h2
  rcases (show k = 4 ∨ k = 5 ∨ k = 6 ∨ k = 7 by omega) with rfl | rfl | rfl | rfl <;> exact ⟨_, rfl, rfl⟩
theorem hm_aast (S : CallFix p m c cc nL s args [] own) (hK : hmK E s) (hI : hmI E σ H) (hL : hmLo E locs) {i : Int32} {r : Option Nat} (hv : sR σ a i r = some σ') (hdg : decode cc pc = .ok (.aastore, 1))
    (kk : ∀ (H1 : Heap) (locs1 : List Loc), hmI E σ' H1 → hmLo E locs1 → W p l e R s m args below meth c H1 locs1 cells slots Q (F0 m (pc + 1) ls rest)) : W p l e R s m args below meth c H locs cells slots Q (F0 m pc ls (va_rf r :: .int i :: .ref a :: rest)) := by
  obtain ⟨k, n, f, hx, hb, hin, hok, rfl⟩ := sR_s hv
  obtain ⟨cell, q1, q2, q3, q4, q5, q6, q7, q8, q9⟩ := hI.2.2.2 a _ hx
  obtain ⟨hlo, rfl⟩ := q9 hb.2
  obtain ⟨rc, hrc, hT⟩ := hm_kC k hb.1 hb.2
  have ha := hm_arr (x := (n, .inr (.inr (.inr (.inr f))))) hK q8 q2 q3
  have hra := hK.2.2.2.2.1 k hb.2
  rw [hT] at ha hra
  cases r with
  | none =>
    refine va_WaastN S.1 S.2.1 q1 ha q4 (hm_in hin q5) rfl rfl hdg fun H' e1 e2 e3 => ?_
    exact kk H' _ (hI.set e2 e3 hlo (hm_atA hb.2 hlo (by rw [e1, arrV_store, show Value.null = va_rf none from rfl, hm_updR]))) (hL.put hlo)
  | some v =>
    have hov : hmOb σ v (hmC k) := by
      unfold okR at hok
      split at hok
      · rename_i heq; cases heq
      · rename_i w heq
        cases heq
        split at hok
        · rename_i o ho; rw [← (beq_iff_eq.mp hok)]; exact ⟨o.2, ho⟩
        · cases hok
    obtain ⟨fs, hfs⟩ := hov
    obtain ⟨-, r', h1, cellV, g1, g2, g3, -⟩ := hI.2.2.2 v _ hfs
    cases h1.symm.trans hrc
    have hcls := (hK.1 _ _ hrc).2
    obtain ⟨kA, comp, k1, k2, k3, -⟩ := hra
    have hcomp : comp = (hmD E).1 (hmC k) := Option.some.inj (k3.symm.trans hcls.1)
    subst hcomp
    obtain ⟨kC, hkC, -⟩ := hcls.2
    refine W.aast S.1 S.2.1 q1 q3 q4 k1 k2 rfl hkC ⟨fun q => hin (Or.inl q), Nat.lt_of_lt_of_le (hm_lt hin) q5⟩ g1 (fun q h => by rw [g3] at h; cases h) (by rw [g2]; exact hkC) (by rw [g2]; exact va_assign hcls) rfl rfl hdg fun H' e1 e2 e3 => ?_
    exact kk H' _ (hI.set e2 e3 hlo (hm_atA hb.2 hlo (by rw [e1, arrV_store, show Value.ref v = va_rf (some v) from rfl, hm_updR]))) (hL.put hlo)
theorem hm_new (S : CallFix p m c cc nL s args [] own) (hK : hmK E s) (hI : hmI E σ H) {idx ci N q : Nat} {fs : List Value} (hn : hmCn own idx ci N fs s) (hq : q = σ.2) (hs : σ' = hmN σ (.inr (ci, fs))) (hcells : cells + 1 ≤ R.cells) (hslots : slots + N ≤ R.slots) (hdg : decode cc pc = .ok (.new idx, 3))
    (kk : ∀ H1 : Heap, hmI E σ' H1 → W p l e R s m args below meth c H1 locs (cells + 1) (slots + N) Q (F0 m (pc + 3) ls (.ref q :: rest))) : W p l e R s m args below meth c H locs cells slots Q (F0 m pc ls rest) := by
  obtain ⟨C, T, ty, hc, h1, h2, h3, hty, hfs, hw⟩ := hn
  subst hq; subst hs
  have hKn := hK.1 ci _ hc
  refine W.newcK S.1 S.2.1 S.2.2.2.1 (h1 _) (h2 _) (h3 _) rfl hdg hcells hslots hKn.2.1 hI.1 fun H1 kC hkC e1 z1 o1 => ?_
  exact kk H1 (hI.push z1 o1 ⟨hI.2.1, _, hc, (u_born ty (fun w h => hw w h args) (fun _ h => h) hKn hkC e1 hty).to hfs⟩)
theorem hm_dflt {ty : FieldType} {x : hmX} (h : ∀ j, hmV x j = defaultValue ty) : (fun _ : Nat => defaultValue ty) = hmV x := by funext j; exact (h j).symm
theorem hm_newa (S : CallFix p m c cc nL s args [] own) (hK : hmK E s) (hI : hmI E σ H) {k B q i : Nat} {x : hmX} {n : Int32} {atype : ArrayType} (hw : tables_1[i]? = some (Cond.arrayClass (newarray.typeOf atype))) (hkt : hmT k = newarray.typeOf atype) (hk : k < 4) (hx : ∀ j, hmV x j = defaultValue (newarray.typeOf atype)) (hv : nA σ k x B n = some (q, σ')) (hB : B * componentBytes (newarray.typeOf atype) ≤ 536870912) (hcells : cells + 1 ≤ R.cells) (hslots : slots + B ≤ R.slots) (hdg : decode cc pc = .ok (.newarray atype, 2))
    (kk : ∀ H1 : Heap, hmI E σ' H1 → W p l e R s m args below meth c H1 locs (cells + 1) (slots + B) Q (F0 m (pc + 2) ls (.ref q :: rest))) : W p l e R s m args below meth c H locs cells slots Q (F0 m pc ls (.int n :: rest)) := by
  obtain ⟨hn, hb, rfl, rfl⟩ := nA_s hv
  refine va_newaK S.1 S.2.1 (hK.2.2.1 _ (List.mem_append_right _ (List.mem_of_getElem? hw)) rfl args) rfl hdg rfl hn rfl (Nat.le_trans (Nat.mul_le_mul_right _ hb) hB) hcells (by omega) hI.1 fun H1 cA e1 z1 o1 hAr hNm => ?_
  refine W.widen (k := cells + 1) (n := slots + B) (Nat.le_refl _) (by omega) ?_
  have hra := hK.2.2.2.2.1 k (by omega)
  have hcA : cA = hmA E k := by
    rcases (show k = 0 ∨ k = 1 ∨ k = 2 ∨ k = 3 by omega) with rfl | rfl | rfl | rfl
    all_goals
      rw [← hkt] at hNm
      exact Option.some.inj (hNm.symm.trans hra)
  subst hcA
  exact kk H1 (hI.push z1 o1 (hm_atA (by omega) hI.2.1 (by rw [e1, hm_dflt hx])))
theorem hm_anew (S : CallFix p m c cc nL s args [] own) (hK : hmK E s) (hI : hmI E σ H) {k B q i1 idx : Nat} {C : String} {n : Int32} (hw1 : tables_1[i1]? = some (Cond.classLink own idx C)) (hkt : hmT k = .object C) (hk : 4 ≤ k ∧ k < 8) (hv : nA σ k (.inr (.inr (.inr (.inr (fun _ => none))))) B n = some (q, σ')) (hB : B * 4 ≤ 536870912) (hcells : cells + 1 ≤ R.cells) (hslots : slots + B ≤ R.slots) (hdg : decode cc pc = .ok (.anewarray idx, 3))
    (kk : ∀ H1 : Heap, hmI E σ' H1 → W p l e R s m args below meth c H1 locs (cells + 1) (slots + B) Q (F0 m (pc + 3) ls (.ref q :: rest))) : W p l e R s m args below meth c H locs cells slots Q (F0 m pc ls (.int n :: rest)) := by
  obtain ⟨hn, hb, rfl, rfl⟩ := nA_s hv
  refine W.anew S.1 S.2.1 S.2.2.2.1 (hK.2.2.1 _ (List.mem_append_right _ (List.mem_of_getElem? hw1)) rfl args) (va_AO.use (hK.2.2.2.2.2.2.2.2.1 k hk.1 hk.2 C hkt)) rfl hdg rfl hn (Nat.le_trans (Nat.mul_le_mul_right _ hb) hB) hcells (by omega) fun cA kA comp f1 f2 f3 f4 => ?_
  refine W.widen (k := cells + 1) (n := slots + B) (Nat.le_refl _) (by omega) ?_
  have hra := hK.2.2.2.2.1 k hk.2
  rw [hkt] at hra
  obtain ⟨kA', comp', k1, k2, k3, k4⟩ := hra
  have hcA : cA = hmA E k := Option.some.inj (f1.symm.trans k4)
  subst hcA
  have hz := hI.1
  generalize hH1 : H.push ({ cls := hmA E k, slots := Array.replicate n.toNatClampNeg .null, vm := .none } : Cell) = H1
  have z1 : H1.size = σ.2 + 1 := by rw [← hH1, Array.size_push, hz]
  have e1 : H1[σ.2]? = some (arrV (hmA E k) n.toNatClampNeg (hmV (.inr (.inr (.inr (.inr (fun _ => none))))))) := by rw [← hH1, ← hz, Array.getElem?_push_size, show hmV (.inr (.inr (.inr (.inr (fun _ => none))))) = (fun _ => Value.null) from rfl, ← arrV_new]
  have o1 : ∀ q : Nat, q < σ.2 → H1[q]? = H[q]? := fun q hq => by rw [← hH1, Array.getElem?_push, if_neg (by omega)]
  rw [hz]
  exact kk H1 (hI.push z1 o1 (hm_atA hk.2 hI.2.1 e1))
-- calls
theorem hm_call {mc ms : Nat} {v : Value} {av : Array Value} (hr : va_Run p l e R s m args below meth c H locs cells slots mc ms (F0 m pc ls st0) rest (hmQc E (some v) σ' av) (fun q => hmL E ≤ q)) (hL : hmLo E locs)
    (kk : ∀ (H1 : Heap) (locs1 : List Loc), hmI E σ' H1 → hmLo E locs1 → W p l e R s m args below meth c H1 locs1 (cells + mc) (slots + ms) Q (F0 m (pc + 3) ls (v :: rest))) : W p l e R s m args below meth c H locs cells slots Q (F0 m pc ls st0) := by
  intro T hT X
  obtain ⟨v', st₀, t, T', L, h0, X', hL', e1, e2, ⟨hv, hI⟩, st⟩ := hr T hT X
  cases hv
  obtain ⟨t2, a1, b1⟩ := kk T'.heap (locs ++ L) (by rw [e1]; exact hI) (hL.app hL') T' rfl X'
  exact ⟨t2, st t2 a1, b1⟩
theorem hm_callv {mc ms : Nat} {av : Array Value} (hr : va_Run p l e R s m args below meth c H locs cells slots mc ms (F0 m pc ls st0) rest (hmQc E none σ' av) (fun q => hmL E ≤ q)) (hL : hmLo E locs)
    (kk : ∀ (H1 : Heap) (locs1 : List Loc), hmI E σ' H1 → hmLo E locs1 → W p l e R s m args below meth c H1 locs1 (cells + mc) (slots + ms) Q (F0 m (pc + 3) ls rest)) : W p l e R s m args below meth c H locs cells slots Q (F0 m pc ls st0) := by
  intro T hT X
  obtain ⟨v', st₀, t, T', L, h0, X', hL', e1, e2, ⟨hv, hI⟩, st⟩ := hr T hT X
  cases hv
  obtain ⟨t2, a1, b1⟩ := kk T'.heap (locs ++ L) (by rw [e1]; exact hI) (hL.app hL') T' rfl X'
  exact ⟨t2, st t2 a1, b1⟩
variable {y : MethodName} {bytes : ByteArray} {maxL mc ms n idx fr lo : Nat} {ret : Option FieldType} {As : List Value} {Qc : Array Value → State → Outcome → State → Prop} {free : Addr → Prop}
theorem hm_runS (S : CallFix p m c cc nL s args [] own) (hK : hmK E s) (hI : hmI E σ H) (hM : Met l y [Cond.code y bytes maxL ret] { frames := fr, cells := mc, slots := ms, locals := lo } (hmPc E As σ) Qc mc ms free) (h : hmMs own idx y bytes maxL ret n s) (hst : ∀ A, (Cond.static y).before A s = true) (hR : fr + 1 ≤ R.frames ∧ 8 + (maxL + 11) + lo ≤ R.locals) (hn : As.length = n) (hsize : ls.size = nL) (hW : (rest.map fun v => v.category).sum ≤ 8) (hf : cells + mc ≤ R.cells ∧ slots + ms ≤ R.slots) (hdg : decode cc pc = .ok (.invokestatic idx, 3)) :
    va_Run p l e R s m args below meth c H locs cells slots mc ms (F0 m pc ls (As.reverse ++ rest)) rest (Qc As.toArray) free :=
  va_runS (g := F0 m pc ls (As.reverse ++ rest)) S hM ⟨hm_callB hK h hR, hst _⟩ (hm_preS hK hI) rfl hn hsize rfl (by show 2 * 0 + _ ≤ 8; omega) hdg hf
theorem hm_runI (S : CallFix p m c cc nL s args [] own) (hK : hmK E s) (hI : hmI E σ H) {b : Nat} (hM : Met l y [Cond.code y bytes maxL none] { frames := fr, cells := mc, slots := ms, locals := lo } (hmPc E (.ref b :: As) σ) Qc mc ms free) (h : hmMs own idx y bytes maxL none n s) (hy : y.name = "<init>") (hin : ∀ A, (Cond.instanceMethod y).before A s = true) (hR : fr + 1 ≤ R.frames ∧ 8 + (maxL + 11) + lo ≤ R.locals) (hn : As.length = n) (hsize : ls.size = nL) (hW : (rest.map fun v => v.category).sum ≤ 8) (hf : cells + mc ≤ R.cells ∧ slots + ms ≤ R.slots) (hdg : decode cc pc = .ok (.invokespecial idx, 3)) :
    va_Run p l e R s m args below meth c H locs cells slots mc ms (F0 m pc ls (As.reverse ++ .ref b :: rest)) rest (Qc (Value.ref b :: As).toArray) free :=
  va_runI (g := F0 m pc ls (As.reverse ++ .ref b :: rest)) S hM ⟨hm_callB hK h hR, hy, hin _⟩ (hm_preS hK hI) rfl hn hsize rfl (by show 2 * 0 + _ ≤ 8; omega) hdg hf
theorem hm_runV (S : CallFix p m c cc nL s args [] own) (hK : hmK E s) (hI : hmI E σ H) {b ci : Nat} {r : vw_C} (ho : hmOb σ b ci) (hr : vwCl[ci]? = some r) (hM : Met l y [Cond.code y bytes maxL ret] { frames := fr, cells := mc, slots := ms, locals := lo } (hmPc E (.ref b :: As) σ) Qc mc ms free) (h : hmMs own idx y bytes maxL ret n s) (hin : ∀ A, (Cond.instanceMethod y).before A s = true) (hsel : ∀ A, (Cond.selects r.1 y y).before A s = true) (hR : fr + 1 ≤ R.frames ∧ 8 + (maxL + 11) + lo ≤ R.locals) (hn : As.length = n) (hsize : ls.size = nL) (hW : (rest.map fun v => v.category).sum ≤ 8) (hf : cells + mc ≤ R.cells ∧ slots + ms ≤ R.slots) (hdg : decode cc pc = .ok (.invokevirtual idx, 3)) :
    va_Run p l e R s m args below meth c H locs cells slots mc ms (F0 m pc ls (As.reverse ++ .ref b :: rest)) rest (Qc (Value.ref b :: As).toArray) free :=
  va_runV (g := F0 m pc ls (As.reverse ++ .ref b :: rest)) S hM ⟨hm_callB hK h hR, hin _, hsel _⟩ (hm_preV hK hI ho hr) rfl hn hsize rfl (by show 2 * 0 + _ ≤ 8; omega) hdg hf
end HMR2
end
section
/-! References in locals, tests of them, calls across a nest, statics, returns. -/
theorem hm_wd {E : hmG} {s : State} (hK : hmK E s) (i : Nat) {w : Cond} (h : tables_1[i]? = some w) (hg : goodWord w = true) : ∀ A, w.before A s = true := fun A => hK.2.2.1 _ (List.mem_append_right _ (List.mem_of_getElem? h)) hg A
theorem hm_wp {E : hmG} {s : State} (hK : hmK E s) (i : Nat) {w : Cond} (h : (k2_sels lw_privs)[i]? = some w) (hg : goodWord w = true) : ∀ A, w.before A s = true := fun A => hK.2.2.1 _ (List.mem_append_left _ (List.mem_of_getElem? h)) hg A
section HMR3
variable {p : Program} {l : Launch} {e : Env} {R : Room} {s : State} {m : MethodId} {args : Array Value} {below : List Frame} {meth : Method} {c : Code} {H : Heap} {locs : List Loc} {cells slots : Nat} {Q : State → Prop}
variable {cc : ByteArray} {pc nL : Nat} {ls : Array Slot} {rest st0 : List Value} {E : hmG} {σ σ' : hmS} {a : Nat} {own : String}
theorem hm_aload_n (hexec : p.tables.exec = Jvm.exec) (hb : c.code = cc) {k : Fin 4} {i : Nat} {r : Option Nat} (hdg : decode cc pc = .ok (.aload_n k, 1)) (hi : (k : Nat) = i) (hl : ls[i]? = some (.val (va_rf r)))
    (kk : W p l e R s m args below meth c H locs cells slots Q (F0 m (pc + 1) ls (va_rf r :: rest))) : W p l e R s m args below meth c H locs cells slots Q (F0 m pc ls rest) := by
  cases r with
  | none => exact lv_aload_nN hexec hb hdg hi hl kk
  | some a => exact lv_aload_n hexec hb hdg hi hl kk
theorem hm_aload (hexec : p.tables.exec = Jvm.exec) (hb : c.code = cc) {i : Nat} {r : Option Nat} (hdg : decode cc pc = .ok (.aload i, 2)) (hl : ls[i]? = some (.val (va_rf r)))
    (kk : W p l e R s m args below meth c H locs cells slots Q (F0 m (pc + 2) ls (va_rf r :: rest))) : W p l e R s m args below meth c H locs cells slots Q (F0 m pc ls rest) := by
  cases r with
  | none => exact lv_aloadN hexec hb hdg hl kk
  | some a => exact lv_aload hexec hb hdg hl kk
theorem hm_astore_n (hexec : p.tables.exec = Jvm.exec) (hb : c.code = cc) {k : Fin 4} {i nL : Nat} {r : Option Nat} {lv lv' : List (Nat × Value)} (hdg : decode cc pc = .ok (.astore_n k, 1)) (hi : (k : Nat) = i) (h : lv_has ls nL lv) (hn : i < nL) (hl : (i, va_rf r) :: lv.filter (fun q => !(q.1 == i) && !(q.1 + 1 == i && q.2.category == 2)) = lv')
    (kk : ∀ ls' : Array Slot, lv_has ls' nL lv' → W p l e R s m args below meth c H locs cells slots Q (F0 m (pc + 1) ls' rest)) : W p l e R s m args below meth c H locs cells slots Q (F0 m pc ls (va_rf r :: rest)) := by
  cases r with
  | none => exact lv_astore_nN hexec hb hdg hi h hn hl kk
  | some a => exact lv_astore_n hexec hb hdg hi h hn hl kk
theorem hm_astore (hexec : p.tables.exec = Jvm.exec) (hb : c.code = cc) {i nL : Nat} {r : Option Nat} {lv lv' : List (Nat × Value)} (hdg : decode cc pc = .ok (.astore i, 2)) (h : lv_has ls nL lv) (hn : i < nL) (hl : (i, va_rf r) :: lv.filter (fun q => !(q.1 == i) && !(q.1 + 1 == i && q.2.category == 2)) = lv')
    (kk : ∀ ls' : Array Slot, lv_has ls' nL lv' → W p l e R s m args below meth c H locs cells slots Q (F0 m (pc + 2) ls' rest)) : W p l e R s m args below meth c H locs cells slots Q (F0 m pc ls (va_rf r :: rest)) := by
  cases r with
  | none => exact lv_astoreN hexec hb hdg h hn hl kk
  | some a => exact lv_astore hexec hb hdg h hn hl kk
theorem hm_null (hexec : p.tables.exec = Jvm.exec) (hb : c.code = cc) (hdg : decode cc pc = .ok (.aconst_null, 1))
    (kk : W p l e R s m args below meth c H locs cells slots Q (F0 m (pc + 1) ls (va_rf none :: rest))) : W p l e R s m args below meth c H locs cells slots Q (F0 m pc ls rest) := by
  intro T hT X
  obtain ⟨t, a, b⟩ := kk T hT X
  refine ⟨t, ?_, b⟩
  jvm_step X.here [X.here.top, hexec, hb, hdg]
  exact a
theorem hm_objInit (S : CallFix p m c cc nL s args [] own) (hK : hmK E s) {idx i1 i2 i3 : Nat} (h1 : tables_1[i1]? = some (Cond.methodLink own idx Lib.objectInit)) (h2 : tables_1[i2]? = some (Cond.instanceMethod Lib.objectInit)) (h3 : tables_1[i3]? = some (Cond.code Lib.objectInit ⟨#[0xb1]⟩ 1 none)) (hsize : ls.size = nL) (hdg : decode cc pc = .ok (.invokespecial idx, 3)) (hframes : 1 ≤ R.frames) (hW : (rest.map fun v => v.category).sum ≤ 8) (hlocals : 20 ≤ R.locals)
    (kk : W p l e R s m args below meth c H locs cells slots Q (F0 m (pc + 3) ls rest)) : W p l e R s m args below meth c H locs cells slots Q (F0 m pc ls (.ref a :: rest)) :=
  W.objInit S.1 S.2.1 S.2.2.2.1 (hm_wd hK i1 h1 rfl args) (hm_wd hK i2 h2 rfl args) (hm_wd hK i3 h3 rfl args) rfl (by rw [S.2.2.1]; exact hsize) rfl hdg hframes (by show 2 * 0 + _ + 12 ≤ _; omega) kk
theorem hm_gets (S : CallFix p m c cc nL s args [] own) (hI : hmI E σ H) {C n d : String} {v : Value} {idx : Nat} (hZ : va_Z C n d v (fun q => hmL E ≤ q) s (hmH E)) (hlink : (Cond.fieldLink own idx C n d).before args s = true) (hdg : decode cc pc = .ok (.getstatic idx, 3))
    (kk : W p l e R s m args below meth c H locs cells slots Q (F0 m (pc + 3) ls (v :: rest))) : W p l e R s m args below meth c H locs cells slots Q (F0 m pc ls rest) := by
  obtain ⟨cf, kf, fi, f, a, cell, h1, h2, h3, h4, h5, h6, h7, h8⟩ := hZ
  exact W.gets S.1 S.2.1 S.2.2.2.1 hlink h1 h2 h3 h4 (by rw [hI.2.2.1 a (Nat.not_le.mp h8)]; exact h5) (fun e => by rw [e] at h6; cases h6) h7 rfl hdg kk
theorem hm_getsN (S : CallFix p m c cc nL s args [] own) (hI : hmI E σ H) {C n d host : String} {v : Value} {idx : Nat} (hZ : va_Z C n d v (fun q => hmL E ≤ q) s (hmH E)) (hlink : va_Nw (.fieldLinkNest own idx C n d host) s) (hdg : decode cc pc = .ok (.getstatic idx, 3))
    (kk : W p l e R s m args below meth c H locs cells slots Q (F0 m (pc + 3) ls (v :: rest))) : W p l e R s m args below meth c H locs cells slots Q (F0 m pc ls rest) := by
  obtain ⟨cf, kf, fi, f, a, cell, h1, h2, h3, h4, h5, h6, h7, h8⟩ := hZ
  exact va_WgetsN S.1 S.2.1 S.2.2.2.1 (va_Nw.use rfl hlink) h1 h2 h3 h4 (by rw [hI.2.2.1 a (Nat.not_le.mp h8)]; exact h5) (fun e => by rw [e] at h6; cases h6) h7 rfl hdg kk
-- returns
variable {mc ms : Nat}
theorem hm_iret {v r : Int32} (hx : p.tables.exec = Jvm.exec) (hb : c.code = cc) (hr : meth.sig.returnType = some .int) (hI : hmI E σ H) (hL : hmLo E locs) (h : some (v, σ) = some (r, σ')) (hc : cells ≤ mc) (hs : slots ≤ ms) (hlocks : meth.locks = false) (hdg : decode cc pc = .ok (.ireturn, 1)) : W p l e R s m args below meth c H locs cells slots (MQ below (hmQc E (some (.int r)) σ') args s mc ms (fun q => hmL E ≤ q)) (F0 m pc ls [.int v]) := by
  obtain ⟨rfl, rfl⟩ := rt_s h
  refine W.widen (k := mc) (n := ms) hc hs ?_
  exact W.iret hx hb hr (fun t ht _ => ⟨rfl, by rw [ht]; exact hI⟩) hL hdg hlocks
theorem hm_zret {v r : Int32} {ty : FieldType} (hx : p.tables.exec = Jvm.exec) (hb : c.code = cc) (hr : meth.sig.returnType = some ty) (hn : narrow ty (.int v) = .int v) (hI : hmI E σ H) (hL : hmLo E locs) (h : some (v, σ) = some (r, σ')) (hc : cells ≤ mc) (hs : slots ≤ ms) (hlocks : meth.locks = false) (hdg : decode cc pc = .ok (.ireturn, 1)) : W p l e R s m args below meth c H locs cells slots (MQ below (hmQc E (some (.int r)) σ') args s mc ms (fun q => hmL E ≤ q)) (F0 m pc ls [.int v]) := by
  obtain ⟨rfl, rfl⟩ := rt_s h
  refine W.widen (k := mc) (n := ms) hc hs ?_
  exact W.zret hx hb hr hn (fun t ht _ => ⟨rfl, by rw [ht]; exact hI⟩) hL (hdg := hdg) (hlocks := hlocks)
theorem hm_lret {v r : Int64} (hx : p.tables.exec = Jvm.exec) (hb : c.code = cc) (hr : meth.sig.returnType = some .long) (hI : hmI E σ H) (hL : hmLo E locs) (h : some (v, σ) = some (r, σ')) (hc : cells ≤ mc) (hs : slots ≤ ms) (hlocks : meth.locks = false) (hdg : decode cc pc = .ok (.lreturn, 1)) : W p l e R s m args below meth c H locs cells slots (MQ below (hmQc E (some (.long r)) σ') args s mc ms (fun q => hmL E ≤ q)) (F0 m pc ls [.long v]) := by
  obtain ⟨rfl, rfl⟩ := rt_s h
  refine W.widen (k := mc) (n := ms) hc hs ?_
  exact W.lret hx hb hr (fun t ht _ => ⟨rfl, by rw [ht]; exact hI⟩) hL hdg hlocks
theorem hm_vret {u : Unit} (hx : p.tables.exec = Jvm.exec) (hb : c.code = cc) (hr : meth.sig.returnType = none) (hI : hmI E σ H) (hL : hmLo E locs) (h : some ((), σ) = some (u, σ')) (hc : cells ≤ mc) (hs : slots ≤ ms) (hlocks : meth.locks = false) (hdg : decode cc pc = .ok (.return_, 1)) : W p l e R s m args below meth c H locs cells slots (MQ below (hmQc E none σ') args s mc ms (fun q => hmL E ≤ q)) (F0 m pc ls []) := by
  obtain ⟨rfl, rfl⟩ := rt_s h
  refine W.widen (k := mc) (n := ms) hc hs ?_
  exact W.vret hx hb hr (fun t ht _ => ⟨rfl, by rw [ht]; exact hI⟩) hL (hdg := hdg) (hlocks := hlocks)
theorem hm_aret {v r : Option Nat} {ty : FieldType} (hx : p.tables.exec = Jvm.exec) (hb : c.code = cc) (hr : meth.sig.returnType = some ty) (hrt : (∃ n, ty = .object n) ∨ ∃ t, ty = .array t) (hI : hmI E σ H) (hL : hmLo E locs) (h : some (v, σ) = some (r, σ')) (hc : cells ≤ mc) (hs : slots ≤ ms) (hlocks : meth.locks = false) (hdg : decode cc pc = .ok (.areturn, 1)) : W p l e R s m args below meth c H locs cells slots (MQ below (hmQc E (some (va_rf r)) σ') args s mc ms (fun q => hmL E ≤ q)) (F0 m pc ls [va_rf v]) := by
  obtain ⟨rfl, rfl⟩ := rt_s h
  refine W.widen (k := mc) (n := ms) hc hs ?_
  exact W.aret hx hb hr hrt (va_rf_or v) (fun t ht _ => ⟨rfl, by rw [ht]; exact hI⟩) hL hdg hlocks
-- calls across a nest
variable {y : MethodName} {bytes : ByteArray} {maxL n idx fr lo : Nat} {ret : Option FieldType} {As : List Value} {Qc : Array Value → State → Outcome → State → Prop} {free : Addr → Prop}
def hmMn (own : String) (idx : Nat) (y : MethodName) (host : String) (bytes : ByteArray) (maxL : Nat) (ret : Option FieldType) (n : Nat) (s : State) : Prop :=
  (∀ A, (Cond.code y bytes maxL ret).before A s = true) ∧ (∀ A, (Cond.initialized y.cls).before A s = true) ∧ (y.cls ≠ "java/lang/invoke/MethodHandle" ∧ y.cls ≠ "java/lang/invoke/VarHandle") ∧ (parseMethodDescriptor y.desc).map (fun d => d.parameters.length) = some n ∧ va_Nw (.methodLinkNest own idx y host) s
theorem hm_mn {host : String} (hK : hmK E s) (i1 i2 : Nat) (h1 : tables_1[i1]? = some (Cond.code y bytes maxL ret)) (h2 : tables_1[i2]? = some (Cond.initialized y.cls)) (h3 : va_Nw (.methodLinkNest own idx y host) s) (hy : y.cls ≠ "java/lang/invoke/MethodHandle" ∧ y.cls ≠ "java/lang/invoke/VarHandle") (hn : (parseMethodDescriptor y.desc).map (fun d => d.parameters.length) = some n) : hmMn own idx y host bytes maxL ret n s :=
  ⟨hm_wd hK i1 h1 rfl, hm_wd hK i2 h2 rfl, hy, hn, h3⟩
theorem hm_callN {host : String} (hK : hmK E s) (h : hmMn own idx y host bytes maxL ret n s) (hR : fr + 1 ≤ R.frames ∧ 8 + (maxL + 11) + lo ≤ R.locals) : va_CN R s args own idx y host bytes maxL ret [Cond.code y bytes maxL ret] { frames := fr, cells := mc, slots := ms, locals := lo } mc ms n := by
  obtain ⟨h1, h2, h3, h4, h5⟩ := h
  refine ⟨⟨rfl, rfl, hR.1, hR.2, ?_, List.mem_singleton.mpr rfl⟩, h1 _, h2 _, h3, ?_, va_Nw.use rfl h5⟩
  · intro w hw a' U hW
    rw [List.mem_singleton.mp hw]
    exact word_at (args := #[]) hW (good_of_word rfl) (h1 #[])
  · intro sig hs
    rw [hs] at h4
    exact (Option.some.inj h4).symm
theorem hm_runSN {host : String} (S : CallFix p m c cc nL s args [] own) (hK : hmK E s) (hI : hmI E σ H) (hM : Met l y [Cond.code y bytes maxL ret] { frames := fr, cells := mc, slots := ms, locals := lo } (hmPc E As σ) Qc mc ms free) (h : hmMn own idx y host bytes maxL ret n s) (hst : ∀ A, (Cond.static y).before A s = true) (hR : fr + 1 ≤ R.frames ∧ 8 + (maxL + 11) + lo ≤ R.locals) (hn : As.length = n) (hsize : ls.size = nL) (hW : (rest.map fun v => v.category).sum ≤ 8) (hf : cells + mc ≤ R.cells ∧ slots + ms ≤ R.slots) (hdg : decode cc pc = .ok (.invokestatic idx, 3)) :
    va_Run p l e R s m args below meth c H locs cells slots mc ms (F0 m pc ls (As.reverse ++ rest)) rest (Qc As.toArray) free :=
  va_runSN (g := F0 m pc ls (As.reverse ++ rest)) S hM ⟨hm_callN hK h hR, hst _, trivial⟩ (hm_preS hK hI) rfl hn hsize rfl (by show 2 * 0 + _ ≤ 8; omega) hdg hf
theorem hm_runIN {host : String} (S : CallFix p m c cc nL s args [] own) (hK : hmK E s) (hI : hmI E σ H) {b : Nat} (hM : Met l y [Cond.code y bytes maxL none] { frames := fr, cells := mc, slots := ms, locals := lo } (hmPc E (.ref b :: As) σ) Qc mc ms free) (h : hmMn own idx y host bytes maxL none n s) (hy : y.name = "<init>") (hin : ∀ A, (Cond.instanceMethod y).before A s = true) (hR : fr + 1 ≤ R.frames ∧ 8 + (maxL + 11) + lo ≤ R.locals) (hn : As.length = n) (hsize : ls.size = nL) (hW : (rest.map fun v => v.category).sum ≤ 8) (hf : cells + mc ≤ R.cells ∧ slots + ms ≤ R.slots) (hdg : decode cc pc = .ok (.invokespecial idx, 3)) :
    va_Run p l e R s m args below meth c H locs cells slots mc ms (F0 m pc ls (As.reverse ++ .ref b :: rest)) rest (Qc (Value.ref b :: As).toArray) free :=
  va_runIN (g := F0 m pc ls (As.reverse ++ .ref b :: rest)) S hM ⟨hm_callN hK h hR, hy, hin _⟩ (hm_preS hK hI) rfl hn hsize rfl (by show 2 * 0 + _ ≤ 8; omega) hdg hf
end HMR3
end
section
theorem in_J0 : ∀ w ∈ u_ws RJ0 TJ0 4, w ∈ lw_tbl ∧ goodWord w = true := by decide +kernel
theorem in_J4 : ∀ w ∈ u_ws RJ4 TJ4 4, w ∈ lw_tbl ∧ goodWord w = true := by decide +kernel
theorem in_X0 : ∀ w ∈ u_ws RX0 TX0 3, w ∈ lw_tbl ∧ goodWord w = true := by decide +kernel
theorem in_X1 : ∀ w ∈ u_ws RX1 TX1 4, w ∈ lw_tbl ∧ goodWord w = true := by decide +kernel
theorem in_X2 : ∀ w ∈ u_ws RX2 TX2 3, w ∈ lw_tbl ∧ goodWord w = true := by decide +kernel
theorem in_X3 : ∀ w ∈ u_ws RX3 TX3 4, w ∈ lw_tbl ∧ goodWord w = true := by decide +kernel
theorem in_X4 : ∀ w ∈ u_ws RX4 TX4 4, w ∈ lw_tbl ∧ goodWord w = true := by decide +kernel
theorem in_X5 : ∀ w ∈ u_ws RX5 TX5 2, w ∈ lw_tbl ∧ goodWord w = true := by decide +kernel
theorem in_X6 : ∀ w ∈ u_ws RX6 TX6 11, w ∈ lw_tbl ∧ goodWord w = true := by decide +kernel
theorem in_X7 : ∀ w ∈ u_ws RX7 TX7 8, w ∈ lw_tbl ∧ goodWord w = true := by decide +kernel
theorem in_X8 : ∀ w ∈ u_ws RX8 TX8 33, w ∈ lw_tbl ∧ goodWord w = true := by decide +kernel
theorem pf_X1_23_3 {E : hmG} {s : State} (hK : hmK E s) : hmFd RX1 23 3 3 .int false true s := hm_fd hK RX1 TX1 4 rfl (by decide) 124 (by decide +kernel) (by decide +kernel) rfl (fun h => rfl) in_X1
theorem pf_X1_9_3 {E : hmG} {s : State} (hK : hmK E s) : hmFd RX1 9 3 0 (.array .int) true true s := hm_fd hK RX1 TX1 4 rfl (by decide) 120 (by decide +kernel) (by decide +kernel) rfl (fun h => rfl) in_X1
theorem pf_X4_15_6 {E : hmG} {s : State} (hK : hmK E s) : hmFd RX4 15 6 1 (.array .long) true true s := hm_fd hK RX4 TX4 4 rfl (by decide) 145 (by decide +kernel) (by decide +kernel) rfl (fun h => rfl) in_X4
theorem pf_X4_19_6 {E : hmG} {s : State} (hK : hmK E s) : hmFd RX4 19 6 2 (.array .boolean) true true s := hm_fd hK RX4 TX4 4 rfl (by decide) 146 (by decide +kernel) (by decide +kernel) rfl (fun h => rfl) in_X4
theorem pf_X4_23_6 {E : hmG} {s : State} (hK : hmK E s) : hmFd RX4 23 6 3 .int false true s := hm_fd hK RX4 TX4 4 rfl (by decide) 147 (by decide +kernel) (by decide +kernel) rfl (fun h => rfl) in_X4
theorem pf_X5_13_7 {E : hmG} {s : State} (hK : hmK E s) : hmFd RX5 13 7 1 (.array (.object "InnerCaptures$Level")) true true s := hm_fd hK RX5 TX5 2 rfl (by decide) 627 (by decide +kernel) (by decide +kernel) rfl (fun h => rfl) in_X5
theorem pf_X5_17_5 {E : hmG} {s : State} (hK : hmK E s) : hmFd RX5 17 5 0 (.object "InnerCaptures$Type") true false s := hm_fd hK RX3 TX3 4 rfl (by decide) 604 (by decide +kernel) (by decide +kernel) rfl (fun h => by cases h) in_X3
theorem pf_X5_26_5 {E : hmG} {s : State} (hK : hmK E s) : hmFd RX5 26 5 1 (.object "InnerCaptures$Thing") true false s := hm_fd hK RX3 TX3 4 rfl (by decide) 606 (by decide +kernel) (by decide +kernel) rfl (fun h => by cases h) in_X3
theorem pf_X7_11_9 {E : hmG} {s : State} (hK : hmK E s) : hmFd RX7 11 9 0 (.array (.object "InnerCaptures$Type")) true true s := hm_fd hK RX7 TX7 8 rfl (by decide) 54 (by decide +kernel) (by decide +kernel) rfl (fun h => rfl) in_X7
theorem pf_X7_15_9 {E : hmG} {s : State} (hK : hmK E s) : hmFd RX7 15 9 1 .int false true s := hm_fd hK RX7 TX7 8 rfl (by decide) 55 (by decide +kernel) (by decide +kernel) rfl (fun h => rfl) in_X7
theorem pi_X4_has {E : hmG} {s : State} (hK : hmK E s) : ∀ A, (Cond.instanceMethod yX4_has).before A s = true := hm_wd hK 495 (by decide +kernel) rfl
theorem pi_X5_levelOf {E : hmG} {s : State} (hK : hmK E s) : ∀ A, (Cond.instanceMethod yX5_levelOf).before A s = true := hm_wd hK 554 (by decide +kernel) rfl
theorem pl_X4_X4_has {E : hmG} {s : State} (hK : hmK E s) : ∀ A, (Cond.selects RX4 yX4_has yX4_has).before A s = true := hm_wd hK 496 (by decide +kernel) rfl
theorem pl_X5_X5_levelOf {E : hmG} {s : State} (hK : hmK E s) : ∀ A, (Cond.selects RX5 yX5_levelOf yX5_levelOf).before A s = true := hm_wd hK 555 (by decide +kernel) rfl
theorem pm_X4_27 {E : hmG} {s : State} (hK : hmK E s) : hmMs RX4 27 yX4_has cX4_has 2 (some .boolean) 1 s := hm_ms hK 497 6 502 (by decide +kernel) (by decide +kernel) (by decide +kernel) (by decide) (by decide +kernel)
theorem pm_X5_22 {E : hmG} {s : State} (hK : hmK E s) : hmMs RX5 22 yX5_levelOf cX5_levelOf 3 (some (.object "InnerCaptures$Level")) 1 s := hm_ms hK 556 19 572 (by decide +kernel) (by decide +kernel) (by decide +kernel) (by decide) (by decide +kernel)
end
section
def fX7_typeAt_J21 (x0 : Nat) (x1 : Int32)   (σ : hmS) : Option (Option Nat × hmS) :=
  some (none, σ)
def fX7_typeAt (x0 : Nat) (x1 : Int32) (σ : hmS) : Option (Option Nat × hmS) :=
  if x1 < 0 then
    fX7_typeAt_J21 x0 x1 σ
  else
    ob (gI σ x0 9 1) fun f2 => if f2 ≤ x1 then
      fX7_typeAt_J21 x0 x1 σ
    else
      ob (gR σ x0 9 0) fun f5 => ob f5 fun a7 => ob (aR σ a7 x1) fun e8 => some (e8, σ)
set_option maxHeartbeats 4000000 in
set_option maxRecDepth 100000 in
theorem mX7_typeAt (l : Launch) (E : hmG) {x0 : Nat} {x1 : Int32} {σ σ' : hmS} {r : Option Nat} (h : fX7_typeAt x0 x1 σ = some (r, σ')) : Met l yX7_typeAt [Cond.code yX7_typeAt cX7_typeAt 2 (some (.object "InnerCaptures$Type"))] { frames := 0, cells := 0, slots := 0, locals := 0 } (hmPc E [.ref x0, .int x1] σ) (hmQc E (some (va_rf r)) σ') 0 0 (fun q => hmL E ≤ q) := by
  refine Met.ofW (cc := cX7_typeAt) (maxL := 2) (ret := (some (.object "InnerCaptures$Type"))) (by decide) rfl ?_
  intro p e s m args below meth c s₁ B hml hv
  obtain ⟨rfl, hK, hI⟩ := hv
  have S : CallFix p m c cX7_typeAt 2 s ([.ref x0, .int x1] : List Value).toArray [] RX7 := ⟨B.exec, B.bytes, hml, findClass_of_methodNamed B.named, fun w hw => by cases hw⟩
  have hx := S.1
  have hb := S.2.1
  have hr := B.returns
  have hlocks := B.notSynchronized
  have hL : hmLo E [] := hmLo.nil
  have hl : lv_has ((lg_sl ([.ref x0, .int x1]) ++ List.replicate (2 - (lg_sl ([.ref x0, .int x1])).length) Slot.unset).toArray) 2 [(0, .ref x0), (1, .int x1)] := by exact lv_entry _ (Nat.le_of_ble_eq_true rfl)
  rw [lg_entry_eq]
  generalize (lg_sl ([.ref x0, .int x1]) ++ List.replicate (2 - (lg_sl ([.ref x0, .int x1])).length) Slot.unset).toArray = ls at hl ⊢
  generalize hRe : (headSpec [Cond.code yX7_typeAt cX7_typeAt 2 (some (.object "InnerCaptures$Type"))] { frames := 0, cells := 0, slots := 0, locals := 0 }).room = R
  have hR1 : R.frames = 0 ∧ R.cells = 0 ∧ R.slots = 0 ∧ R.locals = 0 := by rw [← hRe]; exact ⟨rfl, rfl, rfl, rfl⟩
  clear hRe B hml
  generalize s.heap = H at hI ⊢
  generalize ([] : List Loc) = locs at hL ⊢
  have hJ21 : ∀  (σ : hmS) (H : Heap) (locs : List Loc) (ls : Array Slot), fX7_typeAt_J21 x0 x1   σ = some (r, σ') → hmI E σ H → hmLo E locs → lv_has ls 2 [] → W p l e R s m ([.ref x0, .int x1] : List Value).toArray below meth c H locs 0 0 (MQ below (hmQc E (some (va_rf r)) σ') ([.ref x0, .int x1] : List Value).toArray s 0 0 (fun q => hmL E ≤ q)) (F0 m 21 ls []) := by
    intro  σ H locs ls h hI hL hl
    unfold fX7_typeAt_J21 at h
    refine hm_null hx hb dX7_typeAt_21 ?_
    exact hm_aret hx hb hr (Or.inl ⟨_, rfl⟩) hI hL h (by omega) (by omega) hlocks dX7_typeAt_22
  unfold fX7_typeAt at h
  refine lv_iload_n hx hb dX7_typeAt_0 rfl (lv_at hl 1 rfl) ?_
  refine lv_if_lt (tgt := 21) hx hb dX7_typeAt_1 (by decide) (fun c1 => ?_) (fun c1 => ?_)
  · replace h := it_p c1 h
    exact hJ21 _ _ _ _ h hI hL (lv_sub hl [] rfl)
  · replace h := it_n c1 h
    refine lv_iload_n hx hb dX7_typeAt_4 rfl (lv_at hl 1 rfl) ?_
    refine lv_aload_n hx hb dX7_typeAt_5 rfl (lv_at hl 0 rfl) ?_
    obtain ⟨f2, h3, h⟩ := ob_s h
    refine hm_get S hK hI (pf_X7_15_9 hK) (gI_s h3) dX7_typeAt_6 ?_
    refine lv_icmp_ge (tgt := 21) hx hb dX7_typeAt_9 (by decide) (fun c4 => ?_) (fun c4 => ?_)
    · replace h := it_p c4 h
      exact hJ21 _ _ _ _ h hI hL (lv_sub hl [] rfl)
    · replace h := it_n c4 h
      refine lv_aload_n hx hb dX7_typeAt_12 rfl (lv_at hl 0 rfl) ?_
      obtain ⟨f5, h6, h⟩ := ob_s h
      refine hm_get S hK hI (pf_X7_11_9 hK) (gR_s h6) dX7_typeAt_13 ?_
      refine lv_iload_n hx hb dX7_typeAt_16 rfl (lv_at hl 1 rfl) ?_
      replace h := ob_s h
      obtain ⟨a7, rfl, h⟩ := h
      have hl : lv_has ls 2 [(0, .ref x0), (1, .int x1)] := hl
      obtain ⟨e8, h9, h⟩ := ob_s h
      refine hm_aald S hK hI h9 dX7_typeAt_17 ?_
      refine lv_goto (tgt := 22) hx hb dX7_typeAt_18 (by decide) ?_
      exact hm_aret hx hb hr (Or.inl ⟨_, rfl⟩) hI hL h (by omega) (by omega) hlocks dX7_typeAt_22

def fX7_isPlace_J14 (x0 : Int32)   (σ : hmS) : Option (Int32 × hmS) :=
  some ((0 : Int32), σ)
def fX7_isPlace (x0 : Int32) (σ : hmS) : Option (Int32 × hmS) :=
  if x0 < 0 then
    fX7_isPlace_J14 x0 σ
  else
    if (8 : Int32) ≤ x0 then
      fX7_isPlace_J14 x0 σ
    else
      some ((1 : Int32), σ)
set_option maxHeartbeats 4000000 in
set_option maxRecDepth 100000 in
theorem mX7_isPlace (l : Launch) (E : hmG) {x0 : Int32} {σ σ' : hmS} {r : Int32} (h : fX7_isPlace x0 σ = some (r, σ')) : Met l yX7_isPlace [Cond.code yX7_isPlace cX7_isPlace 1 (some .boolean)] { frames := 0, cells := 0, slots := 0, locals := 0 } (hmPc E [.int x0] σ) (hmQc E (some (.int r)) σ') 0 0 (fun q => hmL E ≤ q) := by
  refine Met.ofW (cc := cX7_isPlace) (maxL := 1) (ret := (some .boolean)) (by decide) rfl ?_
  intro p e s m args below meth c s₁ B hml hv
  obtain ⟨rfl, hK, hI⟩ := hv
  have S : CallFix p m c cX7_isPlace 1 s ([.int x0] : List Value).toArray [] RX7 := ⟨B.exec, B.bytes, hml, findClass_of_methodNamed B.named, fun w hw => by cases hw⟩
  have hx := S.1
  have hb := S.2.1
  have hr := B.returns
  have hlocks := B.notSynchronized
  have hL : hmLo E [] := hmLo.nil
  have hl : lv_has ((lg_sl ([.int x0]) ++ List.replicate (1 - (lg_sl ([.int x0])).length) Slot.unset).toArray) 1 [(0, .int x0)] := by exact lv_entry _ (Nat.le_of_ble_eq_true rfl)
  rw [lg_entry_eq]
  generalize (lg_sl ([.int x0]) ++ List.replicate (1 - (lg_sl ([.int x0])).length) Slot.unset).toArray = ls at hl ⊢
  generalize hRe : (headSpec [Cond.code yX7_isPlace cX7_isPlace 1 (some .boolean)] { frames := 0, cells := 0, slots := 0, locals := 0 }).room = R
  have hR1 : R.frames = 0 ∧ R.cells = 0 ∧ R.slots = 0 ∧ R.locals = 0 := by rw [← hRe]; exact ⟨rfl, rfl, rfl, rfl⟩
  clear hRe B hml
  generalize s.heap = H at hI ⊢
  generalize ([] : List Loc) = locs at hL ⊢
  have hJ14 : ∀  (σ : hmS) (H : Heap) (locs : List Loc) (ls : Array Slot), fX7_isPlace_J14 x0   σ = some (r, σ') → hmI E σ H → hmLo E locs → lv_has ls 1 [] → W p l e R s m ([.int x0] : List Value).toArray below meth c H locs 0 0 (MQ below (hmQc E (some (.int r)) σ') ([.int x0] : List Value).toArray s 0 0 (fun q => hmL E ≤ q)) (F0 m 14 ls []) := by
    intro  σ H locs ls h hI hL hl
    unfold fX7_isPlace_J14 at h
    refine lv_iconst (v := 0) hx hb dX7_isPlace_14 (by decide) ?_
    exact hm_zret hx hb hr rfl hI hL h (by omega) (by omega) hlocks dX7_isPlace_15
  unfold fX7_isPlace at h
  refine lv_iload_n hx hb dX7_isPlace_0 rfl (lv_at hl 0 rfl) ?_
  refine lv_if_lt (tgt := 14) hx hb dX7_isPlace_1 (by decide) (fun c1 => ?_) (fun c1 => ?_)
  · replace h := it_p c1 h
    exact hJ14 _ _ _ _ h hI hL (lv_sub hl [] rfl)
  · replace h := it_n c1 h
    refine lv_iload_n hx hb dX7_isPlace_4 rfl (lv_at hl 0 rfl) ?_
    refine lv_bipush (v := 8) hx hb dX7_isPlace_5 (by decide) ?_
    refine lv_icmp_ge (tgt := 14) hx hb dX7_isPlace_7 (by decide) (fun c2 => ?_) (fun c2 => ?_)
    · replace h := it_p c2 h
      exact hJ14 _ _ _ _ h hI hL (lv_sub hl [] rfl)
    · replace h := it_n c2 h
      refine lv_iconst (v := 1) hx hb dX7_isPlace_10 (by decide) ?_
      refine lv_goto (tgt := 15) hx hb dX7_isPlace_11 (by decide) ?_
      exact hm_zret hx hb hr rfl hI hL h (by omega) (by omega) hlocks dX7_isPlace_15

def fX7_isName_J14 (x0 : Int32)   (σ : hmS) : Option (Int32 × hmS) :=
  some ((0 : Int32), σ)
def fX7_isName (x0 : Int32) (σ : hmS) : Option (Int32 × hmS) :=
  if x0 < 0 then
    fX7_isName_J14 x0 σ
  else
    if (8 : Int32) ≤ x0 then
      fX7_isName_J14 x0 σ
    else
      some ((1 : Int32), σ)
set_option maxHeartbeats 4000000 in
set_option maxRecDepth 100000 in
theorem mX7_isName (l : Launch) (E : hmG) {x0 : Int32} {σ σ' : hmS} {r : Int32} (h : fX7_isName x0 σ = some (r, σ')) : Met l yX7_isName [Cond.code yX7_isName cX7_isName 1 (some .boolean)] { frames := 0, cells := 0, slots := 0, locals := 0 } (hmPc E [.int x0] σ) (hmQc E (some (.int r)) σ') 0 0 (fun q => hmL E ≤ q) := by
  refine Met.ofW (cc := cX7_isName) (maxL := 1) (ret := (some .boolean)) (by decide) rfl ?_
  intro p e s m args below meth c s₁ B hml hv
  obtain ⟨rfl, hK, hI⟩ := hv
  have S : CallFix p m c cX7_isName 1 s ([.int x0] : List Value).toArray [] RX7 := ⟨B.exec, B.bytes, hml, findClass_of_methodNamed B.named, fun w hw => by cases hw⟩
  have hx := S.1
  have hb := S.2.1
  have hr := B.returns
  have hlocks := B.notSynchronized
  have hL : hmLo E [] := hmLo.nil
  have hl : lv_has ((lg_sl ([.int x0]) ++ List.replicate (1 - (lg_sl ([.int x0])).length) Slot.unset).toArray) 1 [(0, .int x0)] := by exact lv_entry _ (Nat.le_of_ble_eq_true rfl)
  rw [lg_entry_eq]
  generalize (lg_sl ([.int x0]) ++ List.replicate (1 - (lg_sl ([.int x0])).length) Slot.unset).toArray = ls at hl ⊢
  generalize hRe : (headSpec [Cond.code yX7_isName cX7_isName 1 (some .boolean)] { frames := 0, cells := 0, slots := 0, locals := 0 }).room = R
  have hR1 : R.frames = 0 ∧ R.cells = 0 ∧ R.slots = 0 ∧ R.locals = 0 := by rw [← hRe]; exact ⟨rfl, rfl, rfl, rfl⟩
  clear hRe B hml
  generalize s.heap = H at hI ⊢
  generalize ([] : List Loc) = locs at hL ⊢
  have hJ14 : ∀  (σ : hmS) (H : Heap) (locs : List Loc) (ls : Array Slot), fX7_isName_J14 x0   σ = some (r, σ') → hmI E σ H → hmLo E locs → lv_has ls 1 [] → W p l e R s m ([.int x0] : List Value).toArray below meth c H locs 0 0 (MQ below (hmQc E (some (.int r)) σ') ([.int x0] : List Value).toArray s 0 0 (fun q => hmL E ≤ q)) (F0 m 14 ls []) := by
    intro  σ H locs ls h hI hL hl
    unfold fX7_isName_J14 at h
    refine lv_iconst (v := 0) hx hb dX7_isName_14 (by decide) ?_
    exact hm_zret hx hb hr rfl hI hL h (by omega) (by omega) hlocks dX7_isName_15
  unfold fX7_isName at h
  refine lv_iload_n hx hb dX7_isName_0 rfl (lv_at hl 0 rfl) ?_
  refine lv_if_lt (tgt := 14) hx hb dX7_isName_1 (by decide) (fun c1 => ?_) (fun c1 => ?_)
  · replace h := it_p c1 h
    exact hJ14 _ _ _ _ h hI hL (lv_sub hl [] rfl)
  · replace h := it_n c1 h
    refine lv_iload_n hx hb dX7_isName_4 rfl (lv_at hl 0 rfl) ?_
    refine lv_bipush (v := 8) hx hb dX7_isName_5 (by decide) ?_
    refine lv_icmp_ge (tgt := 14) hx hb dX7_isName_7 (by decide) (fun c2 => ?_) (fun c2 => ?_)
    · replace h := it_p c2 h
      exact hJ14 _ _ _ _ h hI hL (lv_sub hl [] rfl)
    · replace h := it_n c2 h
      refine lv_iconst (v := 1) hx hb dX7_isName_10 (by decide) ?_
      refine lv_goto (tgt := 15) hx hb dX7_isName_11 (by decide) ?_
      exact hm_zret hx hb hr rfl hI hL h (by omega) (by omega) hlocks dX7_isName_15

def fX1_indexOf_B2 (x0 : Nat) (x1 : Int32)  (K2 : Int32 → hmS → Option (Int32 × hmS)) (v2 : Int32) (σ : hmS) : Option (Int32 × hmS) :=
  ob (gI σ x0 3 3) fun f1 => if f1 ≤ v2 then
    some ((-1 : Int32), σ)
  else
    ob (gR σ x0 3 0) fun f4 => ob f4 fun a6 => ob (aI σ 0 a6 v2) fun e7 => if e7 = x1 then
      some (v2, σ)
    else
      K2 (v2 + (1 : Int32)) σ
def fX1_indexOf_L2 (x0 : Nat) (x1 : Int32)  : Nat → Int32 → hmS → Option (Int32 × hmS)
  | 0 => fun _ _ => none
  | n + 1 => fX1_indexOf_B2 x0 x1  (fX1_indexOf_L2 x0 x1  n)
def fX1_indexOf (x0 : Nat) (x1 : Int32) (σ : hmS) : Option (Int32 × hmS) :=
  fX1_indexOf_L2 x0 x1 20 (0 : Int32) σ
set_option maxHeartbeats 4000000 in
set_option maxRecDepth 100000 in
theorem mX1_indexOf (l : Launch) (E : hmG) {x0 : Nat} {x1 : Int32} {σ σ' : hmS} {r : Int32} (h : fX1_indexOf x0 x1 σ = some (r, σ')) : Met l yX1_indexOf [Cond.code yX1_indexOf cX1_indexOf 3 (some .int)] { frames := 0, cells := 0, slots := 0, locals := 0 } (hmPc E [.ref x0, .int x1] σ) (hmQc E (some (.int r)) σ') 0 0 (fun q => hmL E ≤ q) := by
  refine Met.ofW (cc := cX1_indexOf) (maxL := 3) (ret := (some .int)) (by decide) rfl ?_
  intro p e s m args below meth c s₁ B hml hv
  obtain ⟨rfl, hK, hI⟩ := hv
  have S : CallFix p m c cX1_indexOf 3 s ([.ref x0, .int x1] : List Value).toArray [] RX1 := ⟨B.exec, B.bytes, hml, findClass_of_methodNamed B.named, fun w hw => by cases hw⟩
  have hx := S.1
  have hb := S.2.1
  have hr := B.returns
  have hlocks := B.notSynchronized
  have hL : hmLo E [] := hmLo.nil
  have hl : lv_has ((lg_sl ([.ref x0, .int x1]) ++ List.replicate (3 - (lg_sl ([.ref x0, .int x1])).length) Slot.unset).toArray) 3 [(0, .ref x0), (1, .int x1)] := by exact lv_entry _ (Nat.le_of_ble_eq_true rfl)
  rw [lg_entry_eq]
  generalize (lg_sl ([.ref x0, .int x1]) ++ List.replicate (3 - (lg_sl ([.ref x0, .int x1])).length) Slot.unset).toArray = ls at hl ⊢
  generalize hRe : (headSpec [Cond.code yX1_indexOf cX1_indexOf 3 (some .int)] { frames := 0, cells := 0, slots := 0, locals := 0 }).room = R
  have hR1 : R.frames = 0 ∧ R.cells = 0 ∧ R.slots = 0 ∧ R.locals = 0 := by rw [← hRe]; exact ⟨rfl, rfl, rfl, rfl⟩
  clear hRe B hml
  generalize s.heap = H at hI ⊢
  generalize ([] : List Loc) = locs at hL ⊢
  have hB2 : ∀ (K2 : Int32 → hmS → Option (Int32 × hmS)), (∀ (v2 : Int32) (σ : hmS) (H : Heap) (locs : List Loc) (ls : Array Slot), K2 v2 σ = some (r, σ') → hmI E σ H → hmLo E locs → lv_has ls 3 [(0, .ref x0), (1, .int x1), (2, .int v2)] → W p l e R s m ([.ref x0, .int x1] : List Value).toArray below meth c H locs 0 0 (MQ below (hmQc E (some (.int r)) σ') ([.ref x0, .int x1] : List Value).toArray s 0 0 (fun q => hmL E ≤ q)) (F0 m 2 ls [])) → ∀ (v2 : Int32) (σ : hmS) (H : Heap) (locs : List Loc) (ls : Array Slot), fX1_indexOf_B2 x0 x1  K2 v2 σ = some (r, σ') → hmI E σ H → hmLo E locs → lv_has ls 3 [(0, .ref x0), (1, .int x1), (2, .int v2)] → W p l e R s m ([.ref x0, .int x1] : List Value).toArray below meth c H locs 0 0 (MQ below (hmQc E (some (.int r)) σ') ([.ref x0, .int x1] : List Value).toArray s 0 0 (fun q => hmL E ≤ q)) (F0 m 2 ls []) := by
    intro K2 hk2
    intro v2 σ H locs ls h hI hL hl
    unfold fX1_indexOf_B2 at h
    refine lv_iload_n hx hb dX1_indexOf_2 rfl (lv_at hl 2 rfl) ?_
    refine lv_aload_n hx hb dX1_indexOf_3 rfl (lv_at hl 0 rfl) ?_
    obtain ⟨f1, h2, h⟩ := ob_s h
    refine hm_get S hK hI (pf_X1_23_3 hK) (gI_s h2) dX1_indexOf_4 ?_
    refine lv_icmp_ge (tgt := 28) hx hb dX1_indexOf_7 (by decide) (fun c3 => ?_) (fun c3 => ?_)
    · replace h := it_p c3 h
      refine lv_iconst (v := -1) hx hb dX1_indexOf_28 (by decide) ?_
      exact hm_iret hx hb hr hI hL h (by omega) (by omega) hlocks dX1_indexOf_29
    · replace h := it_n c3 h
      refine lv_aload_n hx hb dX1_indexOf_10 rfl (lv_at hl 0 rfl) ?_
      obtain ⟨f4, h5, h⟩ := ob_s h
      refine hm_get S hK hI (pf_X1_9_3 hK) (gR_s h5) dX1_indexOf_11 ?_
      refine lv_iload_n hx hb dX1_indexOf_14 rfl (lv_at hl 2 rfl) ?_
      replace h := ob_s h
      obtain ⟨a6, rfl, h⟩ := h
      have hl : lv_has ls 3 [(0, .ref x0), (1, .int x1), (2, .int v2)] := hl
      obtain ⟨e7, h8, h⟩ := ob_s h
      refine hm_iald S hK hI h8 dX1_indexOf_15 ?_
      refine lv_iload_n hx hb dX1_indexOf_16 rfl (lv_at hl 1 rfl) ?_
      refine lv_icmp_ne (tgt := 22) hx hb dX1_indexOf_17 (by decide) (fun c9 => ?_) (fun c9 => ?_)
      · replace h := it_n c9 h
        refine lv_iinc (v := (v2 + (1 : Int32))) (lv' := [(2, .int (v2 + (1 : Int32))), (0, .ref x0), (1, .int x1)]) hx hb dX1_indexOf_22 hl (k := 2) rfl rfl (by decide) rfl (fun ls hl => ?_)
        refine lv_goto (tgt := 2) hx hb dX1_indexOf_25 (by decide) ?_
        exact hk2 _ _ _ _ _ h hI hL (lv_sub hl [1, 2, 0] rfl)
      · replace h := it_p c9 h
        refine lv_iload_n hx hb dX1_indexOf_20 rfl (lv_at hl 2 rfl) ?_
        exact hm_iret hx hb hr hI hL h (by omega) (by omega) hlocks dX1_indexOf_21
  have hL2 : ∀ n : Nat, ∀ (v2 : Int32) (σ : hmS) (H : Heap) (locs : List Loc) (ls : Array Slot), fX1_indexOf_L2 x0 x1  n v2 σ = some (r, σ') → hmI E σ H → hmLo E locs → lv_has ls 3 [(0, .ref x0), (1, .int x1), (2, .int v2)] → W p l e R s m ([.ref x0, .int x1] : List Value).toArray below meth c H locs 0 0 (MQ below (hmQc E (some (.int r)) σ') ([.ref x0, .int x1] : List Value).toArray s 0 0 (fun q => hmL E ≤ q)) (F0 m 2 ls []) := by
    intro n
    induction n with
    | zero =>
      intro v2 σ H locs ls h
      have h : none = some (r, σ') := h
      cases h
    | succ n ih => exact hB2 _ ih
  unfold fX1_indexOf at h
  refine lv_iconst (v := 0) hx hb dX1_indexOf_0 (by decide) ?_
  refine lv_istore_n (lv' := [(2, .int (0 : Int32)), (0, .ref x0), (1, .int x1)]) hx hb dX1_indexOf_1 rfl hl (by decide) rfl (fun ls hl => ?_)
  exact hL2 20 _ _ _ _ _ h hI hL (lv_sub hl [1, 2, 0] rfl)

def fX5_levelOf_J40 (x0 : Nat) (x1 : Option Nat) (K2 : Int32 → hmS → Option (Option Nat × hmS)) (v2 : Int32) (σ : hmS) : Option (Option Nat × hmS) :=
  K2 (v2 + (1 : Int32)) σ
def fX5_levelOf_B2 (x0 : Nat) (x1 : Option Nat)  (K2 : Int32 → hmS → Option (Option Nat × hmS)) (v2 : Int32) (σ : hmS) : Option (Option Nat × hmS) :=
  ob (gR σ x0 7 1) fun f1 => ob f1 fun a3 => ob (aN σ a3) fun n4 => if n4 ≤ v2 then
    some (none, σ)
  else
    ob (gR σ x0 7 1) fun f7 => ob f7 fun a9 => ob (aR σ a9 v2) fun e10 => oc e10
      (fX5_levelOf_J40 x0 x1 K2 v2 σ)
      (fun a12 => ob (gR σ x0 7 1) fun f13 => ob f13 fun a15 => ob (aR σ a15 v2) fun e16 => ob e16 fun a18 => ob (gR σ a18 5 0) fun f19 => if f19 = x1 then
        ob (gR σ x0 7 1) fun f22 => ob f22 fun a24 => ob (aR σ a24 v2) fun e25 => some (e25, σ)
      else
        fX5_levelOf_J40 x0 x1 K2 v2 σ)
def fX5_levelOf_L2 (x0 : Nat) (x1 : Option Nat)  : Nat → Int32 → hmS → Option (Option Nat × hmS)
  | 0 => fun _ _ => none
  | n + 1 => fX5_levelOf_B2 x0 x1  (fX5_levelOf_L2 x0 x1  n)
def fX5_levelOf (x0 : Nat) (x1 : Option Nat) (σ : hmS) : Option (Option Nat × hmS) :=
  fX5_levelOf_L2 x0 x1 20 (0 : Int32) σ
set_option maxHeartbeats 4000000 in
set_option maxRecDepth 100000 in
theorem mX5_levelOf (l : Launch) (E : hmG) {x0 : Nat} {x1 : Option Nat} {σ σ' : hmS} {r : Option Nat} (h : fX5_levelOf x0 x1 σ = some (r, σ')) : Met l yX5_levelOf [Cond.code yX5_levelOf cX5_levelOf 3 (some (.object "InnerCaptures$Level"))] { frames := 0, cells := 0, slots := 0, locals := 0 } (hmPc E [.ref x0, va_rf x1] σ) (hmQc E (some (va_rf r)) σ') 0 0 (fun q => hmL E ≤ q) := by
  refine Met.ofW (cc := cX5_levelOf) (maxL := 3) (ret := (some (.object "InnerCaptures$Level"))) (by decide) rfl ?_
  intro p e s m args below meth c s₁ B hml hv
  obtain ⟨rfl, hK, hI⟩ := hv
  have S : CallFix p m c cX5_levelOf 3 s ([.ref x0, va_rf x1] : List Value).toArray [] RX5 := ⟨B.exec, B.bytes, hml, findClass_of_methodNamed B.named, fun w hw => by cases hw⟩
  have hx := S.1
  have hb := S.2.1
  have hr := B.returns
  have hlocks := B.notSynchronized
  have hL : hmLo E [] := hmLo.nil
  have hl : lv_has ((lg_sl ([.ref x0, va_rf x1]) ++ List.replicate (3 - (lg_sl ([.ref x0, va_rf x1])).length) Slot.unset).toArray) 3 [(0, .ref x0), (1, va_rf x1)] := by cases x1 <;> exact lv_entry _ (Nat.le_of_ble_eq_true rfl)
  rw [lg_entry_eq]
  generalize (lg_sl ([.ref x0, va_rf x1]) ++ List.replicate (3 - (lg_sl ([.ref x0, va_rf x1])).length) Slot.unset).toArray = ls at hl ⊢
  generalize hRe : (headSpec [Cond.code yX5_levelOf cX5_levelOf 3 (some (.object "InnerCaptures$Level"))] { frames := 0, cells := 0, slots := 0, locals := 0 }).room = R
  have hR1 : R.frames = 0 ∧ R.cells = 0 ∧ R.slots = 0 ∧ R.locals = 0 := by rw [← hRe]; exact ⟨rfl, rfl, rfl, rfl⟩
  clear hRe B hml
  generalize s.heap = H at hI ⊢
  generalize ([] : List Loc) = locs at hL ⊢
  have hB2 : ∀ (K2 : Int32 → hmS → Option (Option Nat × hmS)), (∀ (v2 : Int32) (σ : hmS) (H : Heap) (locs : List Loc) (ls : Array Slot), K2 v2 σ = some (r, σ') → hmI E σ H → hmLo E locs → lv_has ls 3 [(0, .ref x0), (1, va_rf x1), (2, .int v2)] → W p l e R s m ([.ref x0, va_rf x1] : List Value).toArray below meth c H locs 0 0 (MQ below (hmQc E (some (va_rf r)) σ') ([.ref x0, va_rf x1] : List Value).toArray s 0 0 (fun q => hmL E ≤ q)) (F0 m 2 ls [])) → ∀ (v2 : Int32) (σ : hmS) (H : Heap) (locs : List Loc) (ls : Array Slot), fX5_levelOf_B2 x0 x1  K2 v2 σ = some (r, σ') → hmI E σ H → hmLo E locs → lv_has ls 3 [(0, .ref x0), (1, va_rf x1), (2, .int v2)] → W p l e R s m ([.ref x0, va_rf x1] : List Value).toArray below meth c H locs 0 0 (MQ below (hmQc E (some (va_rf r)) σ') ([.ref x0, va_rf x1] : List Value).toArray s 0 0 (fun q => hmL E ≤ q)) (F0 m 2 ls []) := by
    intro K2 hk2
    have hJ40 : ∀ (v2 : Int32) (σ : hmS) (H : Heap) (locs : List Loc) (ls : Array Slot), fX5_levelOf_J40 x0 x1 K2 v2 σ = some (r, σ') → hmI E σ H → hmLo E locs → lv_has ls 3 [(0, .ref x0), (1, va_rf x1), (2, .int v2)] → W p l e R s m ([.ref x0, va_rf x1] : List Value).toArray below meth c H locs 0 0 (MQ below (hmQc E (some (va_rf r)) σ') ([.ref x0, va_rf x1] : List Value).toArray s 0 0 (fun q => hmL E ≤ q)) (F0 m 40 ls []) := by
      intro v2 σ H locs ls h hI hL hl
      unfold fX5_levelOf_J40 at h
      refine lv_iinc (v := (v2 + (1 : Int32))) (lv' := [(2, .int (v2 + (1 : Int32))), (0, .ref x0), (1, va_rf x1)]) hx hb dX5_levelOf_40 hl (k := 2) rfl rfl (by decide) (by cases x1 <;> rfl) (fun ls hl => ?_)
      refine lv_goto (tgt := 2) hx hb dX5_levelOf_43 (by decide) ?_
      exact hk2 _ _ _ _ _ h hI hL (lv_sub hl [1, 2, 0] rfl)
    intro v2 σ H locs ls h hI hL hl
    unfold fX5_levelOf_B2 at h
    refine lv_iload_n hx hb dX5_levelOf_2 rfl (lv_at hl 2 rfl) ?_
    refine lv_aload_n hx hb dX5_levelOf_3 rfl (lv_at hl 0 rfl) ?_
    obtain ⟨f1, h2, h⟩ := ob_s h
    refine hm_get S hK hI (pf_X5_13_7 hK) (gR_s h2) dX5_levelOf_4 ?_
    replace h := ob_s h
    obtain ⟨a3, rfl, h⟩ := h
    have hl : lv_has ls 3 [(0, .ref x0), (1, va_rf x1), (2, .int v2)] := hl
    obtain ⟨n4, h5, h⟩ := ob_s h
    refine hm_aN S hK hI h5 dX5_levelOf_7 ?_
    refine lv_icmp_ge (tgt := 46) hx hb dX5_levelOf_8 (by decide) (fun c6 => ?_) (fun c6 => ?_)
    · replace h := it_p c6 h
      refine hm_null hx hb dX5_levelOf_46 ?_
      exact hm_aret hx hb hr (Or.inl ⟨_, rfl⟩) hI hL h (by omega) (by omega) hlocks dX5_levelOf_47
    · replace h := it_n c6 h
      refine lv_aload_n hx hb dX5_levelOf_11 rfl (lv_at hl 0 rfl) ?_
      obtain ⟨f7, h8, h⟩ := ob_s h
      refine hm_get S hK hI (pf_X5_13_7 hK) (gR_s h8) dX5_levelOf_12 ?_
      refine lv_iload_n hx hb dX5_levelOf_15 rfl (lv_at hl 2 rfl) ?_
      replace h := ob_s h
      obtain ⟨a9, rfl, h⟩ := h
      have hl : lv_has ls 3 [(0, .ref x0), (1, va_rf x1), (2, .int v2)] := hl
      obtain ⟨e10, h11, h⟩ := ob_s h
      refine hm_aald S hK hI h11 dX5_levelOf_16 ?_
      cases e10 with
      | none =>
        replace h := oc_n h
        have hl : lv_has ls 3 [(0, .ref x0), (1, va_rf x1), (2, .int v2)] := hl
        refine lv_ifnullN (tgt := 40) hx hb dX5_levelOf_17 (by decide) ?_
        exact hJ40 _ _ _ _ _ h hI hL (lv_sub hl [0, 1, 2] rfl)
      | some a12 =>
        replace h := oc_s h
        have hl : lv_has ls 3 [(0, .ref x0), (1, va_rf x1), (2, .int v2)] := hl
        refine lv_ifnull hx hb dX5_levelOf_17 ?_
        refine lv_aload_n hx hb dX5_levelOf_20 rfl (lv_at hl 0 rfl) ?_
        obtain ⟨f13, h14, h⟩ := ob_s h
        refine hm_get S hK hI (pf_X5_13_7 hK) (gR_s h14) dX5_levelOf_21 ?_
        refine lv_iload_n hx hb dX5_levelOf_24 rfl (lv_at hl 2 rfl) ?_
        replace h := ob_s h
        obtain ⟨a15, rfl, h⟩ := h
        have hl : lv_has ls 3 [(0, .ref x0), (1, va_rf x1), (2, .int v2)] := hl
        obtain ⟨e16, h17, h⟩ := ob_s h
        refine hm_aald S hK hI h17 dX5_levelOf_25 ?_
        replace h := ob_s h
        obtain ⟨a18, rfl, h⟩ := h
        have hl : lv_has ls 3 [(0, .ref x0), (1, va_rf x1), (2, .int v2)] := hl
        obtain ⟨f19, h20, h⟩ := ob_s h
        refine hm_get S hK hI (pf_X5_17_5 hK) (gR_s h20) dX5_levelOf_26 ?_
        refine hm_aload_n hx hb dX5_levelOf_29 rfl (lv_at hl 1 rfl) ?_
        refine lv_acmp_ne (rx := f19) (ry := x1) (tgt := 40) hx hb dX5_levelOf_30 (by decide) (fun c21 => ?_) (fun c21 => ?_)
        · replace h := it_n c21 h
          exact hJ40 _ _ _ _ _ h hI hL (lv_sub hl [0, 1, 2] rfl)
        · replace h := it_p c21 h
          refine lv_aload_n hx hb dX5_levelOf_33 rfl (lv_at hl 0 rfl) ?_
          obtain ⟨f22, h23, h⟩ := ob_s h
          refine hm_get S hK hI (pf_X5_13_7 hK) (gR_s h23) dX5_levelOf_34 ?_
          refine lv_iload_n hx hb dX5_levelOf_37 rfl (lv_at hl 2 rfl) ?_
          replace h := ob_s h
          obtain ⟨a24, rfl, h⟩ := h
          have hl : lv_has ls 3 [(0, .ref x0), (1, va_rf x1), (2, .int v2)] := hl
          obtain ⟨e25, h26, h⟩ := ob_s h
          refine hm_aald S hK hI h26 dX5_levelOf_38 ?_
          exact hm_aret hx hb hr (Or.inl ⟨_, rfl⟩) hI hL h (by omega) (by omega) hlocks dX5_levelOf_39
  have hL2 : ∀ n : Nat, ∀ (v2 : Int32) (σ : hmS) (H : Heap) (locs : List Loc) (ls : Array Slot), fX5_levelOf_L2 x0 x1  n v2 σ = some (r, σ') → hmI E σ H → hmLo E locs → lv_has ls 3 [(0, .ref x0), (1, va_rf x1), (2, .int v2)] → W p l e R s m ([.ref x0, va_rf x1] : List Value).toArray below meth c H locs 0 0 (MQ below (hmQc E (some (va_rf r)) σ') ([.ref x0, va_rf x1] : List Value).toArray s 0 0 (fun q => hmL E ≤ q)) (F0 m 2 ls []) := by
    intro n
    induction n with
    | zero =>
      intro v2 σ H locs ls h
      have h : none = some (r, σ') := h
      cases h
    | succ n ih => exact hB2 _ ih
  unfold fX5_levelOf at h
  refine lv_iconst (v := 0) hx hb dX5_levelOf_0 (by decide) ?_
  refine lv_istore_n (lv' := [(2, .int (0 : Int32)), (0, .ref x0), (1, va_rf x1)]) hx hb dX5_levelOf_1 rfl hl (by decide) (by cases x1 <;> rfl) (fun ls hl => ?_)
  exact hL2 20 _ _ _ _ _ h hI hL (lv_sub hl [1, 2, 0] rfl)

def fX4_has_J16 (x0 : Nat) (x1 : Int32)   (σ : hmS) : Option (Int32 × hmS) :=
  some ((0 : Int32), σ)
def fX4_has (x0 : Nat) (x1 : Int32) (σ : hmS) : Option (Int32 × hmS) :=
  if x1 < 0 then
    fX4_has_J16 x0 x1 σ
  else
    ob (gI σ x0 6 3) fun f2 => if f2 ≤ x1 then
      fX4_has_J16 x0 x1 σ
    else
      some ((1 : Int32), σ)
set_option maxHeartbeats 4000000 in
set_option maxRecDepth 100000 in
theorem mX4_has (l : Launch) (E : hmG) {x0 : Nat} {x1 : Int32} {σ σ' : hmS} {r : Int32} (h : fX4_has x0 x1 σ = some (r, σ')) : Met l yX4_has [Cond.code yX4_has cX4_has 2 (some .boolean)] { frames := 0, cells := 0, slots := 0, locals := 0 } (hmPc E [.ref x0, .int x1] σ) (hmQc E (some (.int r)) σ') 0 0 (fun q => hmL E ≤ q) := by
  refine Met.ofW (cc := cX4_has) (maxL := 2) (ret := (some .boolean)) (by decide) rfl ?_
  intro p e s m args below meth c s₁ B hml hv
  obtain ⟨rfl, hK, hI⟩ := hv
  have S : CallFix p m c cX4_has 2 s ([.ref x0, .int x1] : List Value).toArray [] RX4 := ⟨B.exec, B.bytes, hml, findClass_of_methodNamed B.named, fun w hw => by cases hw⟩
  have hx := S.1
  have hb := S.2.1
  have hr := B.returns
  have hlocks := B.notSynchronized
  have hL : hmLo E [] := hmLo.nil
  have hl : lv_has ((lg_sl ([.ref x0, .int x1]) ++ List.replicate (2 - (lg_sl ([.ref x0, .int x1])).length) Slot.unset).toArray) 2 [(0, .ref x0), (1, .int x1)] := by exact lv_entry _ (Nat.le_of_ble_eq_true rfl)
  rw [lg_entry_eq]
  generalize (lg_sl ([.ref x0, .int x1]) ++ List.replicate (2 - (lg_sl ([.ref x0, .int x1])).length) Slot.unset).toArray = ls at hl ⊢
  generalize hRe : (headSpec [Cond.code yX4_has cX4_has 2 (some .boolean)] { frames := 0, cells := 0, slots := 0, locals := 0 }).room = R
  have hR1 : R.frames = 0 ∧ R.cells = 0 ∧ R.slots = 0 ∧ R.locals = 0 := by rw [← hRe]; exact ⟨rfl, rfl, rfl, rfl⟩
  clear hRe B hml
  generalize s.heap = H at hI ⊢
  generalize ([] : List Loc) = locs at hL ⊢
  have hJ16 : ∀  (σ : hmS) (H : Heap) (locs : List Loc) (ls : Array Slot), fX4_has_J16 x0 x1   σ = some (r, σ') → hmI E σ H → hmLo E locs → lv_has ls 2 [] → W p l e R s m ([.ref x0, .int x1] : List Value).toArray below meth c H locs 0 0 (MQ below (hmQc E (some (.int r)) σ') ([.ref x0, .int x1] : List Value).toArray s 0 0 (fun q => hmL E ≤ q)) (F0 m 16 ls []) := by
    intro  σ H locs ls h hI hL hl
    unfold fX4_has_J16 at h
    refine lv_iconst (v := 0) hx hb dX4_has_16 (by decide) ?_
    exact hm_zret hx hb hr rfl hI hL h (by omega) (by omega) hlocks dX4_has_17
  unfold fX4_has at h
  refine lv_iload_n hx hb dX4_has_0 rfl (lv_at hl 1 rfl) ?_
  refine lv_if_lt (tgt := 16) hx hb dX4_has_1 (by decide) (fun c1 => ?_) (fun c1 => ?_)
  · replace h := it_p c1 h
    exact hJ16 _ _ _ _ h hI hL (lv_sub hl [] rfl)
  · replace h := it_n c1 h
    refine lv_iload_n hx hb dX4_has_4 rfl (lv_at hl 1 rfl) ?_
    refine lv_aload_n hx hb dX4_has_5 rfl (lv_at hl 0 rfl) ?_
    obtain ⟨f2, h3, h⟩ := ob_s h
    refine hm_get S hK hI (pf_X4_23_6 hK) (gI_s h3) dX4_has_6 ?_
    refine lv_icmp_ge (tgt := 16) hx hb dX4_has_9 (by decide) (fun c4 => ?_) (fun c4 => ?_)
    · replace h := it_p c4 h
      exact hJ16 _ _ _ _ h hI hL (lv_sub hl [] rfl)
    · replace h := it_n c4 h
      refine lv_iconst (v := 1) hx hb dX4_has_12 (by decide) ?_
      refine lv_goto (tgt := 17) hx hb dX4_has_13 (by decide) ?_
      exact hm_zret hx hb hr rfl hI hL h (by omega) (by omega) hlocks dX4_has_17

def fX4_set (x0 : Nat) (x1 : Int32) (x2 : Int64) (σ : hmS) : Option (Unit × hmS) :=
  ob (obC σ x0 6) fun _ => cb (fX4_has x0 x1 σ) fun r4 σ3 => if r4 = 0 then
    some ((), σ3)
  else
    ob (gR σ3 x0 6 1) fun f6 => ob f6 fun a8 => ob (sL σ3 a8 x1 x2) fun σ9 => ob (gR σ9 x0 6 2) fun f11 => ob f11 fun a13 => ob (sI σ9 2 a13 x1 (vp_nar .boolean (1 : Int32))) fun σ14 => some ((), σ14)
set_option maxHeartbeats 4000000 in
set_option maxRecDepth 100000 in
theorem mX4_set (l : Launch) (E : hmG) {x0 : Nat} {x1 : Int32} {x2 : Int64} {σ σ' : hmS} {r : Unit} (h : fX4_set x0 x1 x2 σ = some (r, σ')) : Met l yX4_set [Cond.code yX4_set cX4_set 4 none] { frames := 1, cells := 0, slots := 0, locals := 21 } (hmPc E [.ref x0, .int x1, .long x2] σ) (hmQc E none σ') 0 0 (fun q => hmL E ≤ q) := by
  refine Met.ofW (cc := cX4_set) (maxL := 4) (ret := none) (by decide) rfl ?_
  intro p e s m args below meth c s₁ B hml hv
  obtain ⟨rfl, hK, hI⟩ := hv
  have S : CallFix p m c cX4_set 4 s ([.ref x0, .int x1, .long x2] : List Value).toArray [] RX4 := ⟨B.exec, B.bytes, hml, findClass_of_methodNamed B.named, fun w hw => by cases hw⟩
  have hx := S.1
  have hb := S.2.1
  have hr := B.returns
  have hlocks := B.notSynchronized
  have hL : hmLo E [] := hmLo.nil
  have hl : lv_has ((lg_sl ([.ref x0, .int x1, .long x2]) ++ List.replicate (4 - (lg_sl ([.ref x0, .int x1, .long x2])).length) Slot.unset).toArray) 4 [(0, .ref x0), (1, .int x1), (2, .long x2)] := by exact lv_entry _ (Nat.le_of_ble_eq_true rfl)
  rw [lg_entry_eq]
  generalize (lg_sl ([.ref x0, .int x1, .long x2]) ++ List.replicate (4 - (lg_sl ([.ref x0, .int x1, .long x2])).length) Slot.unset).toArray = ls at hl ⊢
  generalize hRe : (headSpec [Cond.code yX4_set cX4_set 4 none] { frames := 1, cells := 0, slots := 0, locals := 21 }).room = R
  have hR1 : R.frames = 1 ∧ R.cells = 0 ∧ R.slots = 0 ∧ R.locals = 21 := by rw [← hRe]; exact ⟨rfl, rfl, rfl, rfl⟩
  clear hRe B hml
  generalize s.heap = H at hI ⊢
  generalize ([] : List Loc) = locs at hL ⊢
  unfold fX4_set at h
  refine lv_aload_n hx hb dX4_set_0 rfl (lv_at hl 0 rfl) ?_
  refine lv_iload_n hx hb dX4_set_1 rfl (lv_at hl 1 rfl) ?_
  obtain ⟨_, h2, h⟩ := ob_s h
  obtain ⟨r4, σ3, h1, h⟩ := cb_s h
  refine hm_call (hm_runV (As := [.int x1]) (rest := []) (ci := 6) S hK hI (obC_s h2) rfl (mX4_has l E h1) (pm_X4_27 hK) (pi_X4_has hK) (pl_X4_X4_has hK) ⟨by omega, by omega⟩ rfl hl.1 (by decide) ⟨by omega, by omega⟩ dX4_set_2) hL (fun H locs hI hL => ?_)
  refine lv_if_eq (tgt := 22) hx hb dX4_set_5 (by decide) (fun c5 => ?_) (fun c5 => ?_)
  · replace h := it_p c5 h
    exact hm_vret hx hb hr hI hL h (by omega) (by omega) hlocks dX4_set_22
  · replace h := it_n c5 h
    refine lv_aload_n hx hb dX4_set_8 rfl (lv_at hl 0 rfl) ?_
    obtain ⟨f6, h7, h⟩ := ob_s h
    refine hm_get S hK hI (pf_X4_15_6 hK) (gR_s h7) dX4_set_9 ?_
    refine lv_iload_n hx hb dX4_set_12 rfl (lv_at hl 1 rfl) ?_
    refine lv_lload_n hx hb dX4_set_13 rfl (lv_at hl 2 rfl) ?_
    replace h := ob_s h
    obtain ⟨a8, rfl, h⟩ := h
    have hl : lv_has ls 4 [(0, .ref x0), (1, .int x1), (2, .long x2)] := hl
    obtain ⟨σ9, h10, h⟩ := ob_s h
    refine hm_last S hK hI hL h10 dX4_set_14 (fun H locs hI hL => ?_)
    refine lv_aload_n hx hb dX4_set_15 rfl (lv_at hl 0 rfl) ?_
    obtain ⟨f11, h12, h⟩ := ob_s h
    refine hm_get S hK hI (pf_X4_19_6 hK) (gR_s h12) dX4_set_16 ?_
    refine lv_iload_n hx hb dX4_set_19 rfl (lv_at hl 1 rfl) ?_
    refine lv_iconst (v := 1) hx hb dX4_set_20 (by decide) ?_
    replace h := ob_s h
    obtain ⟨a13, rfl, h⟩ := h
    have hl : lv_has ls 4 [(0, .ref x0), (1, .int x1), (2, .long x2)] := hl
    obtain ⟨σ14, h15, h⟩ := ob_s h
    refine hm_zast S hK hI hL h15 dX4_set_21 (fun H locs hI hL => ?_)
    exact hm_vret hx hb hr hI hL h (by omega) (by omega) hlocks dX4_set_22

def fX1_has_J16 (x0 : Nat) (x1 : Int32)   (σ : hmS) : Option (Int32 × hmS) :=
  some ((0 : Int32), σ)
def fX1_has (x0 : Nat) (x1 : Int32) (σ : hmS) : Option (Int32 × hmS) :=
  if x1 < 0 then
    fX1_has_J16 x0 x1 σ
  else
    ob (gI σ x0 3 3) fun f2 => if f2 ≤ x1 then
      fX1_has_J16 x0 x1 σ
    else
      some ((1 : Int32), σ)
set_option maxHeartbeats 4000000 in
set_option maxRecDepth 100000 in
theorem mX1_has (l : Launch) (E : hmG) {x0 : Nat} {x1 : Int32} {σ σ' : hmS} {r : Int32} (h : fX1_has x0 x1 σ = some (r, σ')) : Met l yX1_has [Cond.code yX1_has cX1_has 2 (some .boolean)] { frames := 0, cells := 0, slots := 0, locals := 0 } (hmPc E [.ref x0, .int x1] σ) (hmQc E (some (.int r)) σ') 0 0 (fun q => hmL E ≤ q) := by
  refine Met.ofW (cc := cX1_has) (maxL := 2) (ret := (some .boolean)) (by decide) rfl ?_
  intro p e s m args below meth c s₁ B hml hv
  obtain ⟨rfl, hK, hI⟩ := hv
  have S : CallFix p m c cX1_has 2 s ([.ref x0, .int x1] : List Value).toArray [] RX1 := ⟨B.exec, B.bytes, hml, findClass_of_methodNamed B.named, fun w hw => by cases hw⟩
  have hx := S.1
  have hb := S.2.1
  have hr := B.returns
  have hlocks := B.notSynchronized
  have hL : hmLo E [] := hmLo.nil
  have hl : lv_has ((lg_sl ([.ref x0, .int x1]) ++ List.replicate (2 - (lg_sl ([.ref x0, .int x1])).length) Slot.unset).toArray) 2 [(0, .ref x0), (1, .int x1)] := by exact lv_entry _ (Nat.le_of_ble_eq_true rfl)
  rw [lg_entry_eq]
  generalize (lg_sl ([.ref x0, .int x1]) ++ List.replicate (2 - (lg_sl ([.ref x0, .int x1])).length) Slot.unset).toArray = ls at hl ⊢
  generalize hRe : (headSpec [Cond.code yX1_has cX1_has 2 (some .boolean)] { frames := 0, cells := 0, slots := 0, locals := 0 }).room = R
  have hR1 : R.frames = 0 ∧ R.cells = 0 ∧ R.slots = 0 ∧ R.locals = 0 := by rw [← hRe]; exact ⟨rfl, rfl, rfl, rfl⟩
  clear hRe B hml
  generalize s.heap = H at hI ⊢
  generalize ([] : List Loc) = locs at hL ⊢
  have hJ16 : ∀  (σ : hmS) (H : Heap) (locs : List Loc) (ls : Array Slot), fX1_has_J16 x0 x1   σ = some (r, σ') → hmI E σ H → hmLo E locs → lv_has ls 2 [] → W p l e R s m ([.ref x0, .int x1] : List Value).toArray below meth c H locs 0 0 (MQ below (hmQc E (some (.int r)) σ') ([.ref x0, .int x1] : List Value).toArray s 0 0 (fun q => hmL E ≤ q)) (F0 m 16 ls []) := by
    intro  σ H locs ls h hI hL hl
    unfold fX1_has_J16 at h
    refine lv_iconst (v := 0) hx hb dX1_has_16 (by decide) ?_
    exact hm_zret hx hb hr rfl hI hL h (by omega) (by omega) hlocks dX1_has_17
  unfold fX1_has at h
  refine lv_iload_n hx hb dX1_has_0 rfl (lv_at hl 1 rfl) ?_
  refine lv_if_lt (tgt := 16) hx hb dX1_has_1 (by decide) (fun c1 => ?_) (fun c1 => ?_)
  · replace h := it_p c1 h
    exact hJ16 _ _ _ _ h hI hL (lv_sub hl [] rfl)
  · replace h := it_n c1 h
    refine lv_iload_n hx hb dX1_has_4 rfl (lv_at hl 1 rfl) ?_
    refine lv_aload_n hx hb dX1_has_5 rfl (lv_at hl 0 rfl) ?_
    obtain ⟨f2, h3, h⟩ := ob_s h
    refine hm_get S hK hI (pf_X1_23_3 hK) (gI_s h3) dX1_has_6 ?_
    refine lv_icmp_ge (tgt := 16) hx hb dX1_has_9 (by decide) (fun c4 => ?_) (fun c4 => ?_)
    · replace h := it_p c4 h
      exact hJ16 _ _ _ _ h hI hL (lv_sub hl [] rfl)
    · replace h := it_n c4 h
      refine lv_iconst (v := 1) hx hb dX1_has_12 (by decide) ?_
      refine lv_goto (tgt := 17) hx hb dX1_has_13 (by decide) ?_
      exact hm_zret hx hb hr rfl hI hL h (by omega) (by omega) hlocks dX1_has_17

def fX5_aroundAt (x0 : Nat) (x1 : Option Nat) (σ : hmS) : Option (Option Nat × hmS) :=
  ob (obC σ x0 7) fun _ => cb (fX5_levelOf x0 x1 σ) fun r4 σ3 => oc r4
    (some (none, σ3))
    (fun a5 => ob (gR σ3 a5 5 1) fun f6 => some (f6, σ3))
set_option maxHeartbeats 4000000 in
set_option maxRecDepth 100000 in
theorem mX5_aroundAt (l : Launch) (E : hmG) {x0 : Nat} {x1 : Option Nat} {σ σ' : hmS} {r : Option Nat} (h : fX5_aroundAt x0 x1 σ = some (r, σ')) : Met l yX5_aroundAt [Cond.code yX5_aroundAt cX5_aroundAt 3 (some (.object "InnerCaptures$Thing"))] { frames := 1, cells := 0, slots := 0, locals := 22 } (hmPc E [.ref x0, va_rf x1] σ) (hmQc E (some (va_rf r)) σ') 0 0 (fun q => hmL E ≤ q) := by
  refine Met.ofW (cc := cX5_aroundAt) (maxL := 3) (ret := (some (.object "InnerCaptures$Thing"))) (by decide) rfl ?_
  intro p e s m args below meth c s₁ B hml hv
  obtain ⟨rfl, hK, hI⟩ := hv
  have S : CallFix p m c cX5_aroundAt 3 s ([.ref x0, va_rf x1] : List Value).toArray [] RX5 := ⟨B.exec, B.bytes, hml, findClass_of_methodNamed B.named, fun w hw => by cases hw⟩
  have hx := S.1
  have hb := S.2.1
  have hr := B.returns
  have hlocks := B.notSynchronized
  have hL : hmLo E [] := hmLo.nil
  have hl : lv_has ((lg_sl ([.ref x0, va_rf x1]) ++ List.replicate (3 - (lg_sl ([.ref x0, va_rf x1])).length) Slot.unset).toArray) 3 [(0, .ref x0), (1, va_rf x1)] := by cases x1 <;> exact lv_entry _ (Nat.le_of_ble_eq_true rfl)
  rw [lg_entry_eq]
  generalize (lg_sl ([.ref x0, va_rf x1]) ++ List.replicate (3 - (lg_sl ([.ref x0, va_rf x1])).length) Slot.unset).toArray = ls at hl ⊢
  generalize hRe : (headSpec [Cond.code yX5_aroundAt cX5_aroundAt 3 (some (.object "InnerCaptures$Thing"))] { frames := 1, cells := 0, slots := 0, locals := 22 }).room = R
  have hR1 : R.frames = 1 ∧ R.cells = 0 ∧ R.slots = 0 ∧ R.locals = 22 := by rw [← hRe]; exact ⟨rfl, rfl, rfl, rfl⟩
  clear hRe B hml
  generalize s.heap = H at hI ⊢
  generalize ([] : List Loc) = locs at hL ⊢
  unfold fX5_aroundAt at h
  refine lv_aload_n hx hb dX5_aroundAt_0 rfl (lv_at hl 0 rfl) ?_
  refine hm_aload_n hx hb dX5_aroundAt_1 rfl (lv_at hl 1 rfl) ?_
  obtain ⟨_, h2, h⟩ := ob_s h
  obtain ⟨r4, σ3, h1, h⟩ := cb_s h
  refine hm_call (hm_runV (As := [va_rf x1]) (rest := []) (ci := 7) S hK hI (obC_s h2) rfl (mX5_levelOf l E h1) (pm_X5_22 hK) (pi_X5_levelOf hK) (pl_X5_X5_levelOf hK) ⟨by omega, by omega⟩ rfl hl.1 (by decide) ⟨by omega, by omega⟩ dX5_aroundAt_2) hL (fun H locs hI hL => ?_)
  refine hm_astore_n (lv' := [(2, va_rf r4), (0, .ref x0), (1, va_rf x1)]) hx hb dX5_aroundAt_5 rfl hl (by decide) (by cases x1 <;> rfl) (fun ls hl => ?_)
  refine hm_aload_n hx hb dX5_aroundAt_6 rfl (lv_at hl 0 rfl) ?_
  cases r4 with
  | none =>
    replace h := oc_n h
    have hl : lv_has ls 3 [(2, va_rf none), (0, .ref x0), (1, va_rf x1)] := hl
    refine lv_ifnonnullN hx hb dX5_aroundAt_7 ?_
    refine hm_null hx hb dX5_aroundAt_10 ?_
    refine lv_goto (tgt := 18) hx hb dX5_aroundAt_11 (by decide) ?_
    exact hm_aret hx hb hr (Or.inl ⟨_, rfl⟩) hI hL h (by omega) (by omega) hlocks dX5_aroundAt_18
  | some a5 =>
    replace h := oc_s h
    have hl : lv_has ls 3 [(2, .ref a5), (0, .ref x0), (1, va_rf x1)] := hl
    refine lv_ifnonnull (tgt := 14) hx hb dX5_aroundAt_7 (by decide) ?_
    refine lv_aload_n hx hb dX5_aroundAt_14 rfl (lv_at hl 0 rfl) ?_
    obtain ⟨f6, h7, h⟩ := ob_s h
    refine hm_get S hK hI (pf_X5_26_5 hK) (gR_s h7) dX5_aroundAt_15 ?_
    exact hm_aret hx hb hr (Or.inl ⟨_, rfl⟩) hI hL h (by omega) (by omega) hlocks dX5_aroundAt_18
end
