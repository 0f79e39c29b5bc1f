-- ===== PART A: goes FIRST, ahead of the names: the tables' words, and 'selects' of the private methods out of them =====
/-- a private method of a class that the tables say can be made, by its rows of tables_1 -/
def lw_okq (q : MethodName × Nat) : Prop := (q.1.cls ≠ "java/lang/invoke/MethodHandle" ∧ q.1.cls ≠ "java/lang/invoke/VarHandle") ∧ Cond.instantiable q.1.cls q.2 ∈ tables_1 ∧ Cond.privateMethod q.1 ∈ tables_1 ∧ Cond.instanceMethod q.1 ∈ tables_1
theorem lw_p0 : lw_okq (⟨"BlockDistance", "textOf", "(I)LBlockDistance$Text;"⟩, 9) := ⟨⟨by decide +kernel, by decide +kernel⟩, List.mem_of_getElem? (i := 19) (by decide +kernel), List.mem_of_getElem? (i := 189) (by decide +kernel), List.mem_of_getElem? (i := 190) (by decide +kernel)⟩
theorem lw_p1 : lw_okq (⟨"java/lang/Throwable", "fillInStackTrace", "(I)Ljava/lang/Throwable;"⟩, 6) := ⟨⟨by decide +kernel, by decide +kernel⟩, List.mem_of_getElem? (i := 231) (by decide +kernel), List.mem_of_getElem? (i := 229) (by decide +kernel), List.mem_of_getElem? (i := 230) (by decide +kernel)⟩
theorem lw_p2 : lw_okq (⟨"BlockDistance", "checkLetter", "(I)V"⟩, 9) := ⟨⟨by decide +kernel, by decide +kernel⟩, List.mem_of_getElem? (i := 19) (by decide +kernel), List.mem_of_getElem? (i := 270) (by decide +kernel), List.mem_of_getElem? (i := 271) (by decide +kernel)⟩
theorem lw_p3 : lw_okq (⟨"BlockDistance", "currentDistances", "()LBlockDistance$Grid;"⟩, 9) := ⟨⟨by decide +kernel, by decide +kernel⟩, List.mem_of_getElem? (i := 19) (by decide +kernel), List.mem_of_getElem? (i := 430) (by decide +kernel), List.mem_of_getElem? (i := 431) (by decide +kernel)⟩
theorem lw_p4 : lw_okq (⟨"BlockDistance$Grid", "put", "(III)V"⟩, 1) := ⟨⟨by decide +kernel, by decide +kernel⟩, List.mem_of_getElem? (i := 88) (by decide +kernel), List.mem_of_getElem? (i := 439) (by decide +kernel), List.mem_of_getElem? (i := 440) (by decide +kernel)⟩
theorem lw_p5 : lw_okq (⟨"BlockDistance$BlockTable", "keyOf", "(LBlockDistance$Grid;LBlockDistance$Text;LBlockDistance$Text;II)I"⟩, 5) := ⟨⟨by decide +kernel, by decide +kernel⟩, List.mem_of_getElem? (i := 111) (by decide +kernel), List.mem_of_getElem? (i := 469) (by decide +kernel), List.mem_of_getElem? (i := 470) (by decide +kernel)⟩
theorem lw_p6 : lw_okq (⟨"BlockDistance$BlockTable", "meet", "(I)V"⟩, 5) := ⟨⟨by decide +kernel, by decide +kernel⟩, List.mem_of_getElem? (i := 111) (by decide +kernel), List.mem_of_getElem? (i := 482) (by decide +kernel), List.mem_of_getElem? (i := 483) (by decide +kernel)⟩
theorem lw_p7 : lw_okq (⟨"BlockDistance", "checkPrefixes", "(III)V"⟩, 9) := ⟨⟨by decide +kernel, by decide +kernel⟩, List.mem_of_getElem? (i := 19) (by decide +kernel), List.mem_of_getElem? (i := 498) (by decide +kernel), List.mem_of_getElem? (i := 499) (by decide +kernel)⟩
theorem lw_p8 : lw_okq (⟨"BlockDistance", "currentWay", "()LBlockDistance$Way;"⟩, 9) := ⟨⟨by decide +kernel, by decide +kernel⟩, List.mem_of_getElem? (i := 19) (by decide +kernel), List.mem_of_getElem? (i := 523) (by decide +kernel), List.mem_of_getElem? (i := 524) (by decide +kernel)⟩
theorem lw_p9 : lw_okq (⟨"BlockDistance", "currentSearch", "()LBlockDistance$Grid;"⟩, 9) := ⟨⟨by decide +kernel, by decide +kernel⟩, List.mem_of_getElem? (i := 19) (by decide +kernel), List.mem_of_getElem? (i := 585) (by decide +kernel), List.mem_of_getElem? (i := 586) (by decide +kernel)⟩
def lw_privs_1 : List (MethodName × Nat) := [(⟨"BlockDistance", "textOf", "(I)LBlockDistance$Text;"⟩, 9), (⟨"java/lang/Throwable", "fillInStackTrace", "(I)Ljava/lang/Throwable;"⟩, 6), (⟨"BlockDistance", "checkLetter", "(I)V"⟩, 9), (⟨"BlockDistance", "currentDistances", "()LBlockDistance$Grid;"⟩, 9), (⟨"BlockDistance$Grid", "put", "(III)V"⟩, 1), (⟨"BlockDistance$BlockTable", "keyOf", "(LBlockDistance$Grid;LBlockDistance$Text;LBlockDistance$Text;II)I"⟩, 5), (⟨"BlockDistance$BlockTable", "meet", "(I)V"⟩, 5), (⟨"BlockDistance", "checkPrefixes", "(III)V"⟩, 9), (⟨"BlockDistance", "currentWay", "()LBlockDistance$Way;"⟩, 9), (⟨"BlockDistance", "currentSearch", "()LBlockDistance$Grid;"⟩, 9)]
theorem lw_r1 : ∀ q ∈ lw_privs_1, lw_okq q := List.forall_mem_cons.mpr ⟨lw_p0, List.forall_mem_cons.mpr ⟨lw_p1, List.forall_mem_cons.mpr ⟨lw_p2, List.forall_mem_cons.mpr ⟨lw_p3, List.forall_mem_cons.mpr ⟨lw_p4, List.forall_mem_cons.mpr ⟨lw_p5, List.forall_mem_cons.mpr ⟨lw_p6, List.forall_mem_cons.mpr ⟨lw_p7, List.forall_mem_cons.mpr ⟨lw_p8, List.forall_mem_cons.mpr ⟨lw_p9, fun _ h => absurd h List.not_mem_nil⟩⟩⟩⟩⟩⟩⟩⟩⟩⟩
def lw_privs : List (MethodName × Nat) := lw_privs_1
def lw_tbl : List Cond := k2_sels lw_privs ++ tables_1
theorem lw_privs_ok : ∀ q ∈ lw_privs, lw_okq q := lw_r1
/-- the streams that the claim lets the run draw from -/
abbrev lw_cs : List Choice := [Jvm.Choice.named "NaN.bits"]
theorem lw_bits : nanBits ∈ lw_cs := by first | decide | exact List.mem_cons_self | simp [lw_cs, nanBits]
def RX0 : String := "BlockDistance$BlockTable"
def TX0 : u_T := fun k => match k with
  | 0 => ("BlockDistance$BlockTable", "met", "[J", true)
  | 1 => ("BlockDistance$BlockTable", "blockSize", "I", false)
  | 2 => ("BlockDistance$BlockTable", "hitCount", "I", false)
  | 3 => ("BlockDistance$BlockTable", "missCount", "I", false)
  | _ => ("BlockDistance$BlockTable", "singleCount", "I", false)
def tyX0 : Nat → FieldType := fun k => match k with
  | 0 => .array .long
  | 1 => .int
  | 2 => .int
  | 3 => .int
  | _ => .int
abbrev wsX00 : List Cond := u_ws RX0 TX0 5
theorem nmX0 : ∀ a, a < 5 → ∀ b, b < 5 → a ≠ b → (TX0 a).2.1 ≠ (TX0 b).2.1 := by decide +kernel
theorem tyX0_ok : ∀ k, k < 5 → parseFieldDescriptor (TX0 k).2.2.1 = some (tyX0 k) := by decide +kernel
abbrev cX0_init : ByteArray := prog_2_method_1_code
def yX0_init : MethodName := ⟨RX0, "<init>", "()V"⟩
abbrev cX0_blockSize : ByteArray := prog_2_method_2_code
def yX0_blockSize : MethodName := ⟨RX0, "blockSize", "()I"⟩
abbrev cX0_hitCount : ByteArray := prog_2_method_3_code
def yX0_hitCount : MethodName := ⟨RX0, "hitCount", "()I"⟩
abbrev cX0_missCount : ByteArray := prog_2_method_4_code
def yX0_missCount : MethodName := ⟨RX0, "missCount", "()I"⟩
abbrev cX0_singleCount : ByteArray := prog_2_method_5_code
def yX0_singleCount : MethodName := ⟨RX0, "singleCount", "()I"⟩
abbrev cX0_startAnew : ByteArray := prog_2_method_6_code
def yX0_startAnew : MethodName := ⟨RX0, "startAnew", "(I)V"⟩
abbrev cX0_copyFrom : ByteArray := prog_2_method_7_code
def yX0_copyFrom : MethodName := ⟨RX0, "copyFrom", "(LBlockDistance$BlockTable;)V"⟩
abbrev cX0_meetBlocks : ByteArray := prog_2_method_8_code
def yX0_meetBlocks : MethodName := ⟨RX0, "meetBlocks", "(LBlockDistance$Grid;LBlockDistance$Text;LBlockDistance$Text;)V"⟩
abbrev cX0_keyOf : ByteArray := prog_2_method_9_code
def yX0_keyOf : MethodName := ⟨RX0, "keyOf", "(LBlockDistance$Grid;LBlockDistance$Text;LBlockDistance$Text;II)I"⟩
abbrev cX0_meet : ByteArray := prog_2_method_10_code
def yX0_meet : MethodName := ⟨RX0, "meet", "(I)V"⟩
def RX1 : String := "BlockDistance$Grid"
def TX1 : u_T := fun k => match k with
  | _ => ("BlockDistance$Grid", "cells", "[I", true)
def tyX1 : Nat → FieldType := fun k => match k with
  | _ => .array .int
abbrev wsX10 : List Cond := u_ws RX1 TX1 1
theorem nmX1 : ∀ a, a < 1 → ∀ b, b < 1 → a ≠ b → (TX1 a).2.1 ≠ (TX1 b).2.1 := by decide +kernel
theorem tyX1_ok : ∀ k, k < 1 → parseFieldDescriptor (TX1 k).2.2.1 = some (tyX1 k) := by decide +kernel
abbrev cX1_init : ByteArray := prog_3_method_1_code
def yX1_init : MethodName := ⟨RX1, "<init>", "()V"⟩
abbrev cX1_at : ByteArray := prog_3_method_2_code
def yX1_at : MethodName := ⟨RX1, "at", "(II)I"⟩
abbrev cX1_stepAcross : ByteArray := prog_3_method_3_code
def yX1_stepAcross : MethodName := ⟨RX1, "stepAcross", "(II)I"⟩
abbrev cX1_stepDown : ByteArray := prog_3_method_4_code
def yX1_stepDown : MethodName := ⟨RX1, "stepDown", "(II)I"⟩
abbrev cX1_fill : ByteArray := prog_3_method_5_code
def yX1_fill : MethodName := ⟨RX1, "fill", "(LBlockDistance$Text;LBlockDistance$Text;I)V"⟩
abbrev cX1_put : ByteArray := prog_3_method_6_code
def yX1_put : MethodName := ⟨RX1, "put", "(III)V"⟩
abbrev cX1_isInside : ByteArray := prog_3_method_7_code
def yX1_isInside : MethodName := ⟨RX1, "isInside", "(II)Z"⟩
def RX2 : String := "BlockDistance$InputBuffer"
def TX2 : u_T := fun k => match k with
  | 0 => ("BlockDistance$InputBuffer", "codes", "[I", true)
  | _ => ("BlockDistance$InputBuffer", "size", "I", false)
def tyX2 : Nat → FieldType := fun k => match k with
  | 0 => .array .int
  | _ => .int
abbrev wsX20 : List Cond := u_ws RX2 TX2 2
theorem nmX2 : ∀ a, a < 2 → ∀ b, b < 2 → a ≠ b → (TX2 a).2.1 ≠ (TX2 b).2.1 := by decide +kernel
theorem tyX2_ok : ∀ k, k < 2 → parseFieldDescriptor (TX2 k).2.2.1 = some (tyX2 k) := by decide +kernel
abbrev cX2_init : ByteArray := prog_4_method_1_code
def yX2_init : MethodName := ⟨RX2, "<init>", "()V"⟩
def RX3 : String := "BlockDistance$Replacements"
def TX3 : u_T := fun k => match k with
  | 0 => ("BlockDistance$Replacements", "before", "LBlockDistance$Grid;", true)
  | 1 => ("BlockDistance$Replacements", "behind", "LBlockDistance$Grid;", true)
  | 2 => ("BlockDistance$Replacements", "changedBackward", "LBlockDistance$Text;", true)
  | _ => ("BlockDistance$Replacements", "otherBackward", "LBlockDistance$Text;", true)
def tyX3 : Nat → FieldType := fun k => match k with
  | 0 => .object "BlockDistance$Grid"
  | 1 => .object "BlockDistance$Grid"
  | 2 => .object "BlockDistance$Text"
  | _ => .object "BlockDistance$Text"
abbrev wsX30 : List Cond := u_ws RX3 TX3 4
theorem nmX3 : ∀ a, a < 4 → ∀ b, b < 4 → a ≠ b → (TX3 a).2.1 ≠ (TX3 b).2.1 := by decide +kernel
theorem tyX3_ok : ∀ k, k < 4 → parseFieldDescriptor (TX3 k).2.2.1 = some (tyX3 k) := by decide +kernel
abbrev cX3_init : ByteArray := prog_5_method_1_code
def yX3_init : MethodName := ⟨RX3, "<init>", "()V"⟩
abbrev cX3_prepare : ByteArray := prog_5_method_2_code
def yX3_prepare : MethodName := ⟨RX3, "prepare", "(LBlockDistance$Text;LBlockDistance$Text;)V"⟩
abbrev cX3_distanceWith : ByteArray := prog_5_method_3_code
def yX3_distanceWith : MethodName := ⟨RX3, "distanceWith", "(LBlockDistance$Text;LBlockDistance$Text;II)I"⟩
def RX4 : String := "BlockDistance$SavedStates"
def TX4 : u_T := fun k => match k with
  | 0 => ("BlockDistance$SavedStates", "states", "[LBlockDistance$State;", true)
  | 1 => ("BlockDistance$SavedStates", "oldest", "I", false)
  | _ => ("BlockDistance$SavedStates", "size", "I", false)
def tyX4 : Nat → FieldType := fun k => match k with
  | 0 => .array (.object "BlockDistance$State")
  | 1 => .int
  | _ => .int
abbrev wsX40 : List Cond := u_ws RX4 TX4 3
theorem nmX4 : ∀ a, a < 3 → ∀ b, b < 3 → a ≠ b → (TX4 a).2.1 ≠ (TX4 b).2.1 := by decide +kernel
theorem tyX4_ok : ∀ k, k < 3 → parseFieldDescriptor (TX4 k).2.2.1 = some (tyX4 k) := by decide +kernel
abbrev cX4_init : ByteArray := prog_6_method_1_code
def yX4_init : MethodName := ⟨RX4, "<init>", "()V"⟩
abbrev cX4_size : ByteArray := prog_6_method_2_code
def yX4_size : MethodName := ⟨RX4, "size", "()I"⟩
abbrev cX4_save : ByteArray := prog_6_method_3_code
def yX4_save : MethodName := ⟨RX4, "save", "(LBlockDistance$State;)V"⟩
abbrev cX4_restore : ByteArray := prog_6_method_4_code
def yX4_restore : MethodName := ⟨RX4, "restore", "(LBlockDistance$State;)V"⟩
def RX5 : String := "BlockDistance$State"
def TX5 : u_T := fun k => match k with
  | 0 => ("BlockDistance$State", "first", "LBlockDistance$Text;", false)
  | 1 => ("BlockDistance$State", "second", "LBlockDistance$Text;", false)
  | _ => ("BlockDistance$State", "alphabet", "I", false)
def tyX5 : Nat → FieldType := fun k => match k with
  | 0 => .object "BlockDistance$Text"
  | 1 => .object "BlockDistance$Text"
  | _ => .int
abbrev wsX50 : List Cond := u_ws RX5 TX5 3
theorem nmX5 : ∀ a, a < 3 → ∀ b, b < 3 → a ≠ b → (TX5 a).2.1 ≠ (TX5 b).2.1 := by decide +kernel
theorem tyX5_ok : ∀ k, k < 3 → parseFieldDescriptor (TX5 k).2.2.1 = some (tyX5 k) := by decide +kernel
abbrev cX5_init : ByteArray := prog_7_method_1_code
def yX5_init : MethodName := ⟨RX5, "<init>", "()V"⟩
abbrev cX5_text : ByteArray := prog_7_method_2_code
def yX5_text : MethodName := ⟨RX5, "text", "(I)LBlockDistance$Text;"⟩
abbrev cX5_alphabet : ByteArray := prog_7_method_3_code
def yX5_alphabet : MethodName := ⟨RX5, "alphabet", "()I"⟩
abbrev cX5_setLetters : ByteArray := prog_7_method_4_code
def yX5_setLetters : MethodName := ⟨RX5, "setLetters", "(I)V"⟩
abbrev cX5_swapTexts : ByteArray := prog_7_method_5_code
def yX5_swapTexts : MethodName := ⟨RX5, "swapTexts", "()V"⟩
abbrev cX5_copyFrom : ByteArray := prog_7_method_6_code
def yX5_copyFrom : MethodName := ⟨RX5, "copyFrom", "(LBlockDistance$State;)V"⟩
def RX6 : String := "BlockDistance$Text"
def TX6 : u_T := fun k => match k with
  | 0 => ("BlockDistance$Text", "letters", "[I", true)
  | _ => ("BlockDistance$Text", "size", "I", false)
def tyX6 : Nat → FieldType := fun k => match k with
  | 0 => .array .int
  | _ => .int
abbrev wsX60 : List Cond := u_ws RX6 TX6 2
theorem nmX6 : ∀ a, a < 2 → ∀ b, b < 2 → a ≠ b → (TX6 a).2.1 ≠ (TX6 b).2.1 := by decide +kernel
theorem tyX6_ok : ∀ k, k < 2 → parseFieldDescriptor (TX6 k).2.2.1 = some (tyX6 k) := by decide +kernel
abbrev cX6_init : ByteArray := prog_8_method_1_code
def yX6_init : MethodName := ⟨RX6, "<init>", "()V"⟩
abbrev cX6_size : ByteArray := prog_8_method_2_code
def yX6_size : MethodName := ⟨RX6, "size", "()I"⟩
abbrev cX6_at : ByteArray := prog_8_method_3_code
def yX6_at : MethodName := ⟨RX6, "at", "(I)I"⟩
abbrev cX6_set : ByteArray := prog_8_method_4_code
def yX6_set : MethodName := ⟨RX6, "set", "(II)V"⟩
abbrev cX6_putIn : ByteArray := prog_8_method_5_code
def yX6_putIn : MethodName := ⟨RX6, "putIn", "(II)V"⟩
abbrev cX6_takeOut : ByteArray := prog_8_method_6_code
def yX6_takeOut : MethodName := ⟨RX6, "takeOut", "(I)V"⟩
abbrev cX6_empty : ByteArray := prog_8_method_7_code
def yX6_empty : MethodName := ⟨RX6, "empty", "()V"⟩
abbrev cX6_copyFrom : ByteArray := prog_8_method_8_code
def yX6_copyFrom : MethodName := ⟨RX6, "copyFrom", "(LBlockDistance$Text;)V"⟩
abbrev cX6_copyBackward : ByteArray := prog_8_method_9_code
def yX6_copyBackward : MethodName := ⟨RX6, "copyBackward", "(LBlockDistance$Text;)V"⟩
abbrev cX6_keepsTo : ByteArray := prog_8_method_10_code
def yX6_keepsTo : MethodName := ⟨RX6, "keepsTo", "(I)Z"⟩
def RX7 : String := "BlockDistance$Way"
def TX7 : u_T := fun k => match k with
  | 0 => ("BlockDistance$Way", "backward", "[I", true)
  | _ => ("BlockDistance$Way", "size", "I", false)
def tyX7 : Nat → FieldType := fun k => match k with
  | 0 => .array .int
  | _ => .int
abbrev wsX70 : List Cond := u_ws RX7 TX7 2
theorem nmX7 : ∀ a, a < 2 → ∀ b, b < 2 → a ≠ b → (TX7 a).2.1 ≠ (TX7 b).2.1 := by decide +kernel
theorem tyX7_ok : ∀ k, k < 2 → parseFieldDescriptor (TX7 k).2.2.1 = some (tyX7 k) := by decide +kernel
abbrev cX7_init : ByteArray := prog_9_method_1_code
def yX7_init : MethodName := ⟨RX7, "<init>", "()V"⟩
abbrev cX7_size : ByteArray := prog_9_method_2_code
def yX7_size : MethodName := ⟨RX7, "size", "()I"⟩
abbrev cX7_at : ByteArray := prog_9_method_3_code
def yX7_at : MethodName := ⟨RX7, "at", "(I)I"⟩
abbrev cX7_stepsOf : ByteArray := prog_9_method_4_code
def yX7_stepsOf : MethodName := ⟨RX7, "stepsOf", "(I)I"⟩
abbrev cX7_find : ByteArray := prog_9_method_5_code
def yX7_find : MethodName := ⟨RX7, "find", "(LBlockDistance$Grid;LBlockDistance$Text;LBlockDistance$Text;)V"⟩
abbrev cX7_lastStep : ByteArray := prog_9_method_6_code
def yX7_lastStep : MethodName := ⟨RX7, "lastStep", "(LBlockDistance$Grid;III)I"⟩
def RX8 : String := "BlockDistance"
def TX8 : u_T := fun k => match k with
  | 0 => ("BlockDistance", "state", "LBlockDistance$State;", true)
  | 1 => ("BlockDistance", "saved", "LBlockDistance$SavedStates;", true)
  | 2 => ("BlockDistance", "buffer", "LBlockDistance$InputBuffer;", true)
  | 3 => ("BlockDistance", "distances", "LBlockDistance$Grid;", true)
  | 4 => ("BlockDistance", "search", "LBlockDistance$Grid;", true)
  | 5 => ("BlockDistance", "way", "LBlockDistance$Way;", true)
  | 6 => ("BlockDistance", "table", "LBlockDistance$BlockTable;", true)
  | 7 => ("BlockDistance", "trialTable", "LBlockDistance$BlockTable;", true)
  | _ => ("BlockDistance", "replacements", "LBlockDistance$Replacements;", true)
def tyX8 : Nat → FieldType := fun k => match k with
  | 0 => .object "BlockDistance$State"
  | 1 => .object "BlockDistance$SavedStates"
  | 2 => .object "BlockDistance$InputBuffer"
  | 3 => .object "BlockDistance$Grid"
  | 4 => .object "BlockDistance$Grid"
  | 5 => .object "BlockDistance$Way"
  | 6 => .object "BlockDistance$BlockTable"
  | 7 => .object "BlockDistance$BlockTable"
  | _ => .object "BlockDistance$Replacements"
abbrev wsX80 : List Cond := u_ws RX8 TX8 9
theorem nmX8 : ∀ a, a < 9 → ∀ b, b < 9 → a ≠ b → (TX8 a).2.1 ≠ (TX8 b).2.1 := by decide +kernel
theorem tyX8_ok : ∀ k, k < 9 → parseFieldDescriptor (TX8 k).2.2.1 = some (tyX8 k) := by decide +kernel
abbrev cX8_init : ByteArray := prog_1_method_1_code
def yX8_init : MethodName := ⟨RX8, "<init>", "()V"⟩
abbrev cX8_insert : ByteArray := prog_1_method_3_code
def yX8_insert : MethodName := ⟨RX8, "insert", "(III)I"⟩
abbrev cX8_remove : ByteArray := prog_1_method_4_code
def yX8_remove : MethodName := ⟨RX8, "remove", "(II)I"⟩
abbrev cX8_replace : ByteArray := prog_1_method_5_code
def yX8_replace : MethodName := ⟨RX8, "replace", "(III)I"⟩
abbrev cX8_exchange : ByteArray := prog_1_method_6_code
def yX8_exchange : MethodName := ⟨RX8, "exchange", "()I"⟩
abbrev cX8_setAlphabet : ByteArray := prog_1_method_7_code
def yX8_setAlphabet : MethodName := ⟨RX8, "setAlphabet", "(I)I"⟩
abbrev cX8_length : ByteArray := prog_1_method_8_code
def yX8_length : MethodName := ⟨RX8, "length", "(I)I"⟩
abbrev cX8_letter : ByteArray := prog_1_method_9_code
def yX8_letter : MethodName := ⟨RX8, "letter", "(II)I"⟩
abbrev cX8_distance : ByteArray := prog_1_method_10_code
def yX8_distance : MethodName := ⟨RX8, "distance", "()I"⟩
abbrev cX8_prefix : ByteArray := prog_1_method_11_code
def yX8_prefix : MethodName := ⟨RX8, "prefix", "(II)I"⟩
abbrev cX8_steps : ByteArray := prog_1_method_12_code
def yX8_steps : MethodName := ⟨RX8, "steps", "()I"⟩
abbrev cX8_step : ByteArray := prog_1_method_13_code
def yX8_step : MethodName := ⟨RX8, "step", "(I)I"⟩
abbrev cX8_count : ByteArray := prog_1_method_14_code
def yX8_count : MethodName := ⟨RX8, "count", "(I)I"⟩
abbrev cX8_within : ByteArray := prog_1_method_15_code
def yX8_within : MethodName := ⟨RX8, "within", "(I)I"⟩
abbrev cX8_band : ByteArray := prog_1_method_16_code
def yX8_band : MethodName := ⟨RX8, "band", "(I)I"⟩
abbrev cX8_similarity : ByteArray := prog_1_method_17_code
def yX8_similarity : MethodName := ⟨RX8, "similarity", "()D"⟩
abbrev cX8_setBlock : ByteArray := prog_1_method_18_code
def yX8_setBlock : MethodName := ⟨RX8, "setBlock", "(I)I"⟩
abbrev cX8_measure : ByteArray := prog_1_method_19_code
def yX8_measure : MethodName := ⟨RX8, "measure", "()I"⟩
abbrev cX8_hits : ByteArray := prog_1_method_20_code
def yX8_hits : MethodName := ⟨RX8, "hits", "()I"⟩
abbrev cX8_misses : ByteArray := prog_1_method_21_code
def yX8_misses : MethodName := ⟨RX8, "misses", "()I"⟩
abbrev cX8_singleSteps : ByteArray := prog_1_method_22_code
def yX8_singleSteps : MethodName := ⟨RX8, "singleSteps", "()I"⟩
abbrev cX8_across : ByteArray := prog_1_method_23_code
def yX8_across : MethodName := ⟨RX8, "across", "(II)I"⟩
abbrev cX8_foundDistance : ByteArray := prog_1_method_24_code
def yX8_foundDistance : MethodName := ⟨RX8, "foundDistance", "()I"⟩
abbrev cX8_foundEnd : ByteArray := prog_1_method_25_code
def yX8_foundEnd : MethodName := ⟨RX8, "foundEnd", "()I"⟩
abbrev cX8_ifReplaced : ByteArray := prog_1_method_26_code
def yX8_ifReplaced : MethodName := ⟨RX8, "ifReplaced", "(III)I"⟩
abbrev cX8_bestReplacement : ByteArray := prog_1_method_27_code
def yX8_bestReplacement : MethodName := ⟨RX8, "bestReplacement", "(I)I"⟩
abbrev cX8_missesToCome : ByteArray := prog_1_method_28_code
def yX8_missesToCome : MethodName := ⟨RX8, "missesToCome", "()I"⟩
abbrev cX8_undo : ByteArray := prog_1_method_32_code
def yX8_undo : MethodName := ⟨RX8, "undo", "()I"⟩
abbrev cX8_savedStates : ByteArray := prog_1_method_33_code
def yX8_savedStates : MethodName := ⟨RX8, "savedStates", "()I"⟩
abbrev cX8_currentDistances : ByteArray := prog_1_method_39_code
def yX8_currentDistances : MethodName := ⟨RX8, "currentDistances", "()LBlockDistance$Grid;"⟩
abbrev cX8_currentSearch : ByteArray := prog_1_method_40_code
def yX8_currentSearch : MethodName := ⟨RX8, "currentSearch", "()LBlockDistance$Grid;"⟩
abbrev cX8_currentWay : ByteArray := prog_1_method_41_code
def yX8_currentWay : MethodName := ⟨RX8, "currentWay", "()LBlockDistance$Way;"⟩
abbrev cX8_textOf : ByteArray := prog_1_method_42_code
def yX8_textOf : MethodName := ⟨RX8, "textOf", "(I)LBlockDistance$Text;"⟩
abbrev cX8_checkPlace : ByteArray := prog_1_method_43_code
def yX8_checkPlace : MethodName := ⟨RX8, "checkPlace", "(LBlockDistance$Text;I)V"⟩
abbrev cX8_checkLetter : ByteArray := prog_1_method_44_code
def yX8_checkLetter : MethodName := ⟨RX8, "checkLetter", "(I)V"⟩
abbrev cX8_checkPrefixes : ByteArray := prog_1_method_45_code
def yX8_checkPrefixes : MethodName := ⟨RX8, "checkPrefixes", "(III)V"⟩
abbrev cX8_checkBound : ByteArray := prog_1_method_46_code
def yX8_checkBound : MethodName := ⟨RX8, "checkBound", "(I)V"⟩
abbrev cX8_replaceCost : ByteArray := prog_1_method_47_code
def yX8_replaceCost : MethodName := ⟨RX8, "replaceCost", "(II)I"⟩
abbrev cX8_leastCost : ByteArray := prog_1_method_48_code
def yX8_leastCost : MethodName := ⟨RX8, "leastCost", "(IIII)I"⟩
def RX9 : String := "BlockDistanceModel"
def TX9 : u_T := fun k => match k with
  | _ => ("", "", "", false)
def tyX9 : Nat → FieldType := fun k => match k with
  | _ => .int
abbrev wsX90 : List Cond := u_ws RX9 TX9 0
theorem nmX9 : ∀ a, a < 0 → ∀ b, b < 0 → a ≠ b → (TX9 a).2.1 ≠ (TX9 b).2.1 := by decide +kernel
theorem tyX9_ok : ∀ k, k < 0 → parseFieldDescriptor (TX9 k).2.2.1 = some (tyX9 k) := by decide +kernel
def RL : String := "BlockDistanceLaw"
abbrev cL_cell : ByteArray := method_2_code
def yL_cell : MethodName := ⟨RL, "cell", "([II)I"⟩
abbrev cL_low : ByteArray := method_3_code
def yL_low : MethodName := ⟨RL, "low", "(II)I"⟩
abbrev cL_does : ByteArray := method_4_code
def yL_does : MethodName := ⟨RL, "does", "(LBlockDistance;I)I"⟩
abbrev cL_least : ByteArray := method_5_code
def yL_least : MethodName := ⟨RL, "least", "(III)I"⟩
abbrev cL_isGridSo : ByteArray := method_6_code
def yL_isGridSo : MethodName := ⟨RL, "isGridSo", "(LBlockDistance;)Z"⟩
abbrev cL_isWaySo : ByteArray := method_7_code
def yL_isWaySo : MethodName := ⟨RL, "isWaySo", "(LBlockDistance;)Z"⟩
abbrev cL_areBoundsSo : ByteArray := method_8_code
def yL_areBoundsSo : MethodName := ⟨RL, "areBoundsSo", "(LBlockDistance;)Z"⟩
abbrev cL_isMeasureSo : ByteArray := method_9_code
def yL_isMeasureSo : MethodName := ⟨RL, "isMeasureSo", "(LBlockDistance;I)Z"⟩
abbrev cL_areReplacedSo : ByteArray := method_10_code
def yL_areReplacedSo : MethodName := ⟨RL, "areReplacedSo", "(LBlockDistance;II)Z"⟩
abbrev cL_law : ByteArray := code
def yL_law : MethodName := ⟨RL, "law", "([I)Z"⟩
abbrev vwCl : List vw_C := [(RX0, TX0, 5), (RX1, TX1, 1), (RX2, TX2, 2), (RX3, TX3, 4), (RX4, TX4, 3), (RX5, TX5, 3), (RX6, TX6, 2), (RX7, TX7, 2), (RX8, TX8, 9)]

/-- every word of the tables that stays good while the machine warms: the one list of all contracts -/
def WA : List Cond := lw_tbl.filter goodWord
theorem wa_of {w : Cond} (i : Nat) (h : lw_tbl[i]? = some w) (g : goodWord w = true) : w ∈ WA := List.mem_filter.mpr ⟨List.mem_of_getElem? h, g⟩
theorem wa_all (ws : List Cond) (ps : List Nat) (hp : ws = ps.filterMap (fun i => lw_tbl[i]?)) (g : ws.all goodWord = true) : ∀ w ∈ ws, w ∈ WA := by
  intro w hw
  have h1 := List.all_eq_true.mp g w hw
  rw [hp] at hw
  obtain ⟨i, -, hi⟩ := List.mem_filterMap.mp hw
  exact wa_of i hi h1
theorem wa_good {w : Cond} (h : w ∈ WA) : goodWord w = true := (List.mem_filter.mp h).2
theorem wa_tbl {w : Cond} (h : w ∈ WA) : w ∈ lw_tbl := (List.mem_filter.mp h).1
abbrev wz (y : MethodName) (cc : ByteArray) (n : Nat) (r : Option FieldType) : List Cond := .code y cc n r :: WA
theorem wfX0 : ∀ w ∈ wsX00, w ∈ WA := wa_all _ [131, 133, 135, 137, 139] (by decide +kernel) (by decide +kernel)
theorem wfX1 : ∀ w ∈ wsX10, w ∈ WA := wa_all _ [104] (by decide +kernel) (by decide +kernel)
theorem wfX2 : ∀ w ∈ wsX20, w ∈ WA := wa_all _ [92, 94] (by decide +kernel) (by decide +kernel)
theorem wfX3 : ∀ w ∈ wsX30, w ∈ WA := wa_all _ [157, 159, 161, 163] (by decide +kernel) (by decide +kernel)
theorem wfX4 : ∀ w ∈ wsX40, w ∈ WA := wa_all _ [77, 79, 81] (by decide +kernel) (by decide +kernel)
theorem wfX5 : ∀ w ∈ wsX50, w ∈ WA := wa_all _ [59, 61, 63] (by decide +kernel) (by decide +kernel)
theorem wfX6 : ∀ w ∈ wsX60, w ∈ WA := wa_all _ [50, 52] (by decide +kernel) (by decide +kernel)
theorem wfX7 : ∀ w ∈ wsX70, w ∈ WA := wa_all _ [115, 117] (by decide +kernel) (by decide +kernel)
theorem wfX8 : ∀ w ∈ wsX80, w ∈ WA := wa_all _ [175, 177, 179, 181, 183, 185, 187, 189, 191] (by decide +kernel) (by decide +kernel)
